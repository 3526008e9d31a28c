def pgJ6_bitCount_0f7a4 : List (Nat × Instr × Nat) := [(0, .iload_n 0, 1), (1, .iload_n 0, 1), (2, .iconst 1, 1), (3, .iushr, 1), (4, .ldc_w 265, 3), (7, .iand, 1), (8, .isub, 1), (9, .istore_n 0, 1), (10, .iload_n 0, 1), (11, .ldc_w 266, 3), (14, .iand, 1), (15, .iload_n 0, 1), (16, .iconst 2, 1), (17, .iushr, 1), (18, .ldc_w 266, 3), (21, .iand, 1), (22, .iadd, 1), (23, .istore_n 0, 1), (24, .iload_n 0, 1), (25, .iload_n 0, 1), (26, .iconst 4, 1), (27, .iushr, 1), (28, .iadd, 1), (29, .ldc_w 267, 3), (32, .iand, 1), (33, .istore_n 0, 1), (34, .iload_n 0, 1), (35, .iload_n 0, 1), (36, .bipush 8, 2), (38, .iushr, 1), (39, .iadd, 1), (40, .istore_n 0, 1), (41, .iload_n 0, 1), (42, .iload_n 0, 1), (43, .bipush 16, 2), (45, .iushr, 1), (46, .iadd, 1), (47, .istore_n 0, 1), (48, .iload_n 0, 1), (49, .bipush 63, 2), (51, .iand, 1), (52, .ireturn, 1)]
theorem dkJ6_bitCount_0f7a4 : ∀ q ∈ pgJ6_bitCount_0f7a4, decode cJ6_bitCount_0f7a4 q.1 = .ok q.2 := by decide +kernel
def f_J6_bitCount_0f7a4 (a1 : Int32) (h0 : PH) : Option (Int32 × PH) :=
  lt (a1 - (((a1.toUInt32 >>> ((1 : Int32).toUInt32 &&& Int32.toUInt32 31)).toInt32) &&& (1431655765 : Int32))) (fun (x1 : Int32) => lt ((x1 &&& (858993459 : Int32)) + (((x1.toUInt32 >>> ((2 : Int32).toUInt32 &&& Int32.toUInt32 31)).toInt32) &&& (858993459 : Int32))) (fun (x2 : Int32) => lt ((x2 + ((x2.toUInt32 >>> ((4 : Int32).toUInt32 &&& Int32.toUInt32 31)).toInt32)) &&& (252645135 : Int32)) (fun (x3 : Int32) => lt (x3 + ((x3.toUInt32 >>> ((8 : Int32).toUInt32 &&& Int32.toUInt32 31)).toInt32)) (fun (x4 : Int32) => lt (x4 + ((x4.toUInt32 >>> ((16 : Int32).toUInt32 &&& Int32.toUInt32 31)).toInt32)) (fun (x5 : Int32) => some ((x5 &&& (63 : Int32)), h0))))))
set_option maxRecDepth 100000 in
set_option maxHeartbeats 4000000 in
theorem ct_J6_bitCount_0f7a4 (l : Launch) (a1 : Int32) (h0 : PH)  : CT mkI l yJ6_bitCount_0f7a4 cJ6_bitCount_0f7a4 1 (some .int) (rmd 0) [.int a1] h0 (f_J6_bitCount_0f7a4 a1 h0) := by
  refine ct_of (by decide) (Nat.le_of_ble_eq_true rfl) ?_
  intro p e s m args below meth c D cA ad A X hr hlk
  have X : Cx p s m args c RJ6 cJ6_bitCount_0f7a4 1 D cA ad A := X
  unfold f_J6_bitCount_0f7a4
  refine so_pick (L' := [(0, .int a1)]) X [0] rfl ?_
  refine so_iload_n (i := 0) X 0 (dkJ6_bitCount_0f7a4 (0, .iload_n 0, 1) (pgm 0 rfl)) rfl rfl ?_
  refine so_iload_n (i := 0) X 0 (dkJ6_bitCount_0f7a4 (1, .iload_n 0, 1) (pgm 1 rfl)) rfl rfl ?_
  refine so_iconst (v := (1 : Int32)) X (dkJ6_bitCount_0f7a4 (2, .iconst 1, 1) (pgm 2 rfl)) ic_1 ?_
  refine so_iushr X (dkJ6_bitCount_0f7a4 (3, .iushr, 1) (pgm 3 rfl)) rfl ?_
  refine so_ldcw X lk_637 (dkJ6_bitCount_0f7a4 (4, .ldc_w 265, 3) (pgm 4 rfl)) ?_
  refine so_iand X (dkJ6_bitCount_0f7a4 (7, .iand, 1) (pgm 5 rfl)) ?_
  refine so_isub X (dkJ6_bitCount_0f7a4 (8, .isub, 1) (pgm 6 rfl)) ?_
  refine so_istore_n (i := 0) X (dkJ6_bitCount_0f7a4 (9, .istore_n 0, 1) (pgm 7 rfl)) rfl (by decide) (Lf := fun x1 => [(0, .int x1)]) (fun _ => rfl) (fun x1 => ?_)
  refine so_iload_n (i := 0) X 0 (dkJ6_bitCount_0f7a4 (10, .iload_n 0, 1) (pgm 8 rfl)) rfl rfl ?_
  refine so_ldcw X lk_638 (dkJ6_bitCount_0f7a4 (11, .ldc_w 266, 3) (pgm 9 rfl)) ?_
  refine so_iand X (dkJ6_bitCount_0f7a4 (14, .iand, 1) (pgm 10 rfl)) ?_
  refine so_iload_n (i := 0) X 0 (dkJ6_bitCount_0f7a4 (15, .iload_n 0, 1) (pgm 11 rfl)) rfl rfl ?_
  refine so_iconst (v := (2 : Int32)) X (dkJ6_bitCount_0f7a4 (16, .iconst 2, 1) (pgm 12 rfl)) ic_2 ?_
  refine so_iushr X (dkJ6_bitCount_0f7a4 (17, .iushr, 1) (pgm 13 rfl)) rfl ?_
  refine so_ldcw X lk_638 (dkJ6_bitCount_0f7a4 (18, .ldc_w 266, 3) (pgm 14 rfl)) ?_
  refine so_iand X (dkJ6_bitCount_0f7a4 (21, .iand, 1) (pgm 15 rfl)) ?_
  refine so_iadd X (dkJ6_bitCount_0f7a4 (22, .iadd, 1) (pgm 16 rfl)) ?_
  refine so_istore_n (i := 0) X (dkJ6_bitCount_0f7a4 (23, .istore_n 0, 1) (pgm 17 rfl)) rfl (by decide) (Lf := fun x2 => [(0, .int x2)]) (fun _ => rfl) (fun x2 => ?_)
  refine so_iload_n (i := 0) X 0 (dkJ6_bitCount_0f7a4 (24, .iload_n 0, 1) (pgm 18 rfl)) rfl rfl ?_
  refine so_iload_n (i := 0) X 0 (dkJ6_bitCount_0f7a4 (25, .iload_n 0, 1) (pgm 19 rfl)) rfl rfl ?_
  refine so_iconst (v := (4 : Int32)) X (dkJ6_bitCount_0f7a4 (26, .iconst 4, 1) (pgm 20 rfl)) ic_4 ?_
  refine so_iushr X (dkJ6_bitCount_0f7a4 (27, .iushr, 1) (pgm 21 rfl)) rfl ?_
  refine so_iadd X (dkJ6_bitCount_0f7a4 (28, .iadd, 1) (pgm 22 rfl)) ?_
  refine so_ldcw X lk_639 (dkJ6_bitCount_0f7a4 (29, .ldc_w 267, 3) (pgm 23 rfl)) ?_
  refine so_iand X (dkJ6_bitCount_0f7a4 (32, .iand, 1) (pgm 24 rfl)) ?_
  refine so_istore_n (i := 0) X (dkJ6_bitCount_0f7a4 (33, .istore_n 0, 1) (pgm 25 rfl)) rfl (by decide) (Lf := fun x3 => [(0, .int x3)]) (fun _ => rfl) (fun x3 => ?_)
  refine so_iload_n (i := 0) X 0 (dkJ6_bitCount_0f7a4 (34, .iload_n 0, 1) (pgm 26 rfl)) rfl rfl ?_
  refine so_iload_n (i := 0) X 0 (dkJ6_bitCount_0f7a4 (35, .iload_n 0, 1) (pgm 27 rfl)) rfl rfl ?_
  refine so_bipush (v := (8 : Int32)) X (dkJ6_bitCount_0f7a4 (36, .bipush 8, 2) (pgm 28 rfl)) bp_8 ?_
  refine so_iushr X (dkJ6_bitCount_0f7a4 (38, .iushr, 1) (pgm 29 rfl)) rfl ?_
  refine so_iadd X (dkJ6_bitCount_0f7a4 (39, .iadd, 1) (pgm 30 rfl)) ?_
  refine so_istore_n (i := 0) X (dkJ6_bitCount_0f7a4 (40, .istore_n 0, 1) (pgm 31 rfl)) rfl (by decide) (Lf := fun x4 => [(0, .int x4)]) (fun _ => rfl) (fun x4 => ?_)
  refine so_iload_n (i := 0) X 0 (dkJ6_bitCount_0f7a4 (41, .iload_n 0, 1) (pgm 32 rfl)) rfl rfl ?_
  refine so_iload_n (i := 0) X 0 (dkJ6_bitCount_0f7a4 (42, .iload_n 0, 1) (pgm 33 rfl)) rfl rfl ?_
  refine so_bipush (v := (16 : Int32)) X (dkJ6_bitCount_0f7a4 (43, .bipush 16, 2) (pgm 34 rfl)) bp_16 ?_
  refine so_iushr X (dkJ6_bitCount_0f7a4 (45, .iushr, 1) (pgm 35 rfl)) rfl ?_
  refine so_iadd X (dkJ6_bitCount_0f7a4 (46, .iadd, 1) (pgm 36 rfl)) ?_
  refine so_istore_n (i := 0) X (dkJ6_bitCount_0f7a4 (47, .istore_n 0, 1) (pgm 37 rfl)) rfl (by decide) (Lf := fun x5 => [(0, .int x5)]) (fun _ => rfl) (fun x5 => ?_)
  refine so_iload_n (i := 0) X 0 (dkJ6_bitCount_0f7a4 (48, .iload_n 0, 1) (pgm 38 rfl)) rfl rfl ?_
  refine so_bipush (v := (63 : Int32)) X (dkJ6_bitCount_0f7a4 (49, .bipush 63, 2) (pgm 39 rfl)) bp_63 ?_
  refine so_iand X (dkJ6_bitCount_0f7a4 (51, .iand, 1) (pgm 40 rfl)) ?_
  exact so_iret X hr hlk (dkJ6_bitCount_0f7a4 (52, .ireturn, 1) (pgm 41 rfl))
def pgJ7_fill_d0a16 : List (Nat × Instr × Nat) := [(0, .iconst 0, 1), (1, .istore_n 3, 1), (2, .aload_n 0, 1), (3, .arraylength, 1), (4, .istore 4, 2), (6, .iload_n 3, 1), (7, .iload 4, 2), (9, .if_icmp .ge 13, 3), (12, .aload_n 0, 1), (13, .iload_n 3, 1), (14, .lload_n 1, 1), (15, .lastore, 1), (16, .iinc 3 1, 3), (19, .goto (-13), 3), (22, .return_, 1)]
theorem dkJ7_fill_d0a16 : ∀ q ∈ pgJ7_fill_d0a16, decode cJ7_fill_d0a16 q.1 = .ok q.2 := by decide +kernel
def b_J7_fill_d0a16_6 (a1 : Nat) (n1 : Nat) (a2 : Int64) (x2 : Int32) (rec6 : (Int32) → PH → Option (Unit × PH)) (s6 : Int32) (hh6 : PH) : Option (Unit × PH) :=
  if x2 ≤ s6 then (some ((), hh6)) else (stL hh6 a1 n1 s6 a2 (fun (h3 : PH) => lt (s6 + Int32.ofInt 1) (fun (x4 : Int32) => rec6 x4 h3)))
def f_J7_fill_d0a16 (a1 : Nat) (n1 : Nat) (a2 : Int64) (h0 : PH) : Option (Unit × PH) :=
  lt (0 : Int32) (fun (x1 : Int32) => lt (Int32.ofNat n1) (fun (x2 : Int32) => lp (b_J7_fill_d0a16_6 a1 n1 a2 x2) FU x1 h0))
set_option maxRecDepth 100000 in
set_option maxHeartbeats 4000000 in
theorem ct_J7_fill_d0a16 (l : Launch) (a1 : Nat) (n1 : Nat) (a2 : Int64) (h0 : PH) (hk1 : kd a1 = (16, n1)) : CT mkV l yJ7_fill_d0a16 cJ7_fill_d0a16 5 none (rmd 0) [.ref a1, .long a2] h0 (f_J7_fill_d0a16 a1 n1 a2 h0) := by
  refine ct_of (by decide) (Nat.le_of_ble_eq_true rfl) ?_
  intro p e s m args below meth c D cA ad A X hr hlk
  have X : Cx p s m args c RJ7 cJ7_fill_d0a16 5 D cA ad A := X
  unfold f_J7_fill_d0a16
  refine so_pick (L' := [(0, .ref a1), (1, .long a2)]) X [0, 1] rfl ?_
  refine so_iconst (v := (0 : Int32)) X (dkJ7_fill_d0a16 (0, .iconst 0, 1) (pgm 0 rfl)) ic_0 ?_
  refine so_istore_n (i := 3) X (dkJ7_fill_d0a16 (1, .istore_n 3, 1) (pgm 1 rfl)) rfl (by decide) (Lf := fun x1 => [(3, .int x1), (0, .ref a1), (1, .long a2)]) (fun _ => rfl) (fun x1 => ?_)
  refine so_aload_n (i := 0) X 1 (dkJ7_fill_d0a16 (2, .aload_n 0, 1) (pgm 2 rfl)) rfl rfl ?_
  refine so_alen X hk1 (by decide) (by decide) 3 (fun _ => ⟨_, rfl⟩) (dkJ7_fill_d0a16 (3, .arraylength, 1) (pgm 3 rfl)) ?_
  refine so_istore (i := 4) X (dkJ7_fill_d0a16 (4, .istore 4, 2) (pgm 4 rfl)) (by decide) (Lf := fun x2 => [(4, .int x2), (3, .int x1), (0, .ref a1), (1, .long a2)]) (fun _ => rfl) (fun x2 => ?_)
  refine so_pick (L' := [(0, .ref a1), (1, .long a2), (3, .int x1), (4, .int x2)]) X [2, 3, 1, 0] rfl ?_
  refine so_loop (body := b_J7_fill_d0a16_6 a1 n1 a2 x2) (fun (s6 : Int32) => [(0, .ref a1), (1, .long a2), (3, .int s6), (4, .int x2)]) (fun rec6 hrec6 s6 hh6 => ?_) FU x1 h0
  unfold b_J7_fill_d0a16_6
  refine so_iload_n (i := 3) X 2 (dkJ7_fill_d0a16 (6, .iload_n 3, 1) (pgm 5 rfl)) rfl rfl ?_
  refine so_iload (i := 4) X 3 (dkJ7_fill_d0a16 (7, .iload 4, 2) (pgm 6 rfl)) rfl ?_
  refine so_icmp_ge (tgt := 22) X (dkJ7_fill_d0a16 (9, .if_icmp .ge 13, 3) (pgm 7 rfl)) rfl (fun _ => ?_) (fun _ => ?_)
  · exact so_vret X hr hlk (dkJ7_fill_d0a16 (22, .return_, 1) (pgm 14 rfl))
  · refine so_aload_n (i := 0) X 0 (dkJ7_fill_d0a16 (12, .aload_n 0, 1) (pgm 8 rfl)) rfl rfl ?_
    refine so_iload_n (i := 3) X 2 (dkJ7_fill_d0a16 (13, .iload_n 3, 1) (pgm 9 rfl)) rfl rfl ?_
    refine so_lload_n (i := 1) X 1 (dkJ7_fill_d0a16 (14, .lload_n 1, 1) (pgm 10 rfl)) rfl rfl ?_
    refine so_last X hk1 (dkJ7_fill_d0a16 (15, .lastore, 1) (pgm 11 rfl)) (fun h3 => ?_)
    refine so_iinc (i := 3) X 2 (dkJ7_fill_d0a16 (16, .iinc 3 1, 3) (pgm 12 rfl)) rfl rfl (by decide) (Lf := fun x4 => [(3, .int x4), (0, .ref a1), (1, .long a2), (4, .int x2)]) (fun _ => rfl) (fun x4 => ?_)
    refine so_goto (tgt := 6) X (dkJ7_fill_d0a16 (19, .goto (-13), 3) (pgm 13 rfl)) rfl ?_
    exact so_pick X [1, 2, 0, 3] rfl (hrec6 x4 h3)
def pgJ7_fill_53178 : List (Nat × Instr × Nat) := [(0, .iconst 0, 1), (1, .istore_n 2, 1), (2, .aload_n 0, 1), (3, .arraylength, 1), (4, .istore_n 3, 1), (5, .iload_n 2, 1), (6, .iload_n 3, 1), (7, .if_icmp .ge 13, 3), (10, .aload_n 0, 1), (11, .iload_n 2, 1), (12, .iload_n 1, 1), (13, .iastore, 1), (14, .iinc 2 1, 3), (17, .goto (-12), 3), (20, .return_, 1)]
theorem dkJ7_fill_53178 : ∀ q ∈ pgJ7_fill_53178, decode cJ7_fill_53178 q.1 = .ok q.2 := by decide +kernel
def b_J7_fill_53178_5 (a1 : Nat) (n1 : Nat) (a2 : Int32) (x2 : Int32) (rec5 : (Int32) → PH → Option (Unit × PH)) (s5 : Int32) (hh5 : PH) : Option (Unit × PH) :=
  if x2 ≤ s5 then (some ((), hh5)) else (stI hh5 a1 n1 s5 a2 (fun (h3 : PH) => lt (s5 + Int32.ofInt 1) (fun (x4 : Int32) => rec5 x4 h3)))
def f_J7_fill_53178 (a1 : Nat) (n1 : Nat) (a2 : Int32) (h0 : PH) : Option (Unit × PH) :=
  lt (0 : Int32) (fun (x1 : Int32) => lt (Int32.ofNat n1) (fun (x2 : Int32) => lp (b_J7_fill_53178_5 a1 n1 a2 x2) FU x1 h0))
set_option maxRecDepth 100000 in
set_option maxHeartbeats 4000000 in
theorem ct_J7_fill_53178 (l : Launch) (a1 : Nat) (n1 : Nat) (a2 : Int32) (h0 : PH) (hk1 : kd a1 = (13, n1)) : CT mkV l yJ7_fill_53178 cJ7_fill_53178 4 none (rmd 0) [.ref a1, .int a2] h0 (f_J7_fill_53178 a1 n1 a2 h0) := by
  refine ct_of (by decide) (Nat.le_of_ble_eq_true rfl) ?_
  intro p e s m args below meth c D cA ad A X hr hlk
  have X : Cx p s m args c RJ7 cJ7_fill_53178 4 D cA ad A := X
  unfold f_J7_fill_53178
  refine so_pick (L' := [(0, .ref a1), (1, .int a2)]) X [0, 1] rfl ?_
  refine so_iconst (v := (0 : Int32)) X (dkJ7_fill_53178 (0, .iconst 0, 1) (pgm 0 rfl)) ic_0 ?_
  refine so_istore_n (i := 2) X (dkJ7_fill_53178 (1, .istore_n 2, 1) (pgm 1 rfl)) rfl (by decide) (Lf := fun x1 => [(2, .int x1), (0, .ref a1), (1, .int a2)]) (fun _ => rfl) (fun x1 => ?_)
  refine so_aload_n (i := 0) X 1 (dkJ7_fill_53178 (2, .aload_n 0, 1) (pgm 2 rfl)) rfl rfl ?_
  refine so_alen X hk1 (by decide) (by decide) 0 (fun _ => ⟨_, rfl⟩) (dkJ7_fill_53178 (3, .arraylength, 1) (pgm 3 rfl)) ?_
  refine so_istore_n (i := 3) X (dkJ7_fill_53178 (4, .istore_n 3, 1) (pgm 4 rfl)) rfl (by decide) (Lf := fun x2 => [(3, .int x2), (2, .int x1), (0, .ref a1), (1, .int a2)]) (fun _ => rfl) (fun x2 => ?_)
  refine so_pick (L' := [(0, .ref a1), (1, .int a2), (2, .int x1), (3, .int x2)]) X [2, 3, 1, 0] rfl ?_
  refine so_loop (body := b_J7_fill_53178_5 a1 n1 a2 x2) (fun (s5 : Int32) => [(0, .ref a1), (1, .int a2), (2, .int s5), (3, .int x2)]) (fun rec5 hrec5 s5 hh5 => ?_) FU x1 h0
  unfold b_J7_fill_53178_5
  refine so_iload_n (i := 2) X 2 (dkJ7_fill_53178 (5, .iload_n 2, 1) (pgm 5 rfl)) rfl rfl ?_
  refine so_iload_n (i := 3) X 3 (dkJ7_fill_53178 (6, .iload_n 3, 1) (pgm 6 rfl)) rfl rfl ?_
  refine so_icmp_ge (tgt := 20) X (dkJ7_fill_53178 (7, .if_icmp .ge 13, 3) (pgm 7 rfl)) rfl (fun _ => ?_) (fun _ => ?_)
  · exact so_vret X hr hlk (dkJ7_fill_53178 (20, .return_, 1) (pgm 14 rfl))
  · refine so_aload_n (i := 0) X 0 (dkJ7_fill_53178 (10, .aload_n 0, 1) (pgm 8 rfl)) rfl rfl ?_
    refine so_iload_n (i := 2) X 2 (dkJ7_fill_53178 (11, .iload_n 2, 1) (pgm 9 rfl)) rfl rfl ?_
    refine so_iload_n (i := 1) X 1 (dkJ7_fill_53178 (12, .iload_n 1, 1) (pgm 10 rfl)) rfl rfl ?_
    refine so_iast X hk1 (dkJ7_fill_53178 (13, .iastore, 1) (pgm 11 rfl)) (fun h3 => ?_)
    refine so_iinc (i := 2) X 2 (dkJ7_fill_53178 (14, .iinc 2 1, 3) (pgm 12 rfl)) rfl rfl (by decide) (Lf := fun x4 => [(2, .int x4), (0, .ref a1), (1, .int a2), (3, .int x2)]) (fun _ => rfl) (fun x4 => ?_)
    refine so_goto (tgt := 5) X (dkJ7_fill_53178 (17, .goto (-12), 3) (pgm 13 rfl)) rfl ?_
    exact so_pick X [1, 2, 0, 3] rfl (hrec5 x4 h3)
def pgJ0_coder_7d493 : List (Nat × Instr × Nat) := [(0, .getstatic 38, 3), (3, .ifCond .eq 10, 3), (6, .aload_n 0, 1), (7, .getfield 15, 3), (10, .goto 4, 3), (13, .iconst 1, 1), (14, .ireturn, 1)]
theorem dkJ0_coder_7d493 : ∀ q ∈ pgJ0_coder_7d493, decode cJ0_coder_7d493 q.1 = .ok q.2 := by decide +kernel
def f_J0_coder_7d493 (this : Nat) (h0 : PH) : Option (Int32 × PH) :=
  lt (fun (t1 : Int32) (h2 : PH) => br_ t1 h2) (fun (j14 : Int32 → PH → Option (Int32 × PH)) => if (1 : Int32) = 0 then (j14 (1 : Int32) h0) else (j14 (0 : Int32) h0))
set_option maxRecDepth 100000 in
set_option maxHeartbeats 4000000 in
theorem ct_J0_coder_7d493 (l : Launch) (this : Nat) (h0 : PH) (hk : this < NS) : CT mkI l yJ0_coder_7d493 cJ0_coder_7d493 1 (some .byte) (rmd 0) [.ref (200 + this)] h0 (f_J0_coder_7d493 this h0) := by
  refine ct_of (by decide) (Nat.le_of_ble_eq_true rfl) ?_
  intro p e s m args below meth c D cA ad A X hr hlk
  have X : Cx p s m args c RJ0 cJ0_coder_7d493 1 D cA ad A := X
  unfold f_J0_coder_7d493
  refine so_pick (L' := [(0, .ref (200 + this))]) X [0] rfl ?_
  refine so_cmS X lk_884 (dkJ0_coder_7d493 (0, .getstatic 38, 3) (pgm 0 rfl)) ?_
  refine so_join (jf := fun (t1 : Int32) (h2 : PH) => br_ t1 h2) (fun (j : Int32 → PH → Option (Int32 × PH)) => ∀ (t1 : Int32) (h2 : PH), SWo (QM mkI below args s D cA ad A) p l e (rmd 0) s m args below meth c 0 0 1 D cA ad A 14 [] [.int t1] h2 (j t1 h2)) ?_ (fun j14 hj14 => ?_)
  · intro t1 h2
    exact so_bret X hr hlk (dkJ0_coder_7d493 (14, .ireturn, 1) (pgm 6 rfl))
  refine so_if_eq (tgt := 13) X (dkJ0_coder_7d493 (3, .ifCond .eq 10, 3) (pgm 1 rfl)) rfl (fun _ => ?_) (fun _ => ?_)
  · refine so_iconst (v := (1 : Int32)) X (dkJ0_coder_7d493 (13, .iconst 1, 1) (pgm 5 rfl)) ic_1 ?_
    exact so_pick X [] rfl (hj14 (1 : Int32) h0)
  · refine so_aload_n (i := 0) X 0 (dkJ0_coder_7d493 (6, .aload_n 0, 1) (pgm 2 rfl)) rfl rfl ?_
    refine so_strC X hk lk_2305 (dkJ0_coder_7d493 (7, .getfield 15, 3) (pgm 3 rfl)) ?_
    refine so_goto (tgt := 14) X (dkJ0_coder_7d493 (10, .goto 4, 3) (pgm 4 rfl)) rfl ?_
    exact so_pick X [] rfl (hj14 (0 : Int32) h0)
def pgJ0_isLatin1_aae02 : List (Nat × Instr × Nat) := [(0, .getstatic 38, 3), (3, .ifCond .eq 14, 3), (6, .aload_n 0, 1), (7, .getfield 15, 3), (10, .ifCond .ne 7, 3), (13, .iconst 1, 1), (14, .goto 4, 3), (17, .iconst 0, 1), (18, .ireturn, 1)]
theorem dkJ0_isLatin1_aae02 : ∀ q ∈ pgJ0_isLatin1_aae02, decode cJ0_isLatin1_aae02 q.1 = .ok q.2 := by decide +kernel
def f_J0_isLatin1_aae02 (this : Nat) (h0 : PH) : Option (Int32 × PH) :=
  lt (fun (t1 : Int32) (h2 : PH) => zr t1 h2) (fun (j18 : Int32 → PH → Option (Int32 × PH)) => lt (fun (h3 : PH) => j18 (0 : Int32) h3) (fun (j17 : PH → Option (Int32 × PH)) => if (1 : Int32) = 0 then (j17 h0) else (if (0 : Int32) = 0 then (j18 (1 : Int32) h0) else (j17 h0))))
set_option maxRecDepth 100000 in
set_option maxHeartbeats 4000000 in
theorem ct_J0_isLatin1_aae02 (l : Launch) (this : Nat) (h0 : PH) (hk : this < NS) : CT mkI l yJ0_isLatin1_aae02 cJ0_isLatin1_aae02 1 (some .boolean) (rmd 0) [.ref (200 + this)] h0 (f_J0_isLatin1_aae02 this h0) := by
  refine ct_of (by decide) (Nat.le_of_ble_eq_true rfl) ?_
  intro p e s m args below meth c D cA ad A X hr hlk
  have X : Cx p s m args c RJ0 cJ0_isLatin1_aae02 1 D cA ad A := X
  unfold f_J0_isLatin1_aae02
  refine so_pick (L' := [(0, .ref (200 + this))]) X [0] rfl ?_
  refine so_cmS X lk_884 (dkJ0_isLatin1_aae02 (0, .getstatic 38, 3) (pgm 0 rfl)) ?_
  refine so_join (jf := fun (t1 : Int32) (h2 : PH) => zr t1 h2) (fun (j : Int32 → PH → Option (Int32 × PH)) => ∀ (t1 : Int32) (h2 : PH), SWo (QM mkI below args s D cA ad A) p l e (rmd 0) s m args below meth c 0 0 1 D cA ad A 18 [] [.int t1] h2 (j t1 h2)) ?_ (fun j18 hj18 => ?_)
  · intro t1 h2
    exact so_zret X hr hlk (dkJ0_isLatin1_aae02 (18, .ireturn, 1) (pgm 8 rfl))
  refine so_join (jf := fun (h3 : PH) => j18 (0 : Int32) h3) (fun (j : PH → Option (Int32 × PH)) => ∀  (h3 : PH), SWo (QM mkI below args s D cA ad A) p l e (rmd 0) s m args below meth c 0 0 1 D cA ad A 17 [] [] h3 (j h3)) ?_ (fun j17 hj17 => ?_)
  · intro h3
    refine so_iconst (v := (0 : Int32)) X (dkJ0_isLatin1_aae02 (17, .iconst 0, 1) (pgm 7 rfl)) ic_0 ?_
    exact so_pick X [] rfl (hj18 (0 : Int32) h3)
  refine so_if_eq (tgt := 17) X (dkJ0_isLatin1_aae02 (3, .ifCond .eq 14, 3) (pgm 1 rfl)) rfl (fun _ => ?_) (fun _ => ?_)
  · exact so_pick X [] rfl (hj17 h0)
  · refine so_aload_n (i := 0) X 0 (dkJ0_isLatin1_aae02 (6, .aload_n 0, 1) (pgm 2 rfl)) rfl rfl ?_
    refine so_strC X hk lk_2305 (dkJ0_isLatin1_aae02 (7, .getfield 15, 3) (pgm 3 rfl)) ?_
    refine so_if_ne (tgt := 17) X (dkJ0_isLatin1_aae02 (10, .ifCond .ne 7, 3) (pgm 4 rfl)) rfl (fun _ => ?_) (fun _ => ?_)
    · exact so_pick X [] rfl (hj17 h0)
    · refine so_iconst (v := (1 : Int32)) X (dkJ0_isLatin1_aae02 (13, .iconst 1, 1) (pgm 5 rfl)) ic_1 ?_
      refine so_goto (tgt := 18) X (dkJ0_isLatin1_aae02 (14, .goto 4, 3) (pgm 6 rfl)) rfl ?_
      exact so_pick X [] rfl (hj18 (1 : Int32) h0)
def pgJ0_length_8abf5 : List (Nat × Instr × Nat) := [(0, .aload_n 0, 1), (1, .getfield 9, 3), (4, .arraylength, 1), (5, .aload_n 0, 1), (6, .invokevirtual 335, 3), (9, .ishr, 1), (10, .ireturn, 1)]
theorem dkJ0_length_8abf5 : ∀ q ∈ pgJ0_length_8abf5, decode cJ0_length_8abf5 q.1 = .ok q.2 := by decide +kernel
def f_J0_length_8abf5 (this : Nat) (h0 : PH) : Option (Int32 × PH) :=
  cb (f_J0_coder_7d493 this h0) (fun (r1 : Int32) (h2 : PH) => some (((Int32.ofNat (slen this)) >>> (r1 &&& 31)), h2))
set_option maxRecDepth 100000 in
set_option maxHeartbeats 4000000 in
theorem ct_J0_length_8abf5 (l : Launch) (this : Nat) (h0 : PH) (hk : this < NS) : CT mkI l yJ0_length_8abf5 cJ0_length_8abf5 1 (some .int) (rmd 1) [.ref (200 + this)] h0 (f_J0_length_8abf5 this h0) := by
  refine ct_of (by decide) (Nat.le_of_ble_eq_true rfl) ?_
  intro p e s m args below meth c D cA ad A X hr hlk
  have X : Cx p s m args c RJ0 cJ0_length_8abf5 1 D cA ad A := X
  unfold f_J0_length_8abf5
  refine so_pick (L' := [(0, .ref (200 + this))]) X [0] rfl ?_
  refine so_aload_n (i := 0) X 0 (dkJ0_length_8abf5 (0, .aload_n 0, 1) (pgm 0 rfl)) rfl rfl ?_
  refine so_strV X hk lk_2306 (dkJ0_length_8abf5 (1, .getfield 9, 3) (pgm 1 rfl)) ?_
  refine so_strL X hk (dkJ0_length_8abf5 (4, .arraylength, 1) (pgm 2 rfl)) ?_
  refine so_aload_n (i := 0) X 0 (dkJ0_length_8abf5 (5, .aload_n 0, 1) (pgm 3 rfl)) rfl rfl ?_
  refine so_callT (n := 0) (As := []) (i := this) X (ct_J0_coder_7d493 l this h0 hk) hk lk_890 lk_891 lk_892 lk_140 lk_893 (by decide +kernel) rfl rfl rfl (rm_ok (by omega) (by decide)) ⟨Nat.zero_le _, Nat.zero_le _⟩ (Nat.le_of_ble_eq_true rfl) (dkJ0_length_8abf5 (6, .invokevirtual 335, 3) (pgm 4 rfl)) (fun r1 h2 => ?_) rfl
  refine so_ishr X (dkJ0_length_8abf5 (9, .ishr, 1) (pgm 5 rfl)) ?_
  exact so_iret X hr hlk (dkJ0_length_8abf5 (10, .ireturn, 1) (pgm 6 rfl))
def pgJ3_checkIndex_8e157 : List (Nat × Instr × Nat) := [(0, .iload_n 0, 1), (1, .ifCond .lt 8, 3), (4, .iload_n 0, 1), (5, .iload_n 1, 1), (6, .if_icmp .lt 10, 3), (9, .aload_n 2, 1), (10, .iload_n 0, 1), (11, .iload_n 1, 1), (12, .invokestatic 95, 3), (15, .athrow, 1), (16, .iload_n 0, 1), (17, .ireturn, 1)]
theorem dkJ3_checkIndex_8e157 : ∀ q ∈ pgJ3_checkIndex_8e157, decode cJ3_checkIndex_8e157 q.1 = .ok q.2 := by decide +kernel
def f_J3_checkIndex_8e157 (a1 : Int32) (a2 : Int32) (h0 : PH) : Option (Int32 × PH) :=
  lt (fun (h1 : PH) => none) (fun (j9 : PH → Option (Int32 × PH)) => if a1 < 0 then (j9 h0) else (if a1 < a2 then (some (a1, h0)) else (j9 h0)))
set_option maxRecDepth 100000 in
set_option maxHeartbeats 4000000 in
theorem ct_J3_checkIndex_8e157 (l : Launch) (a1 : Int32) (a2 : Int32) (a3 : Value) (h0 : PH) (hk3 : a3.category = 1) : CT mkI l yJ3_checkIndex_8e157 cJ3_checkIndex_8e157 3 (some .int) (rmd 0) [.int a1, .int a2, a3] h0 (f_J3_checkIndex_8e157 a1 a2 h0) := by
  refine ct_of (by decide) (by cases a3 <;> simp_all [lg_sl, Value.category]) ?_
  intro p e s m args below meth c D cA ad A X hr hlk
  have X : Cx p s m args c RJ3 cJ3_checkIndex_8e157 3 D cA ad A := X
  unfold f_J3_checkIndex_8e157
  refine so_pick (L' := [(0, .int a1), (1, .int a2), (2, a3)]) X [0, 1, 2] rfl ?_
  refine so_iload_n (i := 0) X 0 (dkJ3_checkIndex_8e157 (0, .iload_n 0, 1) (pgm 0 rfl)) rfl rfl ?_
  refine so_join (jf := fun (h1 : PH) => none) (fun (j : PH → Option (Int32 × PH)) => ∀  (h1 : PH), SWo (QM mkI below args s D cA ad A) p l e (rmd 0) s m args below meth c 0 0 3 D cA ad A 9 [(0, .int a1), (1, .int a2), (2, a3)] [] h1 (j h1)) ?_ (fun j9 hj9 => ?_)
  · intro h1
    exact so_none
  refine so_if_lt (tgt := 9) X (dkJ3_checkIndex_8e157 (1, .ifCond .lt 8, 3) (pgm 1 rfl)) rfl (fun _ => ?_) (fun _ => ?_)
  · exact so_pick X [0, 1, 2] rfl (hj9 h0)
  · refine so_iload_n (i := 0) X 0 (dkJ3_checkIndex_8e157 (4, .iload_n 0, 1) (pgm 2 rfl)) rfl rfl ?_
    refine so_iload_n (i := 1) X 1 (dkJ3_checkIndex_8e157 (5, .iload_n 1, 1) (pgm 3 rfl)) rfl rfl ?_
    refine so_icmp_lt (tgt := 16) X (dkJ3_checkIndex_8e157 (6, .if_icmp .lt 10, 3) (pgm 4 rfl)) rfl (fun _ => ?_) (fun _ => ?_)
    · refine so_iload_n (i := 0) X 0 (dkJ3_checkIndex_8e157 (16, .iload_n 0, 1) (pgm 10 rfl)) rfl rfl ?_
      exact so_iret X hr hlk (dkJ3_checkIndex_8e157 (17, .ireturn, 1) (pgm 11 rfl))
    · exact so_pick X [0, 1, 2] rfl (hj9 h0)
def pgJ0_checkIndex_df160 : List (Nat × Instr × Nat) := [(0, .iload_n 0, 1), (1, .iload_n 1, 1), (2, .getstatic 1053, 3), (5, .invokestatic 1059, 3), (8, .pop, 1), (9, .return_, 1)]
theorem dkJ0_checkIndex_df160 : ∀ q ∈ pgJ0_checkIndex_df160, decode cJ0_checkIndex_df160 q.1 = .ok q.2 := by decide +kernel
def f_J0_checkIndex_df160 (a1 : Int32) (a2 : Int32) (h0 : PH) : Option (Unit × PH) :=
  cb (f_J3_checkIndex_8e157 a1 a2 h0) (fun (r2 : Int32) (h3 : PH) => some ((), h3))
set_option maxRecDepth 100000 in
set_option maxHeartbeats 4000000 in
theorem ct_J0_checkIndex_df160 (l : Launch) (a1 : Int32) (a2 : Int32) (h0 : PH)  : CT mkV l yJ0_checkIndex_df160 cJ0_checkIndex_df160 2 none (rmd 1) [.int a1, .int a2] h0 (f_J0_checkIndex_df160 a1 a2 h0) := by
  refine ct_of (by decide) (Nat.le_of_ble_eq_true rfl) ?_
  intro p e s m args below meth c D cA ad A X hr hlk
  have X : Cx p s m args c RJ0 cJ0_checkIndex_df160 2 D cA ad A := X
  unfold f_J0_checkIndex_df160
  refine so_pick (L' := [(0, .int a1), (1, .int a2)]) X [0, 1] rfl ?_
  refine so_iload_n (i := 0) X 0 (dkJ0_checkIndex_df160 (0, .iload_n 0, 1) (pgm 0 rfl)) rfl rfl ?_
  refine so_iload_n (i := 1) X 1 (dkJ0_checkIndex_df160 (1, .iload_n 1, 1) (pgm 1 rfl)) rfl rfl ?_
  refine so_sfS X lk_927 (dkJ0_checkIndex_df160 (2, .getstatic 1053, 3) (pgm 2 rfl)) (fun v1 hcv1 => ?_)
  refine so_callS (n := 3) (As := [.int a1, .int a2, v1]) X (ct_J3_checkIndex_8e157 l a1 a2 v1 h0 hcv1) lk_982 lk_983 lk_143 lk_984 (by decide +kernel) rfl rfl rfl (rm_ok (by omega) (by decide)) ⟨Nat.zero_le _, Nat.zero_le _⟩ (Nat.le_of_ble_eq_true rfl) (dkJ0_checkIndex_df160 (5, .invokestatic 1059, 3) (pgm 3 rfl)) (fun r2 h3 => ?_) rfl
  refine so_pop X (dkJ0_checkIndex_df160 (8, .pop, 1) (pgm 4 rfl)) rfl ?_
  exact so_vret X hr hlk (dkJ0_checkIndex_df160 (9, .return_, 1) (pgm 5 rfl))
def pgJ1_charAt_3b067 : List (Nat × Instr × Nat) := [(0, .iload_n 1, 1), (1, .aload_n 0, 1), (2, .arraylength, 1), (3, .invokestatic 9, 3), (6, .aload_n 0, 1), (7, .iload_n 1, 1), (8, .baload, 1), (9, .sipush 255, 3), (12, .iand, 1), (13, .i2c, 1), (14, .ireturn, 1)]
theorem dkJ1_charAt_3b067 : ∀ q ∈ pgJ1_charAt_3b067, decode cJ1_charAt_3b067 q.1 = .ok q.2 := by decide +kernel
def f_J1_charAt_3b067 (a1 : Nat) (a2 : Int32) (h0 : PH) : Option (Int32 × PH) :=
  cb (f_J0_checkIndex_df160 a2 (Int32.ofNat (slen a1)) h0) (fun (r1 : Unit) (h2 : PH) => ldS a1 a2 (fun (x3 : Int32) => cr (((x3 &&& (255 : Int32)).toUInt32 % 65536).toInt32) h2))
set_option maxRecDepth 100000 in
set_option maxHeartbeats 4000000 in
theorem ct_J1_charAt_3b067 (l : Launch) (a1 : Nat) (a2 : Int32) (h0 : PH) (hk1 : a1 < NS) : CT mkI l yJ1_charAt_3b067 cJ1_charAt_3b067 2 (some .char) (rmd 2) [.ref (300 + a1), .int a2] h0 (f_J1_charAt_3b067 a1 a2 h0) := by
  refine ct_of (by decide) (Nat.le_of_ble_eq_true rfl) ?_
  intro p e s m args below meth c D cA ad A X hr hlk
  have X : Cx p s m args c RJ1 cJ1_charAt_3b067 2 D cA ad A := X
  unfold f_J1_charAt_3b067
  refine so_pick (L' := [(0, .ref (300 + a1)), (1, .int a2)]) X [0, 1] rfl ?_
  refine so_iload_n (i := 1) X 1 (dkJ1_charAt_3b067 (0, .iload_n 1, 1) (pgm 0 rfl)) rfl rfl ?_
  refine so_aload_n (i := 0) X 0 (dkJ1_charAt_3b067 (1, .aload_n 0, 1) (pgm 1 rfl)) rfl rfl ?_
  refine so_strL X hk1 (dkJ1_charAt_3b067 (2, .arraylength, 1) (pgm 2 rfl)) ?_
  refine so_callS (n := 2) (As := [.int a2, .int (Int32.ofNat (slen a1))]) X (ct_J0_checkIndex_df160 l a2 (Int32.ofNat (slen a1)) h0 ) lk_979 lk_980 lk_140 lk_981 (by decide +kernel) rfl rfl rfl (rm_ok (by omega) (by decide)) ⟨Nat.zero_le _, Nat.zero_le _⟩ (Nat.le_of_ble_eq_true rfl) (dkJ1_charAt_3b067 (3, .invokestatic 9, 3) (pgm 3 rfl)) (fun r1 h2 => ?_) rfl
  refine so_aload_n (i := 0) X 0 (dkJ1_charAt_3b067 (6, .aload_n 0, 1) (pgm 4 rfl)) rfl rfl ?_
  refine so_iload_n (i := 1) X 1 (dkJ1_charAt_3b067 (7, .iload_n 1, 1) (pgm 5 rfl)) rfl rfl ?_
  refine so_strB X hk1 (dkJ1_charAt_3b067 (8, .baload, 1) (pgm 6 rfl)) (fun x3 => ?_)
  refine so_sipush (v := (255 : Int32)) X (dkJ1_charAt_3b067 (9, .sipush 255, 3) (pgm 7 rfl)) sp_255 ?_
  refine so_iand X (dkJ1_charAt_3b067 (12, .iand, 1) (pgm 8 rfl)) ?_
  refine so_i2c X (dkJ1_charAt_3b067 (13, .i2c, 1) (pgm 9 rfl)) ?_
  exact so_cret X hr hlk (dkJ1_charAt_3b067 (14, .ireturn, 1) (pgm 10 rfl))
def pgJ0_charAt_5068e : List (Nat × Instr × Nat) := [(0, .aload_n 0, 1), (1, .invokevirtual 492, 3), (4, .ifCond .eq 12, 3), (7, .aload_n 0, 1), (8, .getfield 9, 3), (11, .iload_n 1, 1), (12, .invokestatic 495, 3), (15, .ireturn, 1), (16, .aload_n 0, 1), (17, .getfield 9, 3), (20, .iload_n 1, 1), (21, .invokestatic 498, 3), (24, .ireturn, 1)]
theorem dkJ0_charAt_5068e : ∀ q ∈ pgJ0_charAt_5068e, decode cJ0_charAt_5068e q.1 = .ok q.2 := by decide +kernel
def f_J0_charAt_5068e (this : Nat) (a1 : Int32) (h0 : PH) : Option (Int32 × PH) :=
  cb (f_J0_isLatin1_aae02 this h0) (fun (r1 : Int32) (h2 : PH) => if r1 = 0 then none else (cb (f_J1_charAt_3b067 this a1 h2) (fun (r3 : Int32) (h4 : PH) => cr r3 h4)))
set_option maxRecDepth 100000 in
set_option maxHeartbeats 4000000 in
theorem ct_J0_charAt_5068e (l : Launch) (this : Nat) (a1 : Int32) (h0 : PH) (hk : this < NS) : CT mkI l yJ0_charAt_5068e cJ0_charAt_5068e 2 (some .char) (rmd 3) [.ref (200 + this), .int a1] h0 (f_J0_charAt_5068e this a1 h0) := by
  refine ct_of (by decide) (Nat.le_of_ble_eq_true rfl) ?_
  intro p e s m args below meth c D cA ad A X hr hlk
  have X : Cx p s m args c RJ0 cJ0_charAt_5068e 2 D cA ad A := X
  unfold f_J0_charAt_5068e
  refine so_pick (L' := [(0, .ref (200 + this)), (1, .int a1)]) X [0, 1] rfl ?_
  refine so_aload_n (i := 0) X 0 (dkJ0_charAt_5068e (0, .aload_n 0, 1) (pgm 0 rfl)) rfl rfl ?_
  refine so_callT (n := 0) (As := []) (i := this) X (ct_J0_isLatin1_aae02 l this h0 hk) hk lk_880 lk_881 lk_882 lk_140 lk_883 (by decide +kernel) rfl rfl rfl (rm_ok (by omega) (by decide)) ⟨Nat.zero_le _, Nat.zero_le _⟩ (Nat.le_of_ble_eq_true rfl) (dkJ0_charAt_5068e (1, .invokevirtual 492, 3) (pgm 1 rfl)) (fun r1 h2 => ?_) rfl
  refine so_if_eq (tgt := 16) X (dkJ0_charAt_5068e (4, .ifCond .eq 12, 3) (pgm 2 rfl)) rfl (fun _ => ?_) (fun _ => ?_)
  · refine so_aload_n (i := 0) X 0 (dkJ0_charAt_5068e (16, .aload_n 0, 1) (pgm 8 rfl)) rfl rfl ?_
    refine so_strV X hk lk_2306 (dkJ0_charAt_5068e (17, .getfield 9, 3) (pgm 9 rfl)) ?_
    refine so_iload_n (i := 1) X 1 (dkJ0_charAt_5068e (20, .iload_n 1, 1) (pgm 10 rfl)) rfl rfl ?_
    exact so_none
  · refine so_aload_n (i := 0) X 0 (dkJ0_charAt_5068e (7, .aload_n 0, 1) (pgm 3 rfl)) rfl rfl ?_
    refine so_strV X hk lk_2306 (dkJ0_charAt_5068e (8, .getfield 9, 3) (pgm 4 rfl)) ?_
    refine so_iload_n (i := 1) X 1 (dkJ0_charAt_5068e (11, .iload_n 1, 1) (pgm 5 rfl)) rfl rfl ?_
    refine so_callS (n := 2) (As := [.ref (300 + this), .int a1]) X (ct_J1_charAt_3b067 l this a1 h2 hk) lk_976 lk_977 lk_141 lk_978 (by decide +kernel) rfl rfl rfl (rm_ok (by omega) (by decide)) ⟨Nat.zero_le _, Nat.zero_le _⟩ (Nat.le_of_ble_eq_true rfl) (dkJ0_charAt_5068e (12, .invokestatic 495, 3) (pgm 6 rfl)) (fun r3 h4 => ?_) rfl
    exact so_cret X hr hlk (dkJ0_charAt_5068e (15, .ireturn, 1) (pgm 7 rfl))
def pgJ1_canEncode_9a6ad : List (Nat × Instr × Nat) := [(0, .iload_n 0, 1), (1, .ifCond .lt 14, 3), (4, .iload_n 0, 1), (5, .sipush 255, 3), (8, .if_icmp .gt 7, 3), (11, .iconst 1, 1), (12, .goto 4, 3), (15, .iconst 0, 1), (16, .ireturn, 1)]
theorem dkJ1_canEncode_9a6ad : ∀ q ∈ pgJ1_canEncode_9a6ad, decode cJ1_canEncode_9a6ad q.1 = .ok q.2 := by decide +kernel
def f_J1_canEncode_9a6ad (a1 : Int32) (h0 : PH) : Option (Int32 × PH) :=
  lt (fun (t1 : Int32) (h2 : PH) => zr t1 h2) (fun (j16 : Int32 → PH → Option (Int32 × PH)) => lt (fun (h3 : PH) => j16 (0 : Int32) h3) (fun (j15 : PH → Option (Int32 × PH)) => if a1 < 0 then (j15 h0) else (if (255 : Int32) < a1 then (j15 h0) else (j16 (1 : Int32) h0))))
set_option maxRecDepth 100000 in
set_option maxHeartbeats 4000000 in
theorem ct_J1_canEncode_9a6ad (l : Launch) (a1 : Int32) (h0 : PH)  : CT mkI l yJ1_canEncode_9a6ad cJ1_canEncode_9a6ad 1 (some .boolean) (rmd 0) [.int a1] h0 (f_J1_canEncode_9a6ad a1 h0) := by
  refine ct_of (by decide) (Nat.le_of_ble_eq_true rfl) ?_
  intro p e s m args below meth c D cA ad A X hr hlk
  have X : Cx p s m args c RJ1 cJ1_canEncode_9a6ad 1 D cA ad A := X
  unfold f_J1_canEncode_9a6ad
  refine so_pick (L' := [(0, .int a1)]) X [0] rfl ?_
  refine so_iload_n (i := 0) X 0 (dkJ1_canEncode_9a6ad (0, .iload_n 0, 1) (pgm 0 rfl)) rfl rfl ?_
  refine so_join (jf := fun (t1 : Int32) (h2 : PH) => zr t1 h2) (fun (j : Int32 → PH → Option (Int32 × PH)) => ∀ (t1 : Int32) (h2 : PH), SWo (QM mkI below args s D cA ad A) p l e (rmd 0) s m args below meth c 0 0 1 D cA ad A 16 [] [.int t1] h2 (j t1 h2)) ?_ (fun j16 hj16 => ?_)
  · intro t1 h2
    exact so_zret X hr hlk (dkJ1_canEncode_9a6ad (16, .ireturn, 1) (pgm 8 rfl))
  refine so_join (jf := fun (h3 : PH) => j16 (0 : Int32) h3) (fun (j : PH → Option (Int32 × PH)) => ∀  (h3 : PH), SWo (QM mkI below args s D cA ad A) p l e (rmd 0) s m args below meth c 0 0 1 D cA ad A 15 [] [] h3 (j h3)) ?_ (fun j15 hj15 => ?_)
  · intro h3
    refine so_iconst (v := (0 : Int32)) X (dkJ1_canEncode_9a6ad (15, .iconst 0, 1) (pgm 7 rfl)) ic_0 ?_
    exact so_pick X [] rfl (hj16 (0 : Int32) h3)
  refine so_if_lt (tgt := 15) X (dkJ1_canEncode_9a6ad (1, .ifCond .lt 14, 3) (pgm 1 rfl)) rfl (fun _ => ?_) (fun _ => ?_)
  · exact so_pick X [] rfl (hj15 h0)
  · refine so_iload_n (i := 0) X 0 (dkJ1_canEncode_9a6ad (4, .iload_n 0, 1) (pgm 2 rfl)) rfl rfl ?_
    refine so_sipush (v := (255 : Int32)) X (dkJ1_canEncode_9a6ad (5, .sipush 255, 3) (pgm 3 rfl)) sp_255 ?_
    refine so_icmp_gt (tgt := 15) X (dkJ1_canEncode_9a6ad (8, .if_icmp .gt 7, 3) (pgm 4 rfl)) rfl (fun _ => ?_) (fun _ => ?_)
    · exact so_pick X [] rfl (hj15 h0)
    · refine so_iconst (v := (1 : Int32)) X (dkJ1_canEncode_9a6ad (11, .iconst 1, 1) (pgm 5 rfl)) ic_1 ?_
      refine so_goto (tgt := 16) X (dkJ1_canEncode_9a6ad (12, .goto 4, 3) (pgm 6 rfl)) rfl ?_
      exact so_pick X [] rfl (hj16 (1 : Int32) h0)
def pgJ1_indexOfChar_4cfef : List (Nat × Instr × Nat) := [(0, .iload_n 1, 1), (1, .i2b, 1), (2, .istore 4, 2), (4, .iload_n 2, 1), (5, .istore 5, 2), (7, .iload 5, 2), (9, .iload_n 3, 1), (10, .if_icmp .ge 21, 3), (13, .aload_n 0, 1), (14, .iload 5, 2), (16, .baload, 1), (17, .iload 4, 2), (19, .if_icmp .ne 6, 3), (22, .iload 5, 2), (24, .ireturn, 1), (25, .iinc 5 1, 3), (28, .goto (-21), 3), (31, .iconst (-1), 1), (32, .ireturn, 1)]
theorem dkJ1_indexOfChar_4cfef : ∀ q ∈ pgJ1_indexOfChar_4cfef, decode cJ1_indexOfChar_4cfef q.1 = .ok q.2 := by decide +kernel
def b_J1_indexOfChar_4cfef_7 (a1 : Nat) (a4 : Int32) (x1 : Int32) (rec7 : (Int32) → PH → Option (Int32 × PH)) (s7 : Int32) (hh7 : PH) : Option (Int32 × PH) :=
  if a4 ≤ s7 then (some ((-1 : Int32), hh7)) else (ldS a1 s7 (fun (x3 : Int32) => if x3 = x1 then (some (s7, hh7)) else (lt (s7 + Int32.ofInt 1) (fun (x4 : Int32) => rec7 x4 hh7))))
def f_J1_indexOfChar_4cfef (a1 : Nat) (a2 : Int32) (a3 : Int32) (a4 : Int32) (h0 : PH) : Option (Int32 × PH) :=
  lt a2.toInt8.toInt32 (fun (x1 : Int32) => lt a3 (fun (x2 : Int32) => lp (b_J1_indexOfChar_4cfef_7 a1 a4 x1) FU x2 h0))
set_option maxRecDepth 100000 in
set_option maxHeartbeats 4000000 in
theorem ct_J1_indexOfChar_4cfef (l : Launch) (a1 : Nat) (a2 : Int32) (a3 : Int32) (a4 : Int32) (h0 : PH) (hk1 : a1 < NS) : CT mkI l yJ1_indexOfChar_4cfef cJ1_indexOfChar_4cfef 6 (some .int) (rmd 0) [.ref (300 + a1), .int a2, .int a3, .int a4] h0 (f_J1_indexOfChar_4cfef a1 a2 a3 a4 h0) := by
  refine ct_of (by decide) (Nat.le_of_ble_eq_true rfl) ?_
  intro p e s m args below meth c D cA ad A X hr hlk
  have X : Cx p s m args c RJ1 cJ1_indexOfChar_4cfef 6 D cA ad A := X
  unfold f_J1_indexOfChar_4cfef
  refine so_pick (L' := [(0, .ref (300 + a1)), (1, .int a2), (2, .int a3), (3, .int a4)]) X [0, 1, 2, 3] rfl ?_
  refine so_iload_n (i := 1) X 1 (dkJ1_indexOfChar_4cfef (0, .iload_n 1, 1) (pgm 0 rfl)) rfl rfl ?_
  refine so_i2b X (dkJ1_indexOfChar_4cfef (1, .i2b, 1) (pgm 1 rfl)) ?_
  refine so_istore (i := 4) X (dkJ1_indexOfChar_4cfef (2, .istore 4, 2) (pgm 2 rfl)) (by decide) (Lf := fun x1 => [(4, .int x1), (0, .ref (300 + a1)), (1, .int a2), (2, .int a3), (3, .int a4)]) (fun _ => rfl) (fun x1 => ?_)
  refine so_iload_n (i := 2) X 3 (dkJ1_indexOfChar_4cfef (4, .iload_n 2, 1) (pgm 3 rfl)) rfl rfl ?_
  refine so_istore (i := 5) X (dkJ1_indexOfChar_4cfef (5, .istore 5, 2) (pgm 4 rfl)) (by decide) (Lf := fun x2 => [(5, .int x2), (4, .int x1), (0, .ref (300 + a1)), (1, .int a2), (2, .int a3), (3, .int a4)]) (fun _ => rfl) (fun x2 => ?_)
  refine so_pick (L' := [(0, .ref (300 + a1)), (3, .int a4), (4, .int x1), (5, .int x2)]) X [2, 5, 1, 0] rfl ?_
  refine so_loop (body := b_J1_indexOfChar_4cfef_7 a1 a4 x1) (fun (s7 : Int32) => [(0, .ref (300 + a1)), (3, .int a4), (4, .int x1), (5, .int s7)]) (fun rec7 hrec7 s7 hh7 => ?_) FU x2 h0
  unfold b_J1_indexOfChar_4cfef_7
  refine so_iload (i := 5) X 3 (dkJ1_indexOfChar_4cfef (7, .iload 5, 2) (pgm 5 rfl)) rfl ?_
  refine so_iload_n (i := 3) X 1 (dkJ1_indexOfChar_4cfef (9, .iload_n 3, 1) (pgm 6 rfl)) rfl rfl ?_
  refine so_icmp_ge (tgt := 31) X (dkJ1_indexOfChar_4cfef (10, .if_icmp .ge 21, 3) (pgm 7 rfl)) rfl (fun _ => ?_) (fun _ => ?_)
  · refine so_iconst (v := (-1 : Int32)) X (dkJ1_indexOfChar_4cfef (31, .iconst (-1), 1) (pgm 17 rfl)) ic_m1 ?_
    exact so_iret X hr hlk (dkJ1_indexOfChar_4cfef (32, .ireturn, 1) (pgm 18 rfl))
  · refine so_aload_n (i := 0) X 0 (dkJ1_indexOfChar_4cfef (13, .aload_n 0, 1) (pgm 8 rfl)) rfl rfl ?_
    refine so_iload (i := 5) X 3 (dkJ1_indexOfChar_4cfef (14, .iload 5, 2) (pgm 9 rfl)) rfl ?_
    refine so_strB X hk1 (dkJ1_indexOfChar_4cfef (16, .baload, 1) (pgm 10 rfl)) (fun x3 => ?_)
    refine so_iload (i := 4) X 2 (dkJ1_indexOfChar_4cfef (17, .iload 4, 2) (pgm 11 rfl)) rfl ?_
    refine so_icmp_ne (tgt := 25) X (dkJ1_indexOfChar_4cfef (19, .if_icmp .ne 6, 3) (pgm 12 rfl)) rfl (fun _ => ?_) (fun _ => ?_)
    · refine so_iinc (i := 5) X 3 (dkJ1_indexOfChar_4cfef (25, .iinc 5 1, 3) (pgm 15 rfl)) rfl rfl (by decide) (Lf := fun x4 => [(5, .int x4), (0, .ref (300 + a1)), (3, .int a4), (4, .int x1)]) (fun _ => rfl) (fun x4 => ?_)
      refine so_goto (tgt := 7) X (dkJ1_indexOfChar_4cfef (28, .goto (-21), 3) (pgm 16 rfl)) rfl ?_
      exact so_pick X [1, 2, 3, 0] rfl (hrec7 x4 hh7)
    · refine so_iload (i := 5) X 3 (dkJ1_indexOfChar_4cfef (22, .iload 5, 2) (pgm 13 rfl)) rfl ?_
      exact so_iret X hr hlk (dkJ1_indexOfChar_4cfef (24, .ireturn, 1) (pgm 14 rfl))
def pgJ1_indexOf_4cfef : List (Nat × Instr × Nat) := [(0, .iload_n 1, 1), (1, .invokestatic 88, 3), (4, .ifCond .ne 5, 3), (7, .iconst (-1), 1), (8, .ireturn, 1), (9, .iload_n 2, 1), (10, .iconst 0, 1), (11, .invokestatic 92, 3), (14, .istore_n 2, 1), (15, .iload_n 3, 1), (16, .aload_n 0, 1), (17, .arraylength, 1), (18, .invokestatic 38, 3), (21, .istore_n 3, 1), (22, .iload_n 2, 1), (23, .iload_n 3, 1), (24, .if_icmp .lt 5, 3), (27, .iconst (-1), 1), (28, .ireturn, 1), (29, .aload_n 0, 1), (30, .iload_n 1, 1), (31, .iload_n 2, 1), (32, .iload_n 3, 1), (33, .invokestatic 95, 3), (36, .ireturn, 1)]
theorem dkJ1_indexOf_4cfef : ∀ q ∈ pgJ1_indexOf_4cfef, decode cJ1_indexOf_4cfef q.1 = .ok q.2 := by decide +kernel
def f_J1_indexOf_4cfef (a1 : Nat) (a2 : Int32) (a3 : Int32) (a4 : Int32) (h0 : PH) : Option (Int32 × PH) :=
  cb (f_J1_canEncode_9a6ad a2 h0) (fun (r1 : Int32) (h2 : PH) => if r1 = 0 then (some ((-1 : Int32), h2)) else (lt (if a3 < (0 : Int32) then (0 : Int32) else a3) (fun (x3 : Int32) => lt (if (Int32.ofNat (slen a1)) < a4 then (Int32.ofNat (slen a1)) else a4) (fun (x4 : Int32) => if x3 < x4 then (cb (f_J1_indexOfChar_4cfef a1 a2 x3 x4 h2) (fun (r5 : Int32) (h6 : PH) => some (r5, h6))) else (some ((-1 : Int32), h2))))))
set_option maxRecDepth 100000 in
set_option maxHeartbeats 4000000 in
theorem ct_J1_indexOf_4cfef (l : Launch) (a1 : Nat) (a2 : Int32) (a3 : Int32) (a4 : Int32) (h0 : PH) (hk1 : a1 < NS) : CT mkI l yJ1_indexOf_4cfef cJ1_indexOf_4cfef 4 (some .int) (rmd 1) [.ref (300 + a1), .int a2, .int a3, .int a4] h0 (f_J1_indexOf_4cfef a1 a2 a3 a4 h0) := by
  refine ct_of (by decide) (Nat.le_of_ble_eq_true rfl) ?_
  intro p e s m args below meth c D cA ad A X hr hlk
  have X : Cx p s m args c RJ1 cJ1_indexOf_4cfef 4 D cA ad A := X
  unfold f_J1_indexOf_4cfef
  refine so_pick (L' := [(0, .ref (300 + a1)), (1, .int a2), (2, .int a3), (3, .int a4)]) X [0, 1, 2, 3] rfl ?_
  refine so_iload_n (i := 1) X 1 (dkJ1_indexOf_4cfef (0, .iload_n 1, 1) (pgm 0 rfl)) rfl rfl ?_
  refine so_callS (n := 1) (As := [.int a2]) X (ct_J1_canEncode_9a6ad l a2 h0 ) lk_897 lk_898 lk_141 lk_899 (by decide +kernel) rfl rfl rfl (rm_ok (by omega) (by decide)) ⟨Nat.zero_le _, Nat.zero_le _⟩ (Nat.le_of_ble_eq_true rfl) (dkJ1_indexOf_4cfef (1, .invokestatic 88, 3) (pgm 1 rfl)) (fun r1 h2 => ?_) rfl
  refine so_if_ne (tgt := 9) X (dkJ1_indexOf_4cfef (4, .ifCond .ne 5, 3) (pgm 2 rfl)) rfl (fun _ => ?_) (fun _ => ?_)
  · refine so_iload_n (i := 2) X 2 (dkJ1_indexOf_4cfef (9, .iload_n 2, 1) (pgm 5 rfl)) rfl rfl ?_
    refine so_iconst (v := (0 : Int32)) X (dkJ1_indexOf_4cfef (10, .iconst 0, 1) (pgm 6 rfl)) ic_0 ?_
    refine so_mmax X lk_900 lk_901 lk_135 lk_902 (Nat.le_of_ble_eq_true rfl) (Nat.le_of_ble_eq_true rfl) ⟨Nat.zero_le _, Nat.zero_le _⟩ (dkJ1_indexOf_4cfef (11, .invokestatic 92, 3) (pgm 7 rfl)) ?_
    refine so_istore_n (i := 2) X (dkJ1_indexOf_4cfef (14, .istore_n 2, 1) (pgm 8 rfl)) rfl (by decide) (Lf := fun x3 => [(2, .int x3), (0, .ref (300 + a1)), (1, .int a2), (3, .int a4)]) (fun _ => rfl) (fun x3 => ?_)
    refine so_iload_n (i := 3) X 3 (dkJ1_indexOf_4cfef (15, .iload_n 3, 1) (pgm 9 rfl)) rfl rfl ?_
    refine so_aload_n (i := 0) X 1 (dkJ1_indexOf_4cfef (16, .aload_n 0, 1) (pgm 10 rfl)) rfl rfl ?_
    refine so_strL X hk1 (dkJ1_indexOf_4cfef (17, .arraylength, 1) (pgm 11 rfl)) ?_
    refine so_mmin X lk_903 lk_904 lk_135 lk_905 (Nat.le_of_ble_eq_true rfl) (Nat.le_of_ble_eq_true rfl) ⟨Nat.zero_le _, Nat.zero_le _⟩ (dkJ1_indexOf_4cfef (18, .invokestatic 38, 3) (pgm 12 rfl)) ?_
    refine so_istore_n (i := 3) X (dkJ1_indexOf_4cfef (21, .istore_n 3, 1) (pgm 13 rfl)) rfl (by decide) (Lf := fun x4 => [(3, .int x4), (2, .int x3), (0, .ref (300 + a1)), (1, .int a2)]) (fun _ => rfl) (fun x4 => ?_)
    refine so_iload_n (i := 2) X 1 (dkJ1_indexOf_4cfef (22, .iload_n 2, 1) (pgm 14 rfl)) rfl rfl ?_
    refine so_iload_n (i := 3) X 0 (dkJ1_indexOf_4cfef (23, .iload_n 3, 1) (pgm 15 rfl)) rfl rfl ?_
    refine so_icmp_lt (tgt := 29) X (dkJ1_indexOf_4cfef (24, .if_icmp .lt 5, 3) (pgm 16 rfl)) rfl (fun _ => ?_) (fun _ => ?_)
    · refine so_aload_n (i := 0) X 2 (dkJ1_indexOf_4cfef (29, .aload_n 0, 1) (pgm 19 rfl)) rfl rfl ?_
      refine so_iload_n (i := 1) X 3 (dkJ1_indexOf_4cfef (30, .iload_n 1, 1) (pgm 20 rfl)) rfl rfl ?_
      refine so_iload_n (i := 2) X 1 (dkJ1_indexOf_4cfef (31, .iload_n 2, 1) (pgm 21 rfl)) rfl rfl ?_
      refine so_iload_n (i := 3) X 0 (dkJ1_indexOf_4cfef (32, .iload_n 3, 1) (pgm 22 rfl)) rfl rfl ?_
      refine so_callS (n := 4) (As := [.ref (300 + a1), .int a2, .int x3, .int x4]) X (ct_J1_indexOfChar_4cfef l a1 a2 x3 x4 h2 hk1) lk_906 lk_907 lk_141 lk_908 (by decide +kernel) rfl rfl rfl (rm_ok (by omega) (by decide)) ⟨Nat.zero_le _, Nat.zero_le _⟩ (Nat.le_of_ble_eq_true rfl) (dkJ1_indexOf_4cfef (33, .invokestatic 95, 3) (pgm 23 rfl)) (fun r5 h6 => ?_) rfl
      exact so_iret X hr hlk (dkJ1_indexOf_4cfef (36, .ireturn, 1) (pgm 24 rfl))
    · refine so_iconst (v := (-1 : Int32)) X (dkJ1_indexOf_4cfef (27, .iconst (-1), 1) (pgm 17 rfl)) ic_m1 ?_
      exact so_iret X hr hlk (dkJ1_indexOf_4cfef (28, .ireturn, 1) (pgm 18 rfl))
  · refine so_iconst (v := (-1 : Int32)) X (dkJ1_indexOf_4cfef (7, .iconst (-1), 1) (pgm 3 rfl)) ic_m1 ?_
    exact so_iret X hr hlk (dkJ1_indexOf_4cfef (8, .ireturn, 1) (pgm 4 rfl))
def pgJ0_indexOf_7cf53 : List (Nat × Instr × Nat) := [(0, .aload_n 0, 1), (1, .invokevirtual 492, 3), (4, .ifCond .eq 19, 3), (7, .aload_n 0, 1), (8, .getfield 9, 3), (11, .iload_n 1, 1), (12, .iload_n 2, 1), (13, .aload_n 0, 1), (14, .invokevirtual 505, 3), (17, .invokestatic 637, 3), (20, .goto 16, 3), (23, .aload_n 0, 1), (24, .getfield 9, 3), (27, .iload_n 1, 1), (28, .iload_n 2, 1), (29, .aload_n 0, 1), (30, .invokevirtual 505, 3), (33, .invokestatic 640, 3), (36, .ireturn, 1)]
theorem dkJ0_indexOf_7cf53 : ∀ q ∈ pgJ0_indexOf_7cf53, decode cJ0_indexOf_7cf53 q.1 = .ok q.2 := by decide +kernel
def f_J0_indexOf_7cf53 (this : Nat) (a1 : Int32) (a2 : Int32) (h0 : PH) : Option (Int32 × PH) :=
  cb (f_J0_isLatin1_aae02 this h0) (fun (r1 : Int32) (h2 : PH) => lt (fun (t3 : Int32) (h4 : PH) => some (t3, h4)) (fun (j36 : Int32 → PH → Option (Int32 × PH)) => if r1 = 0 then (cb (f_J0_length_8abf5 this h2) (fun (r5 : Int32) (h6 : PH) => none)) else (cb (f_J0_length_8abf5 this h2) (fun (r7 : Int32) (h8 : PH) => cb (f_J1_indexOf_4cfef this a1 a2 r7 h8) (fun (r9 : Int32) (h10 : PH) => j36 r9 h10)))))
set_option maxRecDepth 100000 in
set_option maxHeartbeats 4000000 in
theorem ct_J0_indexOf_7cf53 (l : Launch) (this : Nat) (a1 : Int32) (a2 : Int32) (h0 : PH) (hk : this < NS) : CT mkI l yJ0_indexOf_7cf53 cJ0_indexOf_7cf53 3 (some .int) (rmd 2) [.ref (200 + this), .int a1, .int a2] h0 (f_J0_indexOf_7cf53 this a1 a2 h0) := by
  refine ct_of (by decide) (Nat.le_of_ble_eq_true rfl) ?_
  intro p e s m args below meth c D cA ad A X hr hlk
  have X : Cx p s m args c RJ0 cJ0_indexOf_7cf53 3 D cA ad A := X
  unfold f_J0_indexOf_7cf53
  refine so_pick (L' := [(0, .ref (200 + this)), (1, .int a1), (2, .int a2)]) X [0, 1, 2] rfl ?_
  refine so_aload_n (i := 0) X 0 (dkJ0_indexOf_7cf53 (0, .aload_n 0, 1) (pgm 0 rfl)) rfl rfl ?_
  refine so_callT (n := 0) (As := []) (i := this) X (ct_J0_isLatin1_aae02 l this h0 hk) hk lk_880 lk_881 lk_882 lk_140 lk_883 (by decide +kernel) rfl rfl rfl (rm_ok (by omega) (by decide)) ⟨Nat.zero_le _, Nat.zero_le _⟩ (Nat.le_of_ble_eq_true rfl) (dkJ0_indexOf_7cf53 (1, .invokevirtual 492, 3) (pgm 1 rfl)) (fun r1 h2 => ?_) rfl
  refine so_join (jf := fun (t3 : Int32) (h4 : PH) => some (t3, h4)) (fun (j : Int32 → PH → Option (Int32 × PH)) => ∀ (t3 : Int32) (h4 : PH), SWo (QM mkI below args s D cA ad A) p l e (rmd 2) s m args below meth c 0 0 3 D cA ad A 36 [] [.int t3] h4 (j t3 h4)) ?_ (fun j36 hj36 => ?_)
  · intro t3 h4
    exact so_iret X hr hlk (dkJ0_indexOf_7cf53 (36, .ireturn, 1) (pgm 18 rfl))
  refine so_if_eq (tgt := 23) X (dkJ0_indexOf_7cf53 (4, .ifCond .eq 19, 3) (pgm 2 rfl)) rfl (fun _ => ?_) (fun _ => ?_)
  · refine so_aload_n (i := 0) X 0 (dkJ0_indexOf_7cf53 (23, .aload_n 0, 1) (pgm 11 rfl)) rfl rfl ?_
    refine so_strV X hk lk_2306 (dkJ0_indexOf_7cf53 (24, .getfield 9, 3) (pgm 12 rfl)) ?_
    refine so_iload_n (i := 1) X 1 (dkJ0_indexOf_7cf53 (27, .iload_n 1, 1) (pgm 13 rfl)) rfl rfl ?_
    refine so_iload_n (i := 2) X 2 (dkJ0_indexOf_7cf53 (28, .iload_n 2, 1) (pgm 14 rfl)) rfl rfl ?_
    refine so_aload_n (i := 0) X 0 (dkJ0_indexOf_7cf53 (29, .aload_n 0, 1) (pgm 15 rfl)) rfl rfl ?_
    refine so_callT (n := 0) (As := []) (i := this) X (ct_J0_length_8abf5 l this h2 hk) hk lk_886 lk_887 lk_888 lk_140 lk_889 (by decide +kernel) rfl rfl rfl (rm_ok (by omega) (by decide)) ⟨Nat.zero_le _, Nat.zero_le _⟩ (Nat.le_of_ble_eq_true rfl) (dkJ0_indexOf_7cf53 (30, .invokevirtual 505, 3) (pgm 16 rfl)) (fun r5 h6 => ?_) rfl
    exact so_none
  · refine so_aload_n (i := 0) X 0 (dkJ0_indexOf_7cf53 (7, .aload_n 0, 1) (pgm 3 rfl)) rfl rfl ?_
    refine so_strV X hk lk_2306 (dkJ0_indexOf_7cf53 (8, .getfield 9, 3) (pgm 4 rfl)) ?_
    refine so_iload_n (i := 1) X 1 (dkJ0_indexOf_7cf53 (11, .iload_n 1, 1) (pgm 5 rfl)) rfl rfl ?_
    refine so_iload_n (i := 2) X 2 (dkJ0_indexOf_7cf53 (12, .iload_n 2, 1) (pgm 6 rfl)) rfl rfl ?_
    refine so_aload_n (i := 0) X 0 (dkJ0_indexOf_7cf53 (13, .aload_n 0, 1) (pgm 7 rfl)) rfl rfl ?_
    refine so_callT (n := 0) (As := []) (i := this) X (ct_J0_length_8abf5 l this h2 hk) hk lk_886 lk_887 lk_888 lk_140 lk_889 (by decide +kernel) rfl rfl rfl (rm_ok (by omega) (by decide)) ⟨Nat.zero_le _, Nat.zero_le _⟩ (Nat.le_of_ble_eq_true rfl) (dkJ0_indexOf_7cf53 (14, .invokevirtual 505, 3) (pgm 8 rfl)) (fun r7 h8 => ?_) rfl
    refine so_callS (n := 4) (As := [.ref (300 + this), .int a1, .int a2, .int r7]) X (ct_J1_indexOf_4cfef l this a1 a2 r7 h8 hk) lk_894 lk_895 lk_141 lk_896 (by decide +kernel) rfl rfl rfl (rm_ok (by omega) (by decide)) ⟨Nat.zero_le _, Nat.zero_le _⟩ (Nat.le_of_ble_eq_true rfl) (dkJ0_indexOf_7cf53 (17, .invokestatic 637, 3) (pgm 9 rfl)) (fun r9 h10 => ?_) rfl
    refine so_goto (tgt := 36) X (dkJ0_indexOf_7cf53 (20, .goto 16, 3) (pgm 10 rfl)) rfl ?_
    exact so_pick X [] rfl (hj36 r9 h10)
def pgJ0_indexOf_0f7a4 : List (Nat × Instr × Nat) := [(0, .aload_n 0, 1), (1, .iload_n 1, 1), (2, .iconst 0, 1), (3, .invokevirtual 633, 3), (6, .ireturn, 1)]
theorem dkJ0_indexOf_0f7a4 : ∀ q ∈ pgJ0_indexOf_0f7a4, decode cJ0_indexOf_0f7a4 q.1 = .ok q.2 := by decide +kernel
def f_J0_indexOf_0f7a4 (this : Nat) (a1 : Int32) (h0 : PH) : Option (Int32 × PH) :=
  cb (f_J0_indexOf_7cf53 this a1 (0 : Int32) h0) (fun (r1 : Int32) (h2 : PH) => some (r1, h2))
set_option maxRecDepth 100000 in
set_option maxHeartbeats 4000000 in
theorem ct_J0_indexOf_0f7a4 (l : Launch) (this : Nat) (a1 : Int32) (h0 : PH) (hk : this < NS) : CT mkI l yJ0_indexOf_0f7a4 cJ0_indexOf_0f7a4 2 (some .int) (rmd 3) [.ref (200 + this), .int a1] h0 (f_J0_indexOf_0f7a4 this a1 h0) := by
  refine ct_of (by decide) (Nat.le_of_ble_eq_true rfl) ?_
  intro p e s m args below meth c D cA ad A X hr hlk
  have X : Cx p s m args c RJ0 cJ0_indexOf_0f7a4 2 D cA ad A := X
  unfold f_J0_indexOf_0f7a4
  refine so_pick (L' := [(0, .ref (200 + this)), (1, .int a1)]) X [0, 1] rfl ?_
  refine so_aload_n (i := 0) X 0 (dkJ0_indexOf_0f7a4 (0, .aload_n 0, 1) (pgm 0 rfl)) rfl rfl ?_
  refine so_iload_n (i := 1) X 1 (dkJ0_indexOf_0f7a4 (1, .iload_n 1, 1) (pgm 1 rfl)) rfl rfl ?_
  refine so_iconst (v := (0 : Int32)) X (dkJ0_indexOf_0f7a4 (2, .iconst 0, 1) (pgm 2 rfl)) ic_0 ?_
  refine so_callT (n := 2) (As := [.int a1, .int (0 : Int32)]) (i := this) X (ct_J0_indexOf_7cf53 l this a1 (0 : Int32) h0 hk) hk lk_876 lk_877 lk_878 lk_140 lk_879 (by decide +kernel) rfl rfl rfl (rm_ok (by omega) (by decide)) ⟨Nat.zero_le _, Nat.zero_le _⟩ (Nat.le_of_ble_eq_true rfl) (dkJ0_indexOf_0f7a4 (3, .invokevirtual 633, 3) (pgm 3 rfl)) (fun r1 h2 => ?_) rfl
  exact so_iret X hr hlk (dkJ0_indexOf_0f7a4 (6, .ireturn, 1) (pgm 4 rfl))
def pgX0_begin : List (Nat × Instr × Nat) := [(0, .aload_n 0, 1), (1, .iconst 1, 1), (2, .iload_n 1, 1), (3, .ishl, 1), (4, .iconst 1, 1), (5, .isub, 1), (6, .putfield 23, 3), (9, .aload_n 0, 1), (10, .getfield 9, 3), (13, .iconst 0, 1), (14, .invokestatic 27, 3), (17, .aload_n 0, 1), (18, .getfield 15, 3), (21, .iconst 0, 1), (22, .invokestatic 27, 3), (25, .aload_n 0, 1), (26, .iconst 0, 1), (27, .putfield 33, 3), (30, .aload_n 0, 1), (31, .iconst 0, 1), (32, .putfield 36, 3), (35, .return_, 1)]
theorem dkX0_begin : ∀ q ∈ pgX0_begin, decode cX0_begin q.1 = .ok q.2 := by decide +kernel
def f_X0_begin (this : Nat) (a1 : Int32) (h0 : PH) : Option (Unit × PH) :=
  lt (pI h0 this 0 (((1 : Int32) <<< (a1 &&& 31)) - (1 : Int32))) (fun (h1 : PH) => cb (f_J7_fill_53178 (rt this 1) 10 (0 : Int32) h1) (fun (r2 : Unit) (h3 : PH) => cb (f_J7_fill_53178 (rt this 2) 6 (0 : Int32) h3) (fun (r4 : Unit) (h5 : PH) => lt (pI h5 this 3 (0 : Int32)) (fun (h6 : PH) => lt (pI h6 this 4 (0 : Int32)) (fun (h7 : PH) => some ((), h7))))))
set_option maxRecDepth 100000 in
set_option maxHeartbeats 4000000 in
theorem ct_X0_begin (l : Launch) (this : Nat) (a1 : Int32) (h0 : PH) (hk : (kd this).1 = 0) : CT mkV l yX0_begin cX0_begin 2 none (rmd 1) [.ref this, .int a1] h0 (f_X0_begin this a1 h0) := by
  refine ct_of (by decide) (Nat.le_of_ble_eq_true rfl) ?_
  intro p e s m args below meth c D cA ad A X hr hlk
  have X : Cx p s m args c RX0 cX0_begin 2 D cA ad A := X
  unfold f_X0_begin
  refine so_pick (L' := [(0, .ref this), (1, .int a1)]) X [0, 1] rfl ?_
  refine so_aload_n (i := 0) X 0 (dkX0_begin (0, .aload_n 0, 1) (pgm 0 rfl)) rfl rfl ?_
  refine so_iconst (v := (1 : Int32)) X (dkX0_begin (1, .iconst 1, 1) (pgm 1 rfl)) ic_1 ?_
  refine so_iload_n (i := 1) X 1 (dkX0_begin (2, .iload_n 1, 1) (pgm 2 rfl)) rfl rfl ?_
  refine so_ishl X (dkX0_begin (3, .ishl, 1) (pgm 3 rfl)) ?_
  refine so_iconst (v := (1 : Int32)) X (dkX0_begin (4, .iconst 1, 1) (pgm 4 rfl)) ic_1 ?_
  refine so_isub X (dkX0_begin (5, .isub, 1) (pgm 5 rfl)) ?_
  refine sf_putI X ff_0_0 ft_0 rfl lk_335 hk rfl rfl (dkX0_begin (6, .putfield 23, 3) (pgm 6 rfl)) (fun h1 => ?_)
  refine so_aload_n (i := 0) X 0 (dkX0_begin (9, .aload_n 0, 1) (pgm 7 rfl)) rfl rfl ?_
  refine sf_getR X ff_0_1 lk_339 hk (dkX0_begin (10, .getfield 9, 3) (pgm 8 rfl)) ?_
  refine so_iconst (v := (0 : Int32)) X (dkX0_begin (13, .iconst 0, 1) (pgm 9 rfl)) ic_0 ?_
  refine so_callS (n := 2) (As := [.ref (rt this 1), .int (0 : Int32)]) X (ct_J7_fill_53178 l (rt this 1) 10 (0 : Int32) h1 (rk_0_1 this hk)) lk_1111 lk_368 lk_127 lk_369 (by decide +kernel) rfl rfl rfl (rm_ok (by omega) (by decide)) ⟨Nat.zero_le _, Nat.zero_le _⟩ (Nat.le_of_ble_eq_true rfl) (dkX0_begin (14, .invokestatic 27, 3) (pgm 10 rfl)) (fun r2 h3 => ?_) rfl
  refine so_aload_n (i := 0) X 0 (dkX0_begin (17, .aload_n 0, 1) (pgm 11 rfl)) rfl rfl ?_
  refine sf_getR X ff_0_2 lk_342 hk (dkX0_begin (18, .getfield 15, 3) (pgm 12 rfl)) ?_
  refine so_iconst (v := (0 : Int32)) X (dkX0_begin (21, .iconst 0, 1) (pgm 13 rfl)) ic_0 ?_
  refine so_callS (n := 2) (As := [.ref (rt this 2), .int (0 : Int32)]) X (ct_J7_fill_53178 l (rt this 2) 6 (0 : Int32) h3 (rk_0_2 this hk)) lk_1111 lk_368 lk_127 lk_369 (by decide +kernel) rfl rfl rfl (rm_ok (by omega) (by decide)) ⟨Nat.zero_le _, Nat.zero_le _⟩ (Nat.le_of_ble_eq_true rfl) (dkX0_begin (22, .invokestatic 27, 3) (pgm 14 rfl)) (fun r4 h5 => ?_) rfl
  refine so_aload_n (i := 0) X 0 (dkX0_begin (25, .aload_n 0, 1) (pgm 15 rfl)) rfl rfl ?_
  refine so_iconst (v := (0 : Int32)) X (dkX0_begin (26, .iconst 0, 1) (pgm 16 rfl)) ic_0 ?_
  refine sf_putI X ff_0_3 ft_0 rfl lk_344 hk rfl rfl (dkX0_begin (27, .putfield 33, 3) (pgm 17 rfl)) (fun h6 => ?_)
  refine so_aload_n (i := 0) X 0 (dkX0_begin (30, .aload_n 0, 1) (pgm 18 rfl)) rfl rfl ?_
  refine so_iconst (v := (0 : Int32)) X (dkX0_begin (31, .iconst 0, 1) (pgm 19 rfl)) ic_0 ?_
  refine sf_putI X ff_0_4 ft_0 rfl lk_346 hk rfl rfl (dkX0_begin (32, .putfield 36, 3) (pgm 20 rfl)) (fun h7 => ?_)
  exact so_vret X hr hlk (dkX0_begin (35, .return_, 1) (pgm 21 rfl))
def pgX0_copyFrom : List (Nat × Instr × Nat) := [(0, .aload_n 0, 1), (1, .aload_n 1, 1), (2, .getfield 23, 3), (5, .putfield 23, 3), (8, .aload_n 1, 1), (9, .getfield 9, 3), (12, .iconst 0, 1), (13, .aload_n 0, 1), (14, .getfield 9, 3), (17, .iconst 0, 1), (18, .bipush 10, 2), (20, .invokestatic 39, 3), (23, .aload_n 1, 1), (24, .getfield 15, 3), (27, .iconst 0, 1), (28, .aload_n 0, 1), (29, .getfield 15, 3), (32, .iconst 0, 1), (33, .bipush 6, 2), (35, .invokestatic 39, 3), (38, .aload_n 0, 1), (39, .aload_n 1, 1), (40, .getfield 33, 3), (43, .putfield 33, 3), (46, .aload_n 0, 1), (47, .aload_n 1, 1), (48, .getfield 36, 3), (51, .putfield 36, 3), (54, .iconst 0, 1), (55, .istore_n 2, 1), (56, .iload_n 2, 1), (57, .bipush 10, 2), (59, .if_icmp .ge 28, 3), (62, .aload_n 1, 1), (63, .getfield 20, 3), (66, .iload_n 2, 1), (67, .aaload, 1), (68, .iconst 0, 1), (69, .aload_n 0, 1), (70, .getfield 20, 3), (73, .iload_n 2, 1), (74, .aaload, 1), (75, .iconst 0, 1), (76, .bipush 17, 2), (78, .invokestatic 39, 3), (81, .iinc 2 1, 3), (84, .goto (-28), 3), (87, .return_, 1)]
theorem dkX0_copyFrom : ∀ q ∈ pgX0_copyFrom, decode cX0_copyFrom q.1 = .ok q.2 := by decide +kernel
def b_X0_copyFrom_56 (this : Nat) (a1 : Nat) (rec56 : (Int32) → PH → Option (Unit × PH)) (s56 : Int32) (hh56 : PH) : Option (Unit × PH) :=
  if (10 : Int32) ≤ s56 then (some ((), hh56)) else (ldR (rt a1 5) 10 s56 (fun (v7 : Nat) => ldR (rt this 5) 10 s56 (fun (v8 : Nat) => cyI hh56 v7 17 v8 17 (0 : Int32) (0 : Int32) (17 : Int32) (fun (h9 : PH) => lt (s56 + Int32.ofInt 1) (fun (x10 : Int32) => rec56 x10 h9)))))
def f_X0_copyFrom (this : Nat) (a1 : Nat) (h0 : PH) : Option (Unit × PH) :=
  lt (pI h0 this 0 (h0.1 a1 0)) (fun (h1 : PH) => cyI h1 (rt a1 1) 10 (rt this 1) 10 (0 : Int32) (0 : Int32) (10 : Int32) (fun (h2 : PH) => cyI h2 (rt a1 2) 6 (rt this 2) 6 (0 : Int32) (0 : Int32) (6 : Int32) (fun (h3 : PH) => lt (pI h3 this 3 (h3.1 a1 3)) (fun (h4 : PH) => lt (pI h4 this 4 (h4.1 a1 4)) (fun (h5 : PH) => lt (0 : Int32) (fun (x6 : Int32) => lp (b_X0_copyFrom_56 this a1) FU x6 h5))))))
set_option maxRecDepth 100000 in
set_option maxHeartbeats 4000000 in
theorem ct_X0_copyFrom (l : Launch) (this : Nat) (a1 : Nat) (h0 : PH) (hk : (kd this).1 = 0) (hk1 : (kd a1).1 = 0) : CT mkV l yX0_copyFrom cX0_copyFrom 3 none (rmd 1) [.ref this, .ref a1] h0 (f_X0_copyFrom this a1 h0) := by
  refine ct_of (by decide) (Nat.le_of_ble_eq_true rfl) ?_
  intro p e s m args below meth c D cA ad A X hr hlk
  have X : Cx p s m args c RX0 cX0_copyFrom 3 D cA ad A := X
  unfold f_X0_copyFrom
  refine so_pick (L' := [(0, .ref this), (1, .ref a1)]) X [0, 1] rfl ?_
  refine so_aload_n (i := 0) X 0 (dkX0_copyFrom (0, .aload_n 0, 1) (pgm 0 rfl)) rfl rfl ?_
  refine so_aload_n (i := 1) X 1 (dkX0_copyFrom (1, .aload_n 1, 1) (pgm 1 rfl)) rfl rfl ?_
  refine sf_getI X ff_0_0 lk_335 hk1 (dkX0_copyFrom (2, .getfield 23, 3) (pgm 2 rfl)) ?_
  refine sf_putI X ff_0_0 ft_0 rfl lk_335 hk rfl rfl (dkX0_copyFrom (5, .putfield 23, 3) (pgm 3 rfl)) (fun h1 => ?_)
  refine so_aload_n (i := 1) X 1 (dkX0_copyFrom (8, .aload_n 1, 1) (pgm 4 rfl)) rfl rfl ?_
  refine sf_getR X ff_0_1 lk_339 hk1 (dkX0_copyFrom (9, .getfield 9, 3) (pgm 5 rfl)) ?_
  refine so_iconst (v := (0 : Int32)) X (dkX0_copyFrom (12, .iconst 0, 1) (pgm 6 rfl)) ic_0 ?_
  refine so_aload_n (i := 0) X 0 (dkX0_copyFrom (13, .aload_n 0, 1) (pgm 7 rfl)) rfl rfl ?_
  refine sf_getR X ff_0_1 lk_339 hk (dkX0_copyFrom (14, .getfield 9, 3) (pgm 8 rfl)) ?_
  refine so_iconst (v := (0 : Int32)) X (dkX0_copyFrom (17, .iconst 0, 1) (pgm 9 rfl)) ic_0 ?_
  refine so_bipush (v := (10 : Int32)) X (dkX0_copyFrom (18, .bipush 10, 2) (pgm 10 rfl)) bp_10 ?_
  refine so_copyI X (rk_0_1 a1 hk1) (rk_0_1 this hk) lk_757 lk_718 lk_717 lk_145 (Nat.le_of_ble_eq_true rfl) (Nat.le_of_ble_eq_true rfl) (dkX0_copyFrom (20, .invokestatic 39, 3) (pgm 11 rfl)) (fun h2 => ?_)
  refine so_aload_n (i := 1) X 1 (dkX0_copyFrom (23, .aload_n 1, 1) (pgm 12 rfl)) rfl rfl ?_
  refine sf_getR X ff_0_2 lk_342 hk1 (dkX0_copyFrom (24, .getfield 15, 3) (pgm 13 rfl)) ?_
  refine so_iconst (v := (0 : Int32)) X (dkX0_copyFrom (27, .iconst 0, 1) (pgm 14 rfl)) ic_0 ?_
  refine so_aload_n (i := 0) X 0 (dkX0_copyFrom (28, .aload_n 0, 1) (pgm 15 rfl)) rfl rfl ?_
  refine sf_getR X ff_0_2 lk_342 hk (dkX0_copyFrom (29, .getfield 15, 3) (pgm 16 rfl)) ?_
  refine so_iconst (v := (0 : Int32)) X (dkX0_copyFrom (32, .iconst 0, 1) (pgm 17 rfl)) ic_0 ?_
  refine so_bipush (v := (6 : Int32)) X (dkX0_copyFrom (33, .bipush 6, 2) (pgm 18 rfl)) bp_6 ?_
  refine so_copyI X (rk_0_2 a1 hk1) (rk_0_2 this hk) lk_757 lk_718 lk_717 lk_145 (Nat.le_of_ble_eq_true rfl) (Nat.le_of_ble_eq_true rfl) (dkX0_copyFrom (35, .invokestatic 39, 3) (pgm 19 rfl)) (fun h3 => ?_)
  refine so_aload_n (i := 0) X 0 (dkX0_copyFrom (38, .aload_n 0, 1) (pgm 20 rfl)) rfl rfl ?_
  refine so_aload_n (i := 1) X 1 (dkX0_copyFrom (39, .aload_n 1, 1) (pgm 21 rfl)) rfl rfl ?_
  refine sf_getI X ff_0_3 lk_344 hk1 (dkX0_copyFrom (40, .getfield 33, 3) (pgm 22 rfl)) ?_
  refine sf_putI X ff_0_3 ft_0 rfl lk_344 hk rfl rfl (dkX0_copyFrom (43, .putfield 33, 3) (pgm 23 rfl)) (fun h4 => ?_)
  refine so_aload_n (i := 0) X 0 (dkX0_copyFrom (46, .aload_n 0, 1) (pgm 24 rfl)) rfl rfl ?_
  refine so_aload_n (i := 1) X 1 (dkX0_copyFrom (47, .aload_n 1, 1) (pgm 25 rfl)) rfl rfl ?_
  refine sf_getI X ff_0_4 lk_346 hk1 (dkX0_copyFrom (48, .getfield 36, 3) (pgm 26 rfl)) ?_
  refine sf_putI X ff_0_4 ft_0 rfl lk_346 hk rfl rfl (dkX0_copyFrom (51, .putfield 36, 3) (pgm 27 rfl)) (fun h5 => ?_)
  refine so_iconst (v := (0 : Int32)) X (dkX0_copyFrom (54, .iconst 0, 1) (pgm 28 rfl)) ic_0 ?_
  refine so_istore_n (i := 2) X (dkX0_copyFrom (55, .istore_n 2, 1) (pgm 29 rfl)) rfl (by decide) (Lf := fun x6 => [(2, .int x6), (0, .ref this), (1, .ref a1)]) (fun _ => rfl) (fun x6 => ?_)
  refine so_pick (L' := [(0, .ref this), (1, .ref a1), (2, .int x6)]) X [1, 2, 0] rfl ?_
  refine so_loop (body := b_X0_copyFrom_56 this a1) (fun (s56 : Int32) => [(0, .ref this), (1, .ref a1), (2, .int s56)]) (fun rec56 hrec56 s56 hh56 => ?_) FU x6 h5
  unfold b_X0_copyFrom_56
  refine so_iload_n (i := 2) X 2 (dkX0_copyFrom (56, .iload_n 2, 1) (pgm 30 rfl)) rfl rfl ?_
  refine so_bipush (v := (10 : Int32)) X (dkX0_copyFrom (57, .bipush 10, 2) (pgm 31 rfl)) bp_10 ?_
  refine so_icmp_ge (tgt := 87) X (dkX0_copyFrom (59, .if_icmp .ge 28, 3) (pgm 32 rfl)) rfl (fun _ => ?_) (fun _ => ?_)
  · exact so_vret X hr hlk (dkX0_copyFrom (87, .return_, 1) (pgm 47 rfl))
  · refine so_aload_n (i := 1) X 1 (dkX0_copyFrom (62, .aload_n 1, 1) (pgm 33 rfl)) rfl rfl ?_
    refine sf_getR X ff_0_5 lk_347 hk1 (dkX0_copyFrom (63, .getfield 20, 3) (pgm 34 rfl)) ?_
    refine so_iload_n (i := 2) X 2 (dkX0_copyFrom (66, .iload_n 2, 1) (pgm 35 rfl)) rfl rfl ?_
    refine so_aaldK X (rk_0_5 a1 hk1) (by decide) (by decide) 4 (fun _ => rfl) rfl (re_0_5 a1 hk1) (dkX0_copyFrom (67, .aaload, 1) (pgm 36 rfl)) (fun v7 hv7 => ?_)
    refine so_iconst (v := (0 : Int32)) X (dkX0_copyFrom (68, .iconst 0, 1) (pgm 37 rfl)) ic_0 ?_
    refine so_aload_n (i := 0) X 0 (dkX0_copyFrom (69, .aload_n 0, 1) (pgm 38 rfl)) rfl rfl ?_
    refine sf_getR X ff_0_5 lk_347 hk (dkX0_copyFrom (70, .getfield 20, 3) (pgm 39 rfl)) ?_
    refine so_iload_n (i := 2) X 2 (dkX0_copyFrom (73, .iload_n 2, 1) (pgm 40 rfl)) rfl rfl ?_
    refine so_aaldK X (rk_0_5 this hk) (by decide) (by decide) 4 (fun _ => rfl) rfl (re_0_5 this hk) (dkX0_copyFrom (74, .aaload, 1) (pgm 41 rfl)) (fun v8 hv8 => ?_)
    refine so_iconst (v := (0 : Int32)) X (dkX0_copyFrom (75, .iconst 0, 1) (pgm 42 rfl)) ic_0 ?_
    refine so_bipush (v := (17 : Int32)) X (dkX0_copyFrom (76, .bipush 17, 2) (pgm 43 rfl)) bp_17 ?_
    refine so_copyI X hv7 hv8 lk_757 lk_718 lk_717 lk_145 (Nat.le_of_ble_eq_true rfl) (Nat.le_of_ble_eq_true rfl) (dkX0_copyFrom (78, .invokestatic 39, 3) (pgm 44 rfl)) (fun h9 => ?_)
    refine so_iinc (i := 2) X 2 (dkX0_copyFrom (81, .iinc 2 1, 3) (pgm 45 rfl)) rfl rfl (by decide) (Lf := fun x10 => [(2, .int x10), (0, .ref this), (1, .ref a1)]) (fun _ => rfl) (fun x10 => ?_)
    refine so_goto (tgt := 56) X (dkX0_copyFrom (84, .goto (-28), 3) (pgm 46 rfl)) rfl ?_
    exact so_pick X [1, 2, 0] rfl (hrec56 x10 h9)
def pgX0_remember : List (Nat × Instr × Nat) := [(0, .aload_n 0, 1), (1, .getfield 20, 3), (4, .aload_n 0, 1), (5, .getfield 36, 3), (8, .aload_n 0, 1), (9, .getfield 33, 3), (12, .iadd, 1), (13, .bipush 10, 2), (15, .irem, 1), (16, .aaload, 1), (17, .astore_n 1, 1), (18, .aload_n 0, 1), (19, .getfield 33, 3), (22, .bipush 10, 2), (24, .if_icmp .ge 16, 3), (27, .aload_n 0, 1), (28, .dup, 1), (29, .getfield 33, 3), (32, .iconst 1, 1), (33, .iadd, 1), (34, .putfield 33, 3), (37, .goto 16, 3), (40, .aload_n 0, 1), (41, .aload_n 0, 1), (42, .getfield 36, 3), (45, .iconst 1, 1), (46, .iadd, 1), (47, .bipush 10, 2), (49, .irem, 1), (50, .putfield 36, 3), (53, .aload_n 1, 1), (54, .iconst 0, 1), (55, .aload_n 0, 1), (56, .getfield 23, 3), (59, .iastore, 1), (60, .aload_n 0, 1), (61, .getfield 9, 3), (64, .iconst 0, 1), (65, .aload_n 1, 1), (66, .iconst 1, 1), (67, .bipush 10, 2), (69, .invokestatic 39, 3), (72, .aload_n 0, 1), (73, .getfield 15, 3), (76, .iconst 0, 1), (77, .aload_n 1, 1), (78, .bipush 11, 2), (80, .bipush 6, 2), (82, .invokestatic 39, 3), (85, .return_, 1)]
theorem dkX0_remember : ∀ q ∈ pgX0_remember, decode cX0_remember q.1 = .ok q.2 := by decide +kernel
def f_X0_remember (this : Nat) (h0 : PH) : Option (Unit × PH) :=
  nz (10 : Int32) (ldR (rt this 5) 10 (((h0.1 this 4) + (h0.1 this 3)) - ((h0.1 this 4) + (h0.1 this 3)) / (10 : Int32) * (10 : Int32)) (fun (v1 : Nat) => lt (fun (h2 : PH) => stI h2 v1 17 (0 : Int32) (h2.1 this 0) (fun (h3 : PH) => cyI h3 (rt this 1) 10 v1 17 (0 : Int32) (1 : Int32) (10 : Int32) (fun (h4 : PH) => cyI h4 (rt this 2) 6 v1 17 (0 : Int32) (11 : Int32) (6 : Int32) (fun (h5 : PH) => some ((), h5))))) (fun (j53 : PH → Option (Unit × PH)) => if (10 : Int32) ≤ (h0.1 this 3) then (nz (10 : Int32) (lt (pI h0 this 4 (((h0.1 this 4) + (1 : Int32)) - ((h0.1 this 4) + (1 : Int32)) / (10 : Int32) * (10 : Int32))) (fun (h6 : PH) => j53 h6))) else (lt (pI h0 this 3 ((h0.1 this 3) + (1 : Int32))) (fun (h7 : PH) => j53 h7)))))
set_option maxRecDepth 100000 in
set_option maxHeartbeats 4000000 in
theorem ct_X0_remember (l : Launch) (this : Nat) (h0 : PH) (hk : (kd this).1 = 0) : CT mkV l yX0_remember cX0_remember 2 none (rmd 1) [.ref this] h0 (f_X0_remember this h0) := by
  refine ct_of (by decide) (Nat.le_of_ble_eq_true rfl) ?_
  intro p e s m args below meth c D cA ad A X hr hlk
  have X : Cx p s m args c RX0 cX0_remember 2 D cA ad A := X
  unfold f_X0_remember
  refine so_pick (L' := [(0, .ref this)]) X [0] rfl ?_
  refine so_aload_n (i := 0) X 0 (dkX0_remember (0, .aload_n 0, 1) (pgm 0 rfl)) rfl rfl ?_
  refine sf_getR X ff_0_5 lk_347 hk (dkX0_remember (1, .getfield 20, 3) (pgm 1 rfl)) ?_
  refine so_aload_n (i := 0) X 0 (dkX0_remember (4, .aload_n 0, 1) (pgm 2 rfl)) rfl rfl ?_
  refine sf_getI X ff_0_4 lk_346 hk (dkX0_remember (5, .getfield 36, 3) (pgm 3 rfl)) ?_
  refine so_aload_n (i := 0) X 0 (dkX0_remember (8, .aload_n 0, 1) (pgm 4 rfl)) rfl rfl ?_
  refine sf_getI X ff_0_3 lk_344 hk (dkX0_remember (9, .getfield 33, 3) (pgm 5 rfl)) ?_
  refine so_iadd X (dkX0_remember (12, .iadd, 1) (pgm 6 rfl)) ?_
  refine so_bipush (v := (10 : Int32)) X (dkX0_remember (13, .bipush 10, 2) (pgm 7 rfl)) bp_10 ?_
  refine so_irem X (dkX0_remember (15, .irem, 1) (pgm 8 rfl)) (fun _ => ?_)
  refine so_aaldK X (rk_0_5 this hk) (by decide) (by decide) 4 (fun _ => rfl) rfl (re_0_5 this hk) (dkX0_remember (16, .aaload, 1) (pgm 9 rfl)) (fun v1 hv1 => ?_)
  refine so_astore_n0 (i := 1) (L' := [(1, .ref v1), (0, .ref this)]) X (dkX0_remember (17, .astore_n 1, 1) (pgm 10 rfl)) rfl (by decide) rfl ?_
  refine so_aload_n (i := 0) X 1 (dkX0_remember (18, .aload_n 0, 1) (pgm 11 rfl)) rfl rfl ?_
  refine sf_getI X ff_0_3 lk_344 hk (dkX0_remember (19, .getfield 33, 3) (pgm 12 rfl)) ?_
  refine so_bipush (v := (10 : Int32)) X (dkX0_remember (22, .bipush 10, 2) (pgm 13 rfl)) bp_10 ?_
  refine so_join (jf := fun (h2 : PH) => stI h2 v1 17 (0 : Int32) (h2.1 this 0) (fun (h3 : PH) => cyI h3 (rt this 1) 10 v1 17 (0 : Int32) (1 : Int32) (10 : Int32) (fun (h4 : PH) => cyI h4 (rt this 2) 6 v1 17 (0 : Int32) (11 : Int32) (6 : Int32) (fun (h5 : PH) => some ((), h5))))) (fun (j : PH → Option (Unit × PH)) => ∀  (h2 : PH), SWo (QM mkV below args s D cA ad A) p l e (rmd 1) s m args below meth c 0 0 2 D cA ad A 53 [(0, .ref this), (1, .ref v1)] [] h2 (j h2)) ?_ (fun j53 hj53 => ?_)
  · intro h2
    refine so_aload_n (i := 1) X 1 (dkX0_remember (53, .aload_n 1, 1) (pgm 30 rfl)) rfl rfl ?_
    refine so_iconst (v := (0 : Int32)) X (dkX0_remember (54, .iconst 0, 1) (pgm 31 rfl)) ic_0 ?_
    refine so_aload_n (i := 0) X 0 (dkX0_remember (55, .aload_n 0, 1) (pgm 32 rfl)) rfl rfl ?_
    refine sf_getI X ff_0_0 lk_335 hk (dkX0_remember (56, .getfield 23, 3) (pgm 33 rfl)) ?_
    refine so_iast X hv1 (dkX0_remember (59, .iastore, 1) (pgm 34 rfl)) (fun h3 => ?_)
    refine so_aload_n (i := 0) X 0 (dkX0_remember (60, .aload_n 0, 1) (pgm 35 rfl)) rfl rfl ?_
    refine sf_getR X ff_0_1 lk_339 hk (dkX0_remember (61, .getfield 9, 3) (pgm 36 rfl)) ?_
    refine so_iconst (v := (0 : Int32)) X (dkX0_remember (64, .iconst 0, 1) (pgm 37 rfl)) ic_0 ?_
    refine so_aload_n (i := 1) X 1 (dkX0_remember (65, .aload_n 1, 1) (pgm 38 rfl)) rfl rfl ?_
    refine so_iconst (v := (1 : Int32)) X (dkX0_remember (66, .iconst 1, 1) (pgm 39 rfl)) ic_1 ?_
    refine so_bipush (v := (10 : Int32)) X (dkX0_remember (67, .bipush 10, 2) (pgm 40 rfl)) bp_10 ?_
    refine so_copyI X (rk_0_1 this hk) hv1 lk_757 lk_718 lk_717 lk_145 (Nat.le_of_ble_eq_true rfl) (Nat.le_of_ble_eq_true rfl) (dkX0_remember (69, .invokestatic 39, 3) (pgm 41 rfl)) (fun h4 => ?_)
    refine so_aload_n (i := 0) X 0 (dkX0_remember (72, .aload_n 0, 1) (pgm 42 rfl)) rfl rfl ?_
    refine sf_getR X ff_0_2 lk_342 hk (dkX0_remember (73, .getfield 15, 3) (pgm 43 rfl)) ?_
    refine so_iconst (v := (0 : Int32)) X (dkX0_remember (76, .iconst 0, 1) (pgm 44 rfl)) ic_0 ?_
    refine so_aload_n (i := 1) X 1 (dkX0_remember (77, .aload_n 1, 1) (pgm 45 rfl)) rfl rfl ?_
    refine so_bipush (v := (11 : Int32)) X (dkX0_remember (78, .bipush 11, 2) (pgm 46 rfl)) bp_11 ?_
    refine so_bipush (v := (6 : Int32)) X (dkX0_remember (80, .bipush 6, 2) (pgm 47 rfl)) bp_6 ?_
    refine so_copyI X (rk_0_2 this hk) hv1 lk_757 lk_718 lk_717 lk_145 (Nat.le_of_ble_eq_true rfl) (Nat.le_of_ble_eq_true rfl) (dkX0_remember (82, .invokestatic 39, 3) (pgm 48 rfl)) (fun h5 => ?_)
    exact so_vret X hr hlk (dkX0_remember (85, .return_, 1) (pgm 49 rfl))
  refine so_icmp_ge (tgt := 40) X (dkX0_remember (24, .if_icmp .ge 16, 3) (pgm 14 rfl)) rfl (fun _ => ?_) (fun _ => ?_)
  · refine so_aload_n (i := 0) X 1 (dkX0_remember (40, .aload_n 0, 1) (pgm 22 rfl)) rfl rfl ?_
    refine so_aload_n (i := 0) X 1 (dkX0_remember (41, .aload_n 0, 1) (pgm 23 rfl)) rfl rfl ?_
    refine sf_getI X ff_0_4 lk_346 hk (dkX0_remember (42, .getfield 36, 3) (pgm 24 rfl)) ?_
    refine so_iconst (v := (1 : Int32)) X (dkX0_remember (45, .iconst 1, 1) (pgm 25 rfl)) ic_1 ?_
    refine so_iadd X (dkX0_remember (46, .iadd, 1) (pgm 26 rfl)) ?_
    refine so_bipush (v := (10 : Int32)) X (dkX0_remember (47, .bipush 10, 2) (pgm 27 rfl)) bp_10 ?_
    refine so_irem X (dkX0_remember (49, .irem, 1) (pgm 28 rfl)) (fun _ => ?_)
    refine sf_putI X ff_0_4 ft_0 rfl lk_346 hk rfl rfl (dkX0_remember (50, .putfield 36, 3) (pgm 29 rfl)) (fun h6 => ?_)
    exact so_pick X [1, 0] rfl (hj53 h6)
  · refine so_aload_n (i := 0) X 1 (dkX0_remember (27, .aload_n 0, 1) (pgm 15 rfl)) rfl rfl ?_
    refine so_dup X (dkX0_remember (28, .dup, 1) (pgm 16 rfl)) rfl ?_
    refine sf_getI X ff_0_3 lk_344 hk (dkX0_remember (29, .getfield 33, 3) (pgm 17 rfl)) ?_
    refine so_iconst (v := (1 : Int32)) X (dkX0_remember (32, .iconst 1, 1) (pgm 18 rfl)) ic_1 ?_
    refine so_iadd X (dkX0_remember (33, .iadd, 1) (pgm 19 rfl)) ?_
    refine sf_putI X ff_0_3 ft_0 rfl lk_344 hk rfl rfl (dkX0_remember (34, .putfield 33, 3) (pgm 20 rfl)) (fun h7 => ?_)
    refine so_goto (tgt := 53) X (dkX0_remember (37, .goto 16, 3) (pgm 21 rfl)) rfl ?_
    exact so_pick X [1, 0] rfl (hj53 h7)
def pgX0_takeBack : List (Nat × Instr × Nat) := [(0, .aload_n 0, 1), (1, .dup, 1), (2, .getfield 33, 3), (5, .iload_n 1, 1), (6, .isub, 1), (7, .putfield 33, 3), (10, .aload_n 0, 1), (11, .getfield 20, 3), (14, .aload_n 0, 1), (15, .getfield 36, 3), (18, .aload_n 0, 1), (19, .getfield 33, 3), (22, .iadd, 1), (23, .bipush 10, 2), (25, .irem, 1), (26, .aaload, 1), (27, .astore_n 2, 1), (28, .aload_n 0, 1), (29, .aload_n 2, 1), (30, .iconst 0, 1), (31, .iaload, 1), (32, .putfield 23, 3), (35, .aload_n 2, 1), (36, .iconst 1, 1), (37, .aload_n 0, 1), (38, .getfield 9, 3), (41, .iconst 0, 1), (42, .bipush 10, 2), (44, .invokestatic 39, 3), (47, .aload_n 2, 1), (48, .bipush 11, 2), (50, .aload_n 0, 1), (51, .getfield 15, 3), (54, .iconst 0, 1), (55, .bipush 6, 2), (57, .invokestatic 39, 3), (60, .return_, 1)]
theorem dkX0_takeBack : ∀ q ∈ pgX0_takeBack, decode cX0_takeBack q.1 = .ok q.2 := by decide +kernel
def f_X0_takeBack (this : Nat) (a1 : Int32) (h0 : PH) : Option (Unit × PH) :=
  lt (pI h0 this 3 ((h0.1 this 3) - a1)) (fun (h1 : PH) => nz (10 : Int32) (ldR (rt this 5) 10 (((h1.1 this 4) + (h1.1 this 3)) - ((h1.1 this 4) + (h1.1 this 3)) / (10 : Int32) * (10 : Int32)) (fun (v2 : Nat) => ldI h1 v2 17 (0 : Int32) (fun (x3 : Int32) => lt (pI h1 this 0 x3) (fun (h4 : PH) => cyI h4 v2 17 (rt this 1) 10 (1 : Int32) (0 : Int32) (10 : Int32) (fun (h5 : PH) => cyI h5 v2 17 (rt this 2) 6 (11 : Int32) (0 : Int32) (6 : Int32) (fun (h6 : PH) => some ((), h6))))))))
set_option maxRecDepth 100000 in
set_option maxHeartbeats 4000000 in
theorem ct_X0_takeBack (l : Launch) (this : Nat) (a1 : Int32) (h0 : PH) (hk : (kd this).1 = 0) : CT mkV l yX0_takeBack cX0_takeBack 3 none (rmd 1) [.ref this, .int a1] h0 (f_X0_takeBack this a1 h0) := by
  refine ct_of (by decide) (Nat.le_of_ble_eq_true rfl) ?_
  intro p e s m args below meth c D cA ad A X hr hlk
  have X : Cx p s m args c RX0 cX0_takeBack 3 D cA ad A := X
  unfold f_X0_takeBack
  refine so_pick (L' := [(0, .ref this), (1, .int a1)]) X [0, 1] rfl ?_
  refine so_aload_n (i := 0) X 0 (dkX0_takeBack (0, .aload_n 0, 1) (pgm 0 rfl)) rfl rfl ?_
  refine so_dup X (dkX0_takeBack (1, .dup, 1) (pgm 1 rfl)) rfl ?_
  refine sf_getI X ff_0_3 lk_344 hk (dkX0_takeBack (2, .getfield 33, 3) (pgm 2 rfl)) ?_
  refine so_iload_n (i := 1) X 1 (dkX0_takeBack (5, .iload_n 1, 1) (pgm 3 rfl)) rfl rfl ?_
  refine so_isub X (dkX0_takeBack (6, .isub, 1) (pgm 4 rfl)) ?_
  refine sf_putI X ff_0_3 ft_0 rfl lk_344 hk rfl rfl (dkX0_takeBack (7, .putfield 33, 3) (pgm 5 rfl)) (fun h1 => ?_)
  refine so_aload_n (i := 0) X 0 (dkX0_takeBack (10, .aload_n 0, 1) (pgm 6 rfl)) rfl rfl ?_
  refine sf_getR X ff_0_5 lk_347 hk (dkX0_takeBack (11, .getfield 20, 3) (pgm 7 rfl)) ?_
  refine so_aload_n (i := 0) X 0 (dkX0_takeBack (14, .aload_n 0, 1) (pgm 8 rfl)) rfl rfl ?_
  refine sf_getI X ff_0_4 lk_346 hk (dkX0_takeBack (15, .getfield 36, 3) (pgm 9 rfl)) ?_
  refine so_aload_n (i := 0) X 0 (dkX0_takeBack (18, .aload_n 0, 1) (pgm 10 rfl)) rfl rfl ?_
  refine sf_getI X ff_0_3 lk_344 hk (dkX0_takeBack (19, .getfield 33, 3) (pgm 11 rfl)) ?_
  refine so_iadd X (dkX0_takeBack (22, .iadd, 1) (pgm 12 rfl)) ?_
  refine so_bipush (v := (10 : Int32)) X (dkX0_takeBack (23, .bipush 10, 2) (pgm 13 rfl)) bp_10 ?_
  refine so_irem X (dkX0_takeBack (25, .irem, 1) (pgm 14 rfl)) (fun _ => ?_)
  refine so_aaldK X (rk_0_5 this hk) (by decide) (by decide) 4 (fun _ => rfl) rfl (re_0_5 this hk) (dkX0_takeBack (26, .aaload, 1) (pgm 15 rfl)) (fun v2 hv2 => ?_)
  refine so_astore_n0 (i := 2) (L' := [(2, .ref v2), (0, .ref this), (1, .int a1)]) X (dkX0_takeBack (27, .astore_n 2, 1) (pgm 16 rfl)) rfl (by decide) rfl ?_
  refine so_aload_n (i := 0) X 1 (dkX0_takeBack (28, .aload_n 0, 1) (pgm 17 rfl)) rfl rfl ?_
  refine so_aload_n (i := 2) X 0 (dkX0_takeBack (29, .aload_n 2, 1) (pgm 18 rfl)) rfl rfl ?_
  refine so_iconst (v := (0 : Int32)) X (dkX0_takeBack (30, .iconst 0, 1) (pgm 19 rfl)) ic_0 ?_
  refine so_iald X hv2 (dkX0_takeBack (31, .iaload, 1) (pgm 20 rfl)) (fun x3 => ?_)
  refine sf_putI X ff_0_0 ft_0 rfl lk_335 hk rfl rfl (dkX0_takeBack (32, .putfield 23, 3) (pgm 21 rfl)) (fun h4 => ?_)
  refine so_aload_n (i := 2) X 0 (dkX0_takeBack (35, .aload_n 2, 1) (pgm 22 rfl)) rfl rfl ?_
  refine so_iconst (v := (1 : Int32)) X (dkX0_takeBack (36, .iconst 1, 1) (pgm 23 rfl)) ic_1 ?_
  refine so_aload_n (i := 0) X 1 (dkX0_takeBack (37, .aload_n 0, 1) (pgm 24 rfl)) rfl rfl ?_
  refine sf_getR X ff_0_1 lk_339 hk (dkX0_takeBack (38, .getfield 9, 3) (pgm 25 rfl)) ?_
  refine so_iconst (v := (0 : Int32)) X (dkX0_takeBack (41, .iconst 0, 1) (pgm 26 rfl)) ic_0 ?_
  refine so_bipush (v := (10 : Int32)) X (dkX0_takeBack (42, .bipush 10, 2) (pgm 27 rfl)) bp_10 ?_
  refine so_copyI X hv2 (rk_0_1 this hk) lk_757 lk_718 lk_717 lk_145 (Nat.le_of_ble_eq_true rfl) (Nat.le_of_ble_eq_true rfl) (dkX0_takeBack (44, .invokestatic 39, 3) (pgm 28 rfl)) (fun h5 => ?_)
  refine so_aload_n (i := 2) X 0 (dkX0_takeBack (47, .aload_n 2, 1) (pgm 29 rfl)) rfl rfl ?_
  refine so_bipush (v := (11 : Int32)) X (dkX0_takeBack (48, .bipush 11, 2) (pgm 30 rfl)) bp_11 ?_
  refine so_aload_n (i := 0) X 1 (dkX0_takeBack (50, .aload_n 0, 1) (pgm 31 rfl)) rfl rfl ?_
  refine sf_getR X ff_0_2 lk_342 hk (dkX0_takeBack (51, .getfield 15, 3) (pgm 32 rfl)) ?_
  refine so_iconst (v := (0 : Int32)) X (dkX0_takeBack (54, .iconst 0, 1) (pgm 33 rfl)) ic_0 ?_
  refine so_bipush (v := (6 : Int32)) X (dkX0_takeBack (55, .bipush 6, 2) (pgm 34 rfl)) bp_6 ?_
  refine so_copyI X hv2 (rk_0_2 this hk) lk_757 lk_718 lk_717 lk_145 (Nat.le_of_ble_eq_true rfl) (Nat.le_of_ble_eq_true rfl) (dkX0_takeBack (57, .invokestatic 39, 3) (pgm 35 rfl)) (fun h6 => ?_)
  exact so_vret X hr hlk (dkX0_takeBack (60, .return_, 1) (pgm 36 rfl))
def pgX0_pass : List (Nat × Instr × Nat) := [(0, .aload_n 0, 1), (1, .dup, 1), (2, .getfield 23, 3), (5, .iload_n 1, 1), (6, .iconst (-1), 1), (7, .ixor, 1), (8, .iand, 1), (9, .putfield 23, 3), (12, .iconst 0, 1), (13, .istore_n 3, 1), (14, .iload_n 3, 1), (15, .aload_n 2, 1), (16, .getfield 45, 3), (19, .if_icmp .ge 63, 3), (22, .iload_n 1, 1), (23, .iload_n 3, 1), (24, .ishr, 1), (25, .iconst 1, 1), (26, .iand, 1), (27, .iconst 1, 1), (28, .if_icmp .ne 26, 3), (31, .aload_n 0, 1), (32, .getfield 15, 3), (35, .aload_n 2, 1), (36, .getfield 50, 3), (39, .iload_n 3, 1), (40, .iaload, 1), (41, .dup2, 1), (42, .iaload, 1), (43, .aload_n 2, 1), (44, .getfield 53, 3), (47, .iload_n 3, 1), (48, .iaload, 1), (49, .iadd, 1), (50, .iastore, 1), (51, .goto 25, 3), (54, .aload_n 0, 1), (55, .getfield 23, 3), (58, .iload_n 3, 1), (59, .ishr, 1), (60, .iconst 1, 1), (61, .iand, 1), (62, .iconst 1, 1), (63, .if_icmp .ne 13, 3), (66, .aload_n 0, 1), (67, .getfield 9, 3), (70, .iload_n 3, 1), (71, .dup2, 1), (72, .iaload, 1), (73, .iconst 1, 1), (74, .iadd, 1), (75, .iastore, 1), (76, .iinc 3 1, 3), (79, .goto (-65), 3), (82, .return_, 1)]
theorem dkX0_pass : ∀ q ∈ pgX0_pass, decode cX0_pass q.1 = .ok q.2 := by decide +kernel
def b_X0_pass_14 (this : Nat) (a1 : Int32) (a2 : Nat) (rec14 : (Int32) → PH → Option (Unit × PH)) (s14 : Int32) (hh14 : PH) : Option (Unit × PH) :=
  if (hh14.1 a2 5) ≤ s14 then (some ((), hh14)) else (lt (fun (h3 : PH) => lt (s14 + Int32.ofInt 1) (fun (x4 : Int32) => rec14 x4 h3)) (fun (j76 : PH → Option (Unit × PH)) => if ((a1 >>> (s14 &&& 31)) &&& (1 : Int32)) = (1 : Int32) then (ldI hh14 (rt a2 12) 10 s14 (fun (x7 : Int32) => ldI hh14 (rt this 2) 6 x7 (fun (x8 : Int32) => ldI hh14 (rt a2 13) 10 s14 (fun (x9 : Int32) => stI hh14 (rt this 2) 6 x7 (x8 + x9) (fun (h10 : PH) => j76 h10))))) else (if (((hh14.1 this 0) >>> (s14 &&& 31)) &&& (1 : Int32)) = (1 : Int32) then (ldI hh14 (rt this 1) 10 s14 (fun (x5 : Int32) => stI hh14 (rt this 1) 10 s14 (x5 + (1 : Int32)) (fun (h6 : PH) => j76 h6))) else (j76 hh14))))
def f_X0_pass (this : Nat) (a1 : Int32) (a2 : Nat) (h0 : PH) : Option (Unit × PH) :=
  lt (pI h0 this 0 ((h0.1 this 0) &&& (a1 ^^^ (-1 : Int32)))) (fun (h1 : PH) => lt (0 : Int32) (fun (x2 : Int32) => lp (b_X0_pass_14 this a1 a2) FU x2 h1))
set_option maxRecDepth 100000 in
set_option maxHeartbeats 4000000 in
theorem ct_X0_pass (l : Launch) (this : Nat) (a1 : Int32) (a2 : Nat) (h0 : PH) (hk : (kd this).1 = 0) (hk2 : (kd a2).1 = 8) : CT mkV l yX0_pass cX0_pass 4 none (rmd 0) [.ref this, .int a1, .ref a2] h0 (f_X0_pass this a1 a2 h0) := by
  refine ct_of (by decide) (Nat.le_of_ble_eq_true rfl) ?_
  intro p e s m args below meth c D cA ad A X hr hlk
  have X : Cx p s m args c RX0 cX0_pass 4 D cA ad A := X
  unfold f_X0_pass
  refine so_pick (L' := [(0, .ref this), (1, .int a1), (2, .ref a2)]) X [0, 1, 2] rfl ?_
  refine so_aload_n (i := 0) X 0 (dkX0_pass (0, .aload_n 0, 1) (pgm 0 rfl)) rfl rfl ?_
  refine so_dup X (dkX0_pass (1, .dup, 1) (pgm 1 rfl)) rfl ?_
  refine sf_getI X ff_0_0 lk_335 hk (dkX0_pass (2, .getfield 23, 3) (pgm 2 rfl)) ?_
  refine so_iload_n (i := 1) X 1 (dkX0_pass (5, .iload_n 1, 1) (pgm 3 rfl)) rfl rfl ?_
  refine so_iconst (v := (-1 : Int32)) X (dkX0_pass (6, .iconst (-1), 1) (pgm 4 rfl)) ic_m1 ?_
  refine so_ixor X (dkX0_pass (7, .ixor, 1) (pgm 5 rfl)) ?_
  refine so_iand X (dkX0_pass (8, .iand, 1) (pgm 6 rfl)) ?_
  refine sf_putI X ff_0_0 ft_0 rfl lk_335 hk rfl rfl (dkX0_pass (9, .putfield 23, 3) (pgm 7 rfl)) (fun h1 => ?_)
  refine so_iconst (v := (0 : Int32)) X (dkX0_pass (12, .iconst 0, 1) (pgm 8 rfl)) ic_0 ?_
  refine so_istore_n (i := 3) X (dkX0_pass (13, .istore_n 3, 1) (pgm 9 rfl)) rfl (by decide) (Lf := fun x2 => [(3, .int x2), (0, .ref this), (1, .int a1), (2, .ref a2)]) (fun _ => rfl) (fun x2 => ?_)
  refine so_pick (L' := [(0, .ref this), (1, .int a1), (2, .ref a2), (3, .int x2)]) X [1, 2, 3, 0] rfl ?_
  refine so_loop (body := b_X0_pass_14 this a1 a2) (fun (s14 : Int32) => [(0, .ref this), (1, .int a1), (2, .ref a2), (3, .int s14)]) (fun rec14 hrec14 s14 hh14 => ?_) FU x2 h1
  unfold b_X0_pass_14
  refine so_iload_n (i := 3) X 3 (dkX0_pass (14, .iload_n 3, 1) (pgm 10 rfl)) rfl rfl ?_
  refine so_aload_n (i := 2) X 2 (dkX0_pass (15, .aload_n 2, 1) (pgm 11 rfl)) rfl rfl ?_
  refine sf_getI X ff_8_5 lk_185 hk2 (dkX0_pass (16, .getfield 45, 3) (pgm 12 rfl)) ?_
  refine so_icmp_ge (tgt := 82) X (dkX0_pass (19, .if_icmp .ge 63, 3) (pgm 13 rfl)) rfl (fun _ => ?_) (fun _ => ?_)
  · exact so_vret X hr hlk (dkX0_pass (82, .return_, 1) (pgm 54 rfl))
  · refine so_iload_n (i := 1) X 1 (dkX0_pass (22, .iload_n 1, 1) (pgm 14 rfl)) rfl rfl ?_
    refine so_iload_n (i := 3) X 3 (dkX0_pass (23, .iload_n 3, 1) (pgm 15 rfl)) rfl rfl ?_
    refine so_ishr X (dkX0_pass (24, .ishr, 1) (pgm 16 rfl)) ?_
    refine so_iconst (v := (1 : Int32)) X (dkX0_pass (25, .iconst 1, 1) (pgm 17 rfl)) ic_1 ?_
    refine so_iand X (dkX0_pass (26, .iand, 1) (pgm 18 rfl)) ?_
    refine so_iconst (v := (1 : Int32)) X (dkX0_pass (27, .iconst 1, 1) (pgm 19 rfl)) ic_1 ?_
    refine so_join (jf := fun (h3 : PH) => lt (s14 + Int32.ofInt 1) (fun (x4 : Int32) => rec14 x4 h3)) (fun (j : PH → Option (Unit × PH)) => ∀  (h3 : PH), SWo (QM mkV below args s D cA ad A) p l e (rmd 0) s m args below meth c 0 0 4 D cA ad A 76 [(0, .ref this), (1, .int a1), (2, .ref a2), (3, .int s14)] [] h3 (j h3)) ?_ (fun j76 hj76 => ?_)
    · intro h3
      refine so_iinc (i := 3) X 3 (dkX0_pass (76, .iinc 3 1, 3) (pgm 52 rfl)) rfl rfl (by decide) (Lf := fun x4 => [(3, .int x4), (0, .ref this), (1, .int a1), (2, .ref a2)]) (fun _ => rfl) (fun x4 => ?_)
      refine so_goto (tgt := 14) X (dkX0_pass (79, .goto (-65), 3) (pgm 53 rfl)) rfl ?_
      exact so_pick X [1, 2, 3, 0] rfl (hrec14 x4 h3)
    refine so_icmp_ne (tgt := 54) X (dkX0_pass (28, .if_icmp .ne 26, 3) (pgm 20 rfl)) rfl (fun _ => ?_) (fun _ => ?_)
    · refine so_aload_n (i := 0) X 0 (dkX0_pass (54, .aload_n 0, 1) (pgm 36 rfl)) rfl rfl ?_
      refine sf_getI X ff_0_0 lk_335 hk (dkX0_pass (55, .getfield 23, 3) (pgm 37 rfl)) ?_
      refine so_iload_n (i := 3) X 3 (dkX0_pass (58, .iload_n 3, 1) (pgm 38 rfl)) rfl rfl ?_
      refine so_ishr X (dkX0_pass (59, .ishr, 1) (pgm 39 rfl)) ?_
      refine so_iconst (v := (1 : Int32)) X (dkX0_pass (60, .iconst 1, 1) (pgm 40 rfl)) ic_1 ?_
      refine so_iand X (dkX0_pass (61, .iand, 1) (pgm 41 rfl)) ?_
      refine so_iconst (v := (1 : Int32)) X (dkX0_pass (62, .iconst 1, 1) (pgm 42 rfl)) ic_1 ?_
      refine so_icmp_ne (tgt := 76) X (dkX0_pass (63, .if_icmp .ne 13, 3) (pgm 43 rfl)) rfl (fun _ => ?_) (fun _ => ?_)
      · exact so_pick X [0, 1, 2, 3] rfl (hj76 hh14)
      · refine so_aload_n (i := 0) X 0 (dkX0_pass (66, .aload_n 0, 1) (pgm 44 rfl)) rfl rfl ?_
        refine sf_getR X ff_0_1 lk_339 hk (dkX0_pass (67, .getfield 9, 3) (pgm 45 rfl)) ?_
        refine so_iload_n (i := 3) X 3 (dkX0_pass (70, .iload_n 3, 1) (pgm 46 rfl)) rfl rfl ?_
        refine so_dup2 X (dkX0_pass (71, .dup2, 1) (pgm 47 rfl)) rfl rfl ?_
        refine so_iald X (rk_0_1 this hk) (dkX0_pass (72, .iaload, 1) (pgm 48 rfl)) (fun x5 => ?_)
        refine so_iconst (v := (1 : Int32)) X (dkX0_pass (73, .iconst 1, 1) (pgm 49 rfl)) ic_1 ?_
        refine so_iadd X (dkX0_pass (74, .iadd, 1) (pgm 50 rfl)) ?_
        refine so_iast X (rk_0_1 this hk) (dkX0_pass (75, .iastore, 1) (pgm 51 rfl)) (fun h6 => ?_)
        exact so_pick X [0, 1, 2, 3] rfl (hj76 h6)
    · refine so_aload_n (i := 0) X 0 (dkX0_pass (31, .aload_n 0, 1) (pgm 21 rfl)) rfl rfl ?_
      refine sf_getR X ff_0_2 lk_342 hk (dkX0_pass (32, .getfield 15, 3) (pgm 22 rfl)) ?_
      refine so_aload_n (i := 2) X 2 (dkX0_pass (35, .aload_n 2, 1) (pgm 23 rfl)) rfl rfl ?_
      refine sf_getR X ff_8_12 lk_209 hk2 (dkX0_pass (36, .getfield 50, 3) (pgm 24 rfl)) ?_
      refine so_iload_n (i := 3) X 3 (dkX0_pass (39, .iload_n 3, 1) (pgm 25 rfl)) rfl rfl ?_
      refine so_iald X (rk_8_12 a2 hk2) (dkX0_pass (40, .iaload, 1) (pgm 26 rfl)) (fun x7 => ?_)
      refine so_dup2 X (dkX0_pass (41, .dup2, 1) (pgm 27 rfl)) rfl rfl ?_
      refine so_iald X (rk_0_2 this hk) (dkX0_pass (42, .iaload, 1) (pgm 28 rfl)) (fun x8 => ?_)
      refine so_aload_n (i := 2) X 2 (dkX0_pass (43, .aload_n 2, 1) (pgm 29 rfl)) rfl rfl ?_
      refine sf_getR X ff_8_13 lk_214 hk2 (dkX0_pass (44, .getfield 53, 3) (pgm 30 rfl)) ?_
      refine so_iload_n (i := 3) X 3 (dkX0_pass (47, .iload_n 3, 1) (pgm 31 rfl)) rfl rfl ?_
      refine so_iald X (rk_8_13 a2 hk2) (dkX0_pass (48, .iaload, 1) (pgm 32 rfl)) (fun x9 => ?_)
      refine so_iadd X (dkX0_pass (49, .iadd, 1) (pgm 33 rfl)) ?_
      refine so_iast X (rk_0_2 this hk) (dkX0_pass (50, .iastore, 1) (pgm 34 rfl)) (fun h10 => ?_)
      refine so_goto (tgt := 76) X (dkX0_pass (51, .goto 25, 3) (pgm 35 rfl)) rfl ?_
      exact so_pick X [0, 1, 2, 3] rfl (hj76 h10)
def pgX0_allDues : List (Nat × Instr × Nat) := [(0, .iconst 0, 1), (1, .istore_n 1, 1), (2, .iconst 0, 1), (3, .istore_n 2, 1), (4, .iload_n 2, 1), (5, .bipush 6, 2), (7, .if_icmp .ge 18, 3), (10, .iload_n 1, 1), (11, .aload_n 0, 1), (12, .getfield 15, 3), (15, .iload_n 2, 1), (16, .iaload, 1), (17, .iadd, 1), (18, .istore_n 1, 1), (19, .iinc 2 1, 3), (22, .goto (-18), 3), (25, .iload_n 1, 1), (26, .ireturn, 1)]
theorem dkX0_allDues : ∀ q ∈ pgX0_allDues, decode cX0_allDues q.1 = .ok q.2 := by decide +kernel
def b_X0_allDues_4 (this : Nat) (rec4 : (Int32 × Int32) → PH → Option (Int32 × PH)) (s4 : Int32 × Int32) (hh4 : PH) : Option (Int32 × PH) :=
  if (6 : Int32) ≤ s4.2 then (some (s4.1, hh4)) else (ldI hh4 (rt this 2) 6 s4.2 (fun (x3 : Int32) => lt (s4.1 + x3) (fun (x4 : Int32) => lt (s4.2 + Int32.ofInt 1) (fun (x5 : Int32) => rec4 (x4, x5) hh4))))
def f_X0_allDues (this : Nat) (h0 : PH) : Option (Int32 × PH) :=
  lt (0 : Int32) (fun (x1 : Int32) => lt (0 : Int32) (fun (x2 : Int32) => lp (b_X0_allDues_4 this) FU (x1, x2) h0))
set_option maxRecDepth 100000 in
set_option maxHeartbeats 4000000 in
theorem ct_X0_allDues (l : Launch) (this : Nat) (h0 : PH) (hk : (kd this).1 = 0) : CT mkI l yX0_allDues cX0_allDues 3 (some .int) (rmd 0) [.ref this] h0 (f_X0_allDues this h0) := by
  refine ct_of (by decide) (Nat.le_of_ble_eq_true rfl) ?_
  intro p e s m args below meth c D cA ad A X hr hlk
  have X : Cx p s m args c RX0 cX0_allDues 3 D cA ad A := X
  unfold f_X0_allDues
  refine so_pick (L' := [(0, .ref this)]) X [0] rfl ?_
  refine so_iconst (v := (0 : Int32)) X (dkX0_allDues (0, .iconst 0, 1) (pgm 0 rfl)) ic_0 ?_
  refine so_istore_n (i := 1) X (dkX0_allDues (1, .istore_n 1, 1) (pgm 1 rfl)) rfl (by decide) (Lf := fun x1 => [(1, .int x1), (0, .ref this)]) (fun _ => rfl) (fun x1 => ?_)
  refine so_iconst (v := (0 : Int32)) X (dkX0_allDues (2, .iconst 0, 1) (pgm 2 rfl)) ic_0 ?_
  refine so_istore_n (i := 2) X (dkX0_allDues (3, .istore_n 2, 1) (pgm 3 rfl)) rfl (by decide) (Lf := fun x2 => [(2, .int x2), (1, .int x1), (0, .ref this)]) (fun _ => rfl) (fun x2 => ?_)
  refine so_pick (L' := [(0, .ref this), (1, .int x1), (2, .int x2)]) X [2, 1, 0] rfl ?_
  refine so_loop (body := b_X0_allDues_4 this) (fun (s4 : Int32 × Int32) => [(0, .ref this), (1, .int s4.1), (2, .int s4.2)]) (fun rec4 hrec4 s4 hh4 => ?_) FU (x1, x2) h0
  unfold b_X0_allDues_4
  refine so_iload_n (i := 2) X 2 (dkX0_allDues (4, .iload_n 2, 1) (pgm 4 rfl)) rfl rfl ?_
  refine so_bipush (v := (6 : Int32)) X (dkX0_allDues (5, .bipush 6, 2) (pgm 5 rfl)) bp_6 ?_
  refine so_icmp_ge (tgt := 25) X (dkX0_allDues (7, .if_icmp .ge 18, 3) (pgm 6 rfl)) rfl (fun _ => ?_) (fun _ => ?_)
  · refine so_iload_n (i := 1) X 1 (dkX0_allDues (25, .iload_n 1, 1) (pgm 16 rfl)) rfl rfl ?_
    exact so_iret X hr hlk (dkX0_allDues (26, .ireturn, 1) (pgm 17 rfl))
  · refine so_iload_n (i := 1) X 1 (dkX0_allDues (10, .iload_n 1, 1) (pgm 7 rfl)) rfl rfl ?_
    refine so_aload_n (i := 0) X 0 (dkX0_allDues (11, .aload_n 0, 1) (pgm 8 rfl)) rfl rfl ?_
    refine sf_getR X ff_0_2 lk_342 hk (dkX0_allDues (12, .getfield 15, 3) (pgm 9 rfl)) ?_
    refine so_iload_n (i := 2) X 2 (dkX0_allDues (15, .iload_n 2, 1) (pgm 10 rfl)) rfl rfl ?_
    refine so_iald X (rk_0_2 this hk) (dkX0_allDues (16, .iaload, 1) (pgm 11 rfl)) (fun x3 => ?_)
    refine so_iadd X (dkX0_allDues (17, .iadd, 1) (pgm 12 rfl)) ?_
    refine so_istore_n (i := 1) X (dkX0_allDues (18, .istore_n 1, 1) (pgm 13 rfl)) rfl (by decide) (Lf := fun x4 => [(1, .int x4), (0, .ref this), (2, .int s4.2)]) (fun _ => rfl) (fun x4 => ?_)
    refine so_iinc (i := 2) X 2 (dkX0_allDues (19, .iinc 2 1, 3) (pgm 14 rfl)) rfl rfl (by decide) (Lf := fun x5 => [(2, .int x5), (1, .int x4), (0, .ref this)]) (fun _ => rfl) (fun x5 => ?_)
    refine so_goto (tgt := 4) X (dkX0_allDues (22, .goto (-18), 3) (pgm 15 rfl)) rfl ?_
    exact so_pick X [2, 1, 0] rfl (hrec4 (x4, x5) hh4)
def pgX1_placeOfCell : List (Nat × Instr × Nat) := [(0, .iconst 0, 1), (1, .istore_n 2, 1), (2, .iload_n 2, 1), (3, .aload_n 0, 1), (4, .getfield 44, 3), (7, .if_icmp .ge 21, 3), (10, .aload_n 0, 1), (11, .getfield 13, 3), (14, .iload_n 2, 1), (15, .iaload, 1), (16, .iload_n 1, 1), (17, .if_icmp .ne 5, 3), (20, .iload_n 2, 1), (21, .ireturn, 1), (22, .iinc 2 1, 3), (25, .goto (-23), 3), (28, .aload_n 0, 1), (29, .getfield 13, 3), (32, .aload_n 0, 1), (33, .getfield 44, 3), (36, .iload_n 1, 1), (37, .iastore, 1), (38, .aload_n 0, 1), (39, .dup, 1), (40, .getfield 44, 3), (43, .iconst 1, 1), (44, .iadd, 1), (45, .putfield 44, 3), (48, .aload_n 0, 1), (49, .getfield 44, 3), (52, .iconst 1, 1), (53, .isub, 1), (54, .ireturn, 1)]
theorem dkX1_placeOfCell : ∀ q ∈ pgX1_placeOfCell, decode cX1_placeOfCell q.1 = .ok q.2 := by decide +kernel
def b_X1_placeOfCell_2 (this : Nat) (a1 : Int32) (j28 : PH → Option (Int32 × PH)) (rec2 : (Int32) → PH → Option (Int32 × PH)) (s2 : Int32) (hh2 : PH) : Option (Int32 × PH) :=
  if (hh2.1 this 8) ≤ s2 then (j28 hh2) else (ldI hh2 (rt this 3) 5 s2 (fun (x5 : Int32) => if x5 = a1 then (some (s2, hh2)) else (lt (s2 + Int32.ofInt 1) (fun (x6 : Int32) => rec2 x6 hh2))))
def f_X1_placeOfCell (this : Nat) (a1 : Int32) (h0 : PH) : Option (Int32 × PH) :=
  lt (0 : Int32) (fun (x1 : Int32) => lt (fun (h2 : PH) => stI h2 (rt this 3) 5 (h2.1 this 8) a1 (fun (h3 : PH) => lt (pI h3 this 8 ((h3.1 this 8) + (1 : Int32))) (fun (h4 : PH) => some (((h4.1 this 8) - (1 : Int32)), h4)))) (fun (j28 : PH → Option (Int32 × PH)) => lp (b_X1_placeOfCell_2 this a1 j28) FU x1 h0))
set_option maxRecDepth 100000 in
set_option maxHeartbeats 4000000 in
theorem ct_X1_placeOfCell (l : Launch) (this : Nat) (a1 : Int32) (h0 : PH) (hk : (kd this).1 = 1) : CT mkI l yX1_placeOfCell cX1_placeOfCell 3 (some .int) (rmd 0) [.ref this, .int a1] h0 (f_X1_placeOfCell this a1 h0) := by
  refine ct_of (by decide) (Nat.le_of_ble_eq_true rfl) ?_
  intro p e s m args below meth c D cA ad A X hr hlk
  have X : Cx p s m args c RX1 cX1_placeOfCell 3 D cA ad A := X
  unfold f_X1_placeOfCell
  refine so_pick (L' := [(0, .ref this), (1, .int a1)]) X [0, 1] rfl ?_
  refine so_iconst (v := (0 : Int32)) X (dkX1_placeOfCell (0, .iconst 0, 1) (pgm 0 rfl)) ic_0 ?_
  refine so_istore_n (i := 2) X (dkX1_placeOfCell (1, .istore_n 2, 1) (pgm 1 rfl)) rfl (by decide) (Lf := fun x1 => [(2, .int x1), (0, .ref this), (1, .int a1)]) (fun _ => rfl) (fun x1 => ?_)
  refine so_join (jf := fun (h2 : PH) => stI h2 (rt this 3) 5 (h2.1 this 8) a1 (fun (h3 : PH) => lt (pI h3 this 8 ((h3.1 this 8) + (1 : Int32))) (fun (h4 : PH) => some (((h4.1 this 8) - (1 : Int32)), h4)))) (fun (j : PH → Option (Int32 × PH)) => ∀  (h2 : PH), SWo (QM mkI below args s D cA ad A) p l e (rmd 0) s m args below meth c 0 0 3 D cA ad A 28 [(0, .ref this), (1, .int a1)] [] h2 (j h2)) ?_ (fun j28 hj28 => ?_)
  · intro h2
    refine so_aload_n (i := 0) X 0 (dkX1_placeOfCell (28, .aload_n 0, 1) (pgm 16 rfl)) rfl rfl ?_
    refine sf_getR X ff_1_3 lk_491 hk (dkX1_placeOfCell (29, .getfield 13, 3) (pgm 17 rfl)) ?_
    refine so_aload_n (i := 0) X 0 (dkX1_placeOfCell (32, .aload_n 0, 1) (pgm 18 rfl)) rfl rfl ?_
    refine sf_getI X ff_1_8 lk_496 hk (dkX1_placeOfCell (33, .getfield 44, 3) (pgm 19 rfl)) ?_
    refine so_iload_n (i := 1) X 1 (dkX1_placeOfCell (36, .iload_n 1, 1) (pgm 20 rfl)) rfl rfl ?_
    refine so_iast X (rk_1_3 this hk) (dkX1_placeOfCell (37, .iastore, 1) (pgm 21 rfl)) (fun h3 => ?_)
    refine so_aload_n (i := 0) X 0 (dkX1_placeOfCell (38, .aload_n 0, 1) (pgm 22 rfl)) rfl rfl ?_
    refine so_dup X (dkX1_placeOfCell (39, .dup, 1) (pgm 23 rfl)) rfl ?_
    refine sf_getI X ff_1_8 lk_496 hk (dkX1_placeOfCell (40, .getfield 44, 3) (pgm 24 rfl)) ?_
    refine so_iconst (v := (1 : Int32)) X (dkX1_placeOfCell (43, .iconst 1, 1) (pgm 25 rfl)) ic_1 ?_
    refine so_iadd X (dkX1_placeOfCell (44, .iadd, 1) (pgm 26 rfl)) ?_
    refine sf_putI X ff_1_8 ft_1 rfl lk_496 hk rfl rfl (dkX1_placeOfCell (45, .putfield 44, 3) (pgm 27 rfl)) (fun h4 => ?_)
    refine so_aload_n (i := 0) X 0 (dkX1_placeOfCell (48, .aload_n 0, 1) (pgm 28 rfl)) rfl rfl ?_
    refine sf_getI X ff_1_8 lk_496 hk (dkX1_placeOfCell (49, .getfield 44, 3) (pgm 29 rfl)) ?_
    refine so_iconst (v := (1 : Int32)) X (dkX1_placeOfCell (52, .iconst 1, 1) (pgm 30 rfl)) ic_1 ?_
    refine so_isub X (dkX1_placeOfCell (53, .isub, 1) (pgm 31 rfl)) ?_
    exact so_iret X hr hlk (dkX1_placeOfCell (54, .ireturn, 1) (pgm 32 rfl))
  refine so_pick (L' := [(0, .ref this), (1, .int a1), (2, .int x1)]) X [1, 2, 0] rfl ?_
  refine so_loop (body := b_X1_placeOfCell_2 this a1 j28) (fun (s2 : Int32) => [(0, .ref this), (1, .int a1), (2, .int s2)]) (fun rec2 hrec2 s2 hh2 => ?_) FU x1 h0
  unfold b_X1_placeOfCell_2
  refine so_iload_n (i := 2) X 2 (dkX1_placeOfCell (2, .iload_n 2, 1) (pgm 2 rfl)) rfl rfl ?_
  refine so_aload_n (i := 0) X 0 (dkX1_placeOfCell (3, .aload_n 0, 1) (pgm 3 rfl)) rfl rfl ?_
  refine sf_getI X ff_1_8 lk_496 hk (dkX1_placeOfCell (4, .getfield 44, 3) (pgm 4 rfl)) ?_
  refine so_icmp_ge (tgt := 28) X (dkX1_placeOfCell (7, .if_icmp .ge 21, 3) (pgm 5 rfl)) rfl (fun _ => ?_) (fun _ => ?_)
  · exact so_pick X [0, 1] rfl (hj28 hh2)
  · refine so_aload_n (i := 0) X 0 (dkX1_placeOfCell (10, .aload_n 0, 1) (pgm 6 rfl)) rfl rfl ?_
    refine sf_getR X ff_1_3 lk_491 hk (dkX1_placeOfCell (11, .getfield 13, 3) (pgm 7 rfl)) ?_
    refine so_iload_n (i := 2) X 2 (dkX1_placeOfCell (14, .iload_n 2, 1) (pgm 8 rfl)) rfl rfl ?_
    refine so_iald X (rk_1_3 this hk) (dkX1_placeOfCell (15, .iaload, 1) (pgm 9 rfl)) (fun x5 => ?_)
    refine so_iload_n (i := 1) X 1 (dkX1_placeOfCell (16, .iload_n 1, 1) (pgm 10 rfl)) rfl rfl ?_
    refine so_icmp_ne (tgt := 22) X (dkX1_placeOfCell (17, .if_icmp .ne 5, 3) (pgm 11 rfl)) rfl (fun _ => ?_) (fun _ => ?_)
    · refine so_iinc (i := 2) X 2 (dkX1_placeOfCell (22, .iinc 2 1, 3) (pgm 14 rfl)) rfl rfl (by decide) (Lf := fun x6 => [(2, .int x6), (0, .ref this), (1, .int a1)]) (fun _ => rfl) (fun x6 => ?_)
      refine so_goto (tgt := 2) X (dkX1_placeOfCell (25, .goto (-23), 3) (pgm 15 rfl)) rfl ?_
      exact so_pick X [1, 2, 0] rfl (hrec2 x6 hh2)
    · refine so_iload_n (i := 2) X 2 (dkX1_placeOfCell (20, .iload_n 2, 1) (pgm 12 rfl)) rfl rfl ?_
      exact so_iret X hr hlk (dkX1_placeOfCell (21, .ireturn, 1) (pgm 13 rfl))
def pgX1_joinAt : List (Nat × Instr × Nat) := [(0, .iload_n 1, 1), (1, .iconst 5, 1), (2, .imul, 1), (3, .iload_n 2, 1), (4, .iadd, 1), (5, .istore 4, 2), (7, .iload_n 2, 1), (8, .iconst 1, 1), (9, .iadd, 1), (10, .iconst 5, 1), (11, .imul, 1), (12, .iload_n 3, 1), (13, .iadd, 1), (14, .istore 5, 2), (16, .iload_n 1, 1), (17, .iconst 5, 1), (18, .imul, 1), (19, .iload_n 3, 1), (20, .iadd, 1), (21, .istore 6, 2), (23, .iconst 0, 1), (24, .istore 7, 2), (26, .iload 7, 2), (28, .aload_n 0, 1), (29, .getfield 24, 3), (32, .iload 4, 2), (34, .iaload, 1), (35, .if_icmp .ge 115, 3), (38, .iconst 0, 1), (39, .istore 8, 2), (41, .iload 8, 2), (43, .aload_n 0, 1), (44, .getfield 24, 3), (47, .iload 5, 2), (49, .iaload, 1), (50, .if_icmp .ge 94, 3), (53, .aload_n 0, 1), (54, .getfield 24, 3), (57, .iload 6, 2), (59, .iaload, 1), (60, .bipush 14, 2), (62, .if_icmp .ge 82, 3), (65, .aload_n 0, 1), (66, .getfield 21, 3), (69, .iload 4, 2), (71, .aaload, 1), (72, .iload 7, 2), (74, .iaload, 1), (75, .istore 9, 2), (77, .aload_n 0, 1), (78, .getfield 21, 3), (81, .iload 5, 2), (83, .aaload, 1), (84, .iload 8, 2), (86, .iaload, 1), (87, .istore 10, 2), (89, .aload_n 0, 1), (90, .getfield 21, 3), (93, .iload 6, 2), (95, .aaload, 1), (96, .aload_n 0, 1), (97, .getfield 24, 3), (100, .iload 6, 2), (102, .iaload, 1), (103, .aload_n 0, 1), (104, .getfield 9, 3), (107, .iload_n 2, 1), (108, .iaload, 1), (109, .iconst 1, 1), (110, .if_icmp .ne 11, 3), (113, .iload 9, 2), (115, .iload 10, 2), (117, .ior, 1), (118, .goto 8, 3), (121, .iload 9, 2), (123, .iload 10, 2), (125, .iand, 1), (126, .iastore, 1), (127, .aload_n 0, 1), (128, .getfield 24, 3), (131, .iload 6, 2), (133, .dup2, 1), (134, .iaload, 1), (135, .iconst 1, 1), (136, .iadd, 1), (137, .iastore, 1), (138, .iinc 8 1, 3), (141, .goto (-100), 3), (144, .iinc 7 1, 3), (147, .goto (-121), 3), (150, .return_, 1)]
theorem dkX1_joinAt : ∀ q ∈ pgX1_joinAt, decode cX1_joinAt q.1 = .ok q.2 := by decide +kernel
def b_X1_joinAt_41 (this : Nat) (a2 : Int32) (x1 : Int32) (x2 : Int32) (x3 : Int32) (s26 : Int32) (j144 : PH → Option (Unit × PH)) (rec41 : (Int32) → PH → Option (Unit × PH)) (s41 : Int32) (hh41 : PH) : Option (Unit × PH) :=
  ldI hh41 (rt this 6) 25 x2 (fun (x9 : Int32) => if x9 ≤ s41 then (j144 hh41) else (ldI hh41 (rt this 6) 25 x3 (fun (x10 : Int32) => if (14 : Int32) ≤ x10 then (j144 hh41) else (ldR (rt this 5) 25 x1 (fun (v11 : Nat) => ldI hh41 v11 14 s26 (fun (x12 : Int32) => lt x12 (fun (x13 : Int32) => ldR (rt this 5) 25 x2 (fun (v14 : Nat) => ldI hh41 v14 14 s41 (fun (x15 : Int32) => lt x15 (fun (x16 : Int32) => ldR (rt this 5) 25 x3 (fun (v17 : Nat) => ldI hh41 (rt this 6) 25 x3 (fun (x18 : Int32) => ldI hh41 (rt this 2) 5 a2 (fun (x19 : Int32) => lt (fun (t20 : Int32) (h21 : PH) => stI h21 v17 14 x18 t20 (fun (h22 : PH) => ldI h22 (rt this 6) 25 x3 (fun (x23 : Int32) => stI h22 (rt this 6) 25 x3 (x23 + (1 : Int32)) (fun (h24 : PH) => lt (s41 + Int32.ofInt 1) (fun (x25 : Int32) => rec41 x25 h24))))) (fun (j126 : Int32 → PH → Option (Unit × PH)) => if x19 = (1 : Int32) then (j126 (x13 ||| x16) hh41) else (j126 (x13 &&& x16) hh41)))))))))))))))
def b_X1_joinAt_26 (this : Nat) (a2 : Int32) (x1 : Int32) (x2 : Int32) (x3 : Int32) (rec26 : (Int32) → PH → Option (Unit × PH)) (s26 : Int32) (hh26 : PH) : Option (Unit × PH) :=
  ldI hh26 (rt this 6) 25 x1 (fun (x5 : Int32) => if x5 ≤ s26 then (some ((), hh26)) else (lt (0 : Int32) (fun (x6 : Int32) => lt (fun (h7 : PH) => lt (s26 + Int32.ofInt 1) (fun (x8 : Int32) => rec26 x8 h7)) (fun (j144 : PH → Option (Unit × PH)) => lp (b_X1_joinAt_41 this a2 x1 x2 x3 s26 j144) FU x6 hh26))))
def f_X1_joinAt (this : Nat) (a1 : Int32) (a2 : Int32) (a3 : Int32) (h0 : PH) : Option (Unit × PH) :=
  lt ((a1 * (5 : Int32)) + a2) (fun (x1 : Int32) => lt (((a2 + (1 : Int32)) * (5 : Int32)) + a3) (fun (x2 : Int32) => lt ((a1 * (5 : Int32)) + a3) (fun (x3 : Int32) => lt (0 : Int32) (fun (x4 : Int32) => lp (b_X1_joinAt_26 this a2 x1 x2 x3) FU x4 h0))))
set_option maxRecDepth 100000 in
set_option maxHeartbeats 4000000 in
theorem ct_X1_joinAt (l : Launch) (this : Nat) (a1 : Int32) (a2 : Int32) (a3 : Int32) (h0 : PH) (hk : (kd this).1 = 1) : CT mkV l yX1_joinAt cX1_joinAt 11 none (rmd 0) [.ref this, .int a1, .int a2, .int a3] h0 (f_X1_joinAt this a1 a2 a3 h0) := by
  refine ct_of (by decide) (Nat.le_of_ble_eq_true rfl) ?_
  intro p e s m args below meth c D cA ad A X hr hlk
  have X : Cx p s m args c RX1 cX1_joinAt 11 D cA ad A := X
  unfold f_X1_joinAt
  refine so_pick (L' := [(0, .ref this), (1, .int a1), (2, .int a2), (3, .int a3)]) X [0, 1, 2, 3] rfl ?_
  refine so_iload_n (i := 1) X 1 (dkX1_joinAt (0, .iload_n 1, 1) (pgm 0 rfl)) rfl rfl ?_
  refine so_iconst (v := (5 : Int32)) X (dkX1_joinAt (1, .iconst 5, 1) (pgm 1 rfl)) ic_5 ?_
  refine so_imul X (dkX1_joinAt (2, .imul, 1) (pgm 2 rfl)) ?_
  refine so_iload_n (i := 2) X 2 (dkX1_joinAt (3, .iload_n 2, 1) (pgm 3 rfl)) rfl rfl ?_
  refine so_iadd X (dkX1_joinAt (4, .iadd, 1) (pgm 4 rfl)) ?_
  refine so_istore (i := 4) X (dkX1_joinAt (5, .istore 4, 2) (pgm 5 rfl)) (by decide) (Lf := fun x1 => [(4, .int x1), (0, .ref this), (1, .int a1), (2, .int a2), (3, .int a3)]) (fun _ => rfl) (fun x1 => ?_)
  refine so_iload_n (i := 2) X 3 (dkX1_joinAt (7, .iload_n 2, 1) (pgm 6 rfl)) rfl rfl ?_
  refine so_iconst (v := (1 : Int32)) X (dkX1_joinAt (8, .iconst 1, 1) (pgm 7 rfl)) ic_1 ?_
  refine so_iadd X (dkX1_joinAt (9, .iadd, 1) (pgm 8 rfl)) ?_
  refine so_iconst (v := (5 : Int32)) X (dkX1_joinAt (10, .iconst 5, 1) (pgm 9 rfl)) ic_5 ?_
  refine so_imul X (dkX1_joinAt (11, .imul, 1) (pgm 10 rfl)) ?_
  refine so_iload_n (i := 3) X 4 (dkX1_joinAt (12, .iload_n 3, 1) (pgm 11 rfl)) rfl rfl ?_
  refine so_iadd X (dkX1_joinAt (13, .iadd, 1) (pgm 12 rfl)) ?_
  refine so_istore (i := 5) X (dkX1_joinAt (14, .istore 5, 2) (pgm 13 rfl)) (by decide) (Lf := fun x2 => [(5, .int x2), (4, .int x1), (0, .ref this), (1, .int a1), (2, .int a2), (3, .int a3)]) (fun _ => rfl) (fun x2 => ?_)
  refine so_iload_n (i := 1) X 3 (dkX1_joinAt (16, .iload_n 1, 1) (pgm 14 rfl)) rfl rfl ?_
  refine so_iconst (v := (5 : Int32)) X (dkX1_joinAt (17, .iconst 5, 1) (pgm 15 rfl)) ic_5 ?_
  refine so_imul X (dkX1_joinAt (18, .imul, 1) (pgm 16 rfl)) ?_
  refine so_iload_n (i := 3) X 5 (dkX1_joinAt (19, .iload_n 3, 1) (pgm 17 rfl)) rfl rfl ?_
  refine so_iadd X (dkX1_joinAt (20, .iadd, 1) (pgm 18 rfl)) ?_
  refine so_istore (i := 6) X (dkX1_joinAt (21, .istore 6, 2) (pgm 19 rfl)) (by decide) (Lf := fun x3 => [(6, .int x3), (5, .int x2), (4, .int x1), (0, .ref this), (1, .int a1), (2, .int a2), (3, .int a3)]) (fun _ => rfl) (fun x3 => ?_)
  refine so_iconst (v := (0 : Int32)) X (dkX1_joinAt (23, .iconst 0, 1) (pgm 20 rfl)) ic_0 ?_
  refine so_istore (i := 7) X (dkX1_joinAt (24, .istore 7, 2) (pgm 21 rfl)) (by decide) (Lf := fun x4 => [(7, .int x4), (6, .int x3), (5, .int x2), (4, .int x1), (0, .ref this), (1, .int a1), (2, .int a2), (3, .int a3)]) (fun _ => rfl) (fun x4 => ?_)
  refine so_pick (L' := [(0, .ref this), (2, .int a2), (4, .int x1), (5, .int x2), (6, .int x3), (7, .int x4)]) X [4, 6, 3, 2, 1, 0] rfl ?_
  refine so_loop (body := b_X1_joinAt_26 this a2 x1 x2 x3) (fun (s26 : Int32) => [(0, .ref this), (2, .int a2), (4, .int x1), (5, .int x2), (6, .int x3), (7, .int s26)]) (fun rec26 hrec26 s26 hh26 => ?_) FU x4 h0
  unfold b_X1_joinAt_26
  refine so_iload (i := 7) X 5 (dkX1_joinAt (26, .iload 7, 2) (pgm 22 rfl)) rfl ?_
  refine so_aload_n (i := 0) X 0 (dkX1_joinAt (28, .aload_n 0, 1) (pgm 23 rfl)) rfl rfl ?_
  refine sf_getR X ff_1_6 lk_494 hk (dkX1_joinAt (29, .getfield 24, 3) (pgm 24 rfl)) ?_
  refine so_iload (i := 4) X 2 (dkX1_joinAt (32, .iload 4, 2) (pgm 25 rfl)) rfl ?_
  refine so_iald X (rk_1_6 this hk) (dkX1_joinAt (34, .iaload, 1) (pgm 26 rfl)) (fun x5 => ?_)
  refine so_icmp_ge (tgt := 150) X (dkX1_joinAt (35, .if_icmp .ge 115, 3) (pgm 27 rfl)) rfl (fun _ => ?_) (fun _ => ?_)
  · exact so_vret X hr hlk (dkX1_joinAt (150, .return_, 1) (pgm 90 rfl))
  · refine so_iconst (v := (0 : Int32)) X (dkX1_joinAt (38, .iconst 0, 1) (pgm 28 rfl)) ic_0 ?_
    refine so_istore (i := 8) X (dkX1_joinAt (39, .istore 8, 2) (pgm 29 rfl)) (by decide) (Lf := fun x6 => [(8, .int x6), (0, .ref this), (2, .int a2), (4, .int x1), (5, .int x2), (6, .int x3), (7, .int s26)]) (fun _ => rfl) (fun x6 => ?_)
    refine so_join (jf := fun (h7 : PH) => lt (s26 + Int32.ofInt 1) (fun (x8 : Int32) => rec26 x8 h7)) (fun (j : PH → Option (Unit × PH)) => ∀  (h7 : PH), SWo (QM mkV below args s D cA ad A) p l e (rmd 0) s m args below meth c 0 0 11 D cA ad A 144 [(0, .ref this), (2, .int a2), (4, .int x1), (5, .int x2), (6, .int x3), (7, .int s26)] [] h7 (j h7)) ?_ (fun j144 hj144 => ?_)
    · intro h7
      refine so_iinc (i := 7) X 5 (dkX1_joinAt (144, .iinc 7 1, 3) (pgm 88 rfl)) rfl rfl (by decide) (Lf := fun x8 => [(7, .int x8), (0, .ref this), (2, .int a2), (4, .int x1), (5, .int x2), (6, .int x3)]) (fun _ => rfl) (fun x8 => ?_)
      refine so_goto (tgt := 26) X (dkX1_joinAt (147, .goto (-121), 3) (pgm 89 rfl)) rfl ?_
      exact so_pick X [1, 2, 3, 4, 5, 0] rfl (hrec26 x8 h7)
    refine so_pick (L' := [(0, .ref this), (2, .int a2), (4, .int x1), (5, .int x2), (6, .int x3), (7, .int s26), (8, .int x6)]) X [1, 2, 3, 4, 5, 6, 0] rfl ?_
    refine so_loop (body := b_X1_joinAt_41 this a2 x1 x2 x3 s26 j144) (fun (s41 : Int32) => [(0, .ref this), (2, .int a2), (4, .int x1), (5, .int x2), (6, .int x3), (7, .int s26), (8, .int s41)]) (fun rec41 hrec41 s41 hh41 => ?_) FU x6 hh26
    unfold b_X1_joinAt_41
    refine so_iload (i := 8) X 6 (dkX1_joinAt (41, .iload 8, 2) (pgm 30 rfl)) rfl ?_
    refine so_aload_n (i := 0) X 0 (dkX1_joinAt (43, .aload_n 0, 1) (pgm 31 rfl)) rfl rfl ?_
    refine sf_getR X ff_1_6 lk_494 hk (dkX1_joinAt (44, .getfield 24, 3) (pgm 32 rfl)) ?_
    refine so_iload (i := 5) X 3 (dkX1_joinAt (47, .iload 5, 2) (pgm 33 rfl)) rfl ?_
    refine so_iald X (rk_1_6 this hk) (dkX1_joinAt (49, .iaload, 1) (pgm 34 rfl)) (fun x9 => ?_)
    refine so_icmp_ge (tgt := 144) X (dkX1_joinAt (50, .if_icmp .ge 94, 3) (pgm 35 rfl)) rfl (fun _ => ?_) (fun _ => ?_)
    · exact so_pick X [0, 1, 2, 3, 4, 5] rfl (hj144 hh41)
    · refine so_aload_n (i := 0) X 0 (dkX1_joinAt (53, .aload_n 0, 1) (pgm 36 rfl)) rfl rfl ?_
      refine sf_getR X ff_1_6 lk_494 hk (dkX1_joinAt (54, .getfield 24, 3) (pgm 37 rfl)) ?_
      refine so_iload (i := 6) X 4 (dkX1_joinAt (57, .iload 6, 2) (pgm 38 rfl)) rfl ?_
      refine so_iald X (rk_1_6 this hk) (dkX1_joinAt (59, .iaload, 1) (pgm 39 rfl)) (fun x10 => ?_)
      refine so_bipush (v := (14 : Int32)) X (dkX1_joinAt (60, .bipush 14, 2) (pgm 40 rfl)) bp_14 ?_
      refine so_icmp_ge (tgt := 144) X (dkX1_joinAt (62, .if_icmp .ge 82, 3) (pgm 41 rfl)) rfl (fun _ => ?_) (fun _ => ?_)
      · exact so_pick X [0, 1, 2, 3, 4, 5] rfl (hj144 hh41)
      · refine so_aload_n (i := 0) X 0 (dkX1_joinAt (65, .aload_n 0, 1) (pgm 42 rfl)) rfl rfl ?_
        refine sf_getR X ff_1_5 lk_493 hk (dkX1_joinAt (66, .getfield 21, 3) (pgm 43 rfl)) ?_
        refine so_iload (i := 4) X 2 (dkX1_joinAt (69, .iload 4, 2) (pgm 44 rfl)) rfl ?_
        refine so_aaldK X (rk_1_5 this hk) (by decide) (by decide) 4 (fun _ => rfl) rfl (re_1_5 this hk) (dkX1_joinAt (71, .aaload, 1) (pgm 45 rfl)) (fun v11 hv11 => ?_)
        refine so_iload (i := 7) X 5 (dkX1_joinAt (72, .iload 7, 2) (pgm 46 rfl)) rfl ?_
        refine so_iald X hv11 (dkX1_joinAt (74, .iaload, 1) (pgm 47 rfl)) (fun x12 => ?_)
        refine so_istore (i := 9) X (dkX1_joinAt (75, .istore 9, 2) (pgm 48 rfl)) (by decide) (Lf := fun x13 => [(9, .int x13), (0, .ref this), (2, .int a2), (4, .int x1), (5, .int x2), (6, .int x3), (7, .int s26), (8, .int s41)]) (fun _ => rfl) (fun x13 => ?_)
        refine so_aload_n (i := 0) X 1 (dkX1_joinAt (77, .aload_n 0, 1) (pgm 49 rfl)) rfl rfl ?_
        refine sf_getR X ff_1_5 lk_493 hk (dkX1_joinAt (78, .getfield 21, 3) (pgm 50 rfl)) ?_
        refine so_iload (i := 5) X 4 (dkX1_joinAt (81, .iload 5, 2) (pgm 51 rfl)) rfl ?_
        refine so_aaldK X (rk_1_5 this hk) (by decide) (by decide) 4 (fun _ => rfl) rfl (re_1_5 this hk) (dkX1_joinAt (83, .aaload, 1) (pgm 52 rfl)) (fun v14 hv14 => ?_)
        refine so_iload (i := 8) X 7 (dkX1_joinAt (84, .iload 8, 2) (pgm 53 rfl)) rfl ?_
        refine so_iald X hv14 (dkX1_joinAt (86, .iaload, 1) (pgm 54 rfl)) (fun x15 => ?_)
        refine so_istore (i := 10) X (dkX1_joinAt (87, .istore 10, 2) (pgm 55 rfl)) (by decide) (Lf := fun x16 => [(10, .int x16), (9, .int x13), (0, .ref this), (2, .int a2), (4, .int x1), (5, .int x2), (6, .int x3), (7, .int s26), (8, .int s41)]) (fun _ => rfl) (fun x16 => ?_)
        refine so_aload_n (i := 0) X 2 (dkX1_joinAt (89, .aload_n 0, 1) (pgm 56 rfl)) rfl rfl ?_
        refine sf_getR X ff_1_5 lk_493 hk (dkX1_joinAt (90, .getfield 21, 3) (pgm 57 rfl)) ?_
        refine so_iload (i := 6) X 6 (dkX1_joinAt (93, .iload 6, 2) (pgm 58 rfl)) rfl ?_
        refine so_aaldK X (rk_1_5 this hk) (by decide) (by decide) 4 (fun _ => rfl) rfl (re_1_5 this hk) (dkX1_joinAt (95, .aaload, 1) (pgm 59 rfl)) (fun v17 hv17 => ?_)
        refine so_aload_n (i := 0) X 2 (dkX1_joinAt (96, .aload_n 0, 1) (pgm 60 rfl)) rfl rfl ?_
        refine sf_getR X ff_1_6 lk_494 hk (dkX1_joinAt (97, .getfield 24, 3) (pgm 61 rfl)) ?_
        refine so_iload (i := 6) X 6 (dkX1_joinAt (100, .iload 6, 2) (pgm 62 rfl)) rfl ?_
        refine so_iald X (rk_1_6 this hk) (dkX1_joinAt (102, .iaload, 1) (pgm 63 rfl)) (fun x18 => ?_)
        refine so_aload_n (i := 0) X 2 (dkX1_joinAt (103, .aload_n 0, 1) (pgm 64 rfl)) rfl rfl ?_
        refine sf_getR X ff_1_2 lk_490 hk (dkX1_joinAt (104, .getfield 9, 3) (pgm 65 rfl)) ?_
        refine so_iload_n (i := 2) X 3 (dkX1_joinAt (107, .iload_n 2, 1) (pgm 66 rfl)) rfl rfl ?_
        refine so_iald X (rk_1_2 this hk) (dkX1_joinAt (108, .iaload, 1) (pgm 67 rfl)) (fun x19 => ?_)
        refine so_iconst (v := (1 : Int32)) X (dkX1_joinAt (109, .iconst 1, 1) (pgm 68 rfl)) ic_1 ?_
        refine so_join (jf := fun (t20 : Int32) (h21 : PH) => stI h21 v17 14 x18 t20 (fun (h22 : PH) => ldI h22 (rt this 6) 25 x3 (fun (x23 : Int32) => stI h22 (rt this 6) 25 x3 (x23 + (1 : Int32)) (fun (h24 : PH) => lt (s41 + Int32.ofInt 1) (fun (x25 : Int32) => rec41 x25 h24))))) (fun (j : Int32 → PH → Option (Unit × PH)) => ∀ (t20 : Int32) (h21 : PH), SWo (QM mkV below args s D cA ad A) p l e (rmd 0) s m args below meth c 0 0 11 D cA ad A 126 [(0, .ref this), (2, .int a2), (4, .int x1), (5, .int x2), (6, .int x3), (7, .int s26), (8, .int s41)] [.int t20, .int x18, .ref v17] h21 (j t20 h21)) ?_ (fun j126 hj126 => ?_)
        · intro t20 h21
          refine so_iast X hv17 (dkX1_joinAt (126, .iastore, 1) (pgm 77 rfl)) (fun h22 => ?_)
          refine so_aload_n (i := 0) X 0 (dkX1_joinAt (127, .aload_n 0, 1) (pgm 78 rfl)) rfl rfl ?_
          refine sf_getR X ff_1_6 lk_494 hk (dkX1_joinAt (128, .getfield 24, 3) (pgm 79 rfl)) ?_
          refine so_iload (i := 6) X 4 (dkX1_joinAt (131, .iload 6, 2) (pgm 80 rfl)) rfl ?_
          refine so_dup2 X (dkX1_joinAt (133, .dup2, 1) (pgm 81 rfl)) rfl rfl ?_
          refine so_iald X (rk_1_6 this hk) (dkX1_joinAt (134, .iaload, 1) (pgm 82 rfl)) (fun x23 => ?_)
          refine so_iconst (v := (1 : Int32)) X (dkX1_joinAt (135, .iconst 1, 1) (pgm 83 rfl)) ic_1 ?_
          refine so_iadd X (dkX1_joinAt (136, .iadd, 1) (pgm 84 rfl)) ?_
          refine so_iast X (rk_1_6 this hk) (dkX1_joinAt (137, .iastore, 1) (pgm 85 rfl)) (fun h24 => ?_)
          refine so_iinc (i := 8) X 6 (dkX1_joinAt (138, .iinc 8 1, 3) (pgm 86 rfl)) rfl rfl (by decide) (Lf := fun x25 => [(8, .int x25), (0, .ref this), (2, .int a2), (4, .int x1), (5, .int x2), (6, .int x3), (7, .int s26)]) (fun _ => rfl) (fun x25 => ?_)
          refine so_goto (tgt := 41) X (dkX1_joinAt (141, .goto (-100), 3) (pgm 87 rfl)) rfl ?_
          exact so_pick X [1, 2, 3, 4, 5, 6, 0] rfl (hrec41 x25 h24)
        refine so_icmp_ne (tgt := 121) X (dkX1_joinAt (110, .if_icmp .ne 11, 3) (pgm 69 rfl)) rfl (fun _ => ?_) (fun _ => ?_)
        · refine so_iload (i := 9) X 1 (dkX1_joinAt (121, .iload 9, 2) (pgm 74 rfl)) rfl ?_
          refine so_iload (i := 10) X 0 (dkX1_joinAt (123, .iload 10, 2) (pgm 75 rfl)) rfl ?_
          refine so_iand X (dkX1_joinAt (125, .iand, 1) (pgm 76 rfl)) ?_
          exact so_pick X [2, 3, 4, 5, 6, 7, 8] rfl (hj126 (x13 &&& x16) hh41)
        · refine so_iload (i := 9) X 1 (dkX1_joinAt (113, .iload 9, 2) (pgm 70 rfl)) rfl ?_
          refine so_iload (i := 10) X 0 (dkX1_joinAt (115, .iload 10, 2) (pgm 71 rfl)) rfl ?_
          refine so_ior X (dkX1_joinAt (117, .ior, 1) (pgm 72 rfl)) ?_
          refine so_goto (tgt := 126) X (dkX1_joinAt (118, .goto 8, 3) (pgm 73 rfl)) rfl ?_
          exact so_pick X [2, 3, 4, 5, 6, 7, 8] rfl (hj126 (x13 ||| x16) hh41)
def pgX1_all : List (Nat × Instr × Nat) := [(0, .aload_n 0, 1), (1, .getfield 24, 3), (4, .aload_n 0, 1), (5, .getfield 41, 3), (8, .iconst 1, 1), (9, .isub, 1), (10, .iaload, 1), (11, .ireturn, 1)]
theorem dkX1_all : ∀ q ∈ pgX1_all, decode cX1_all q.1 = .ok q.2 := by decide +kernel
def f_X1_all (this : Nat) (h0 : PH) : Option (Int32 × PH) :=
  ldI h0 (rt this 6) 25 ((h0.1 this 7) - (1 : Int32)) (fun (x1 : Int32) => some (x1, h0))
set_option maxRecDepth 100000 in
set_option maxHeartbeats 4000000 in
theorem ct_X1_all (l : Launch) (this : Nat) (h0 : PH) (hk : (kd this).1 = 1) : CT mkI l yX1_all cX1_all 1 (some .int) (rmd 0) [.ref this] h0 (f_X1_all this h0) := by
  refine ct_of (by decide) (Nat.le_of_ble_eq_true rfl) ?_
  intro p e s m args below meth c D cA ad A X hr hlk
  have X : Cx p s m args c RX1 cX1_all 1 D cA ad A := X
  unfold f_X1_all
  refine so_pick (L' := [(0, .ref this)]) X [0] rfl ?_
  refine so_aload_n (i := 0) X 0 (dkX1_all (0, .aload_n 0, 1) (pgm 0 rfl)) rfl rfl ?_
  refine sf_getR X ff_1_6 lk_494 hk (dkX1_all (1, .getfield 24, 3) (pgm 1 rfl)) ?_
  refine so_aload_n (i := 0) X 0 (dkX1_all (4, .aload_n 0, 1) (pgm 2 rfl)) rfl rfl ?_
  refine sf_getI X ff_1_7 lk_495 hk (dkX1_all (5, .getfield 41, 3) (pgm 3 rfl)) ?_
  refine so_iconst (v := (1 : Int32)) X (dkX1_all (8, .iconst 1, 1) (pgm 4 rfl)) ic_1 ?_
  refine so_isub X (dkX1_all (9, .isub, 1) (pgm 5 rfl)) ?_
  refine so_iald X (rk_1_6 this hk) (dkX1_all (10, .iaload, 1) (pgm 6 rfl)) (fun x1 => ?_)
  exact so_iret X hr hlk (dkX1_all (11, .ireturn, 1) (pgm 7 rfl))
def pgX1_isNew : List (Nat × Instr × Nat) := [(0, .aload_n 0, 1), (1, .getfield 21, 3), (4, .aload_n 0, 1), (5, .getfield 41, 3), (8, .iconst 1, 1), (9, .isub, 1), (10, .aaload, 1), (11, .astore_n 2, 1), (12, .iconst 0, 1), (13, .istore_n 3, 1), (14, .iload_n 3, 1), (15, .iload_n 1, 1), (16, .if_icmp .ge 20, 3), (19, .aload_n 2, 1), (20, .iload_n 3, 1), (21, .iaload, 1), (22, .aload_n 2, 1), (23, .iload_n 1, 1), (24, .iaload, 1), (25, .if_icmp .ne 5, 3), (28, .iconst 0, 1), (29, .ireturn, 1), (30, .iinc 3 1, 3), (33, .goto (-19), 3), (36, .iconst 1, 1), (37, .ireturn, 1)]
theorem dkX1_isNew : ∀ q ∈ pgX1_isNew, decode cX1_isNew q.1 = .ok q.2 := by decide +kernel
def b_X1_isNew_14 (a1 : Int32) (v1 : Nat) (rec14 : (Int32) → PH → Option (Int32 × PH)) (s14 : Int32) (hh14 : PH) : Option (Int32 × PH) :=
  if a1 ≤ s14 then (zr (1 : Int32) hh14) else (ldI hh14 v1 14 s14 (fun (x3 : Int32) => ldI hh14 v1 14 a1 (fun (x4 : Int32) => if x3 = x4 then (zr (0 : Int32) hh14) else (lt (s14 + Int32.ofInt 1) (fun (x5 : Int32) => rec14 x5 hh14)))))
def f_X1_isNew (this : Nat) (a1 : Int32) (h0 : PH) : Option (Int32 × PH) :=
  ldR (rt this 5) 25 ((h0.1 this 7) - (1 : Int32)) (fun (v1 : Nat) => lt (0 : Int32) (fun (x2 : Int32) => lp (b_X1_isNew_14 a1 v1) FU x2 h0))
set_option maxRecDepth 100000 in
set_option maxHeartbeats 4000000 in
theorem ct_X1_isNew (l : Launch) (this : Nat) (a1 : Int32) (h0 : PH) (hk : (kd this).1 = 1) : CT mkI l yX1_isNew cX1_isNew 4 (some .boolean) (rmd 0) [.ref this, .int a1] h0 (f_X1_isNew this a1 h0) := by
  refine ct_of (by decide) (Nat.le_of_ble_eq_true rfl) ?_
  intro p e s m args below meth c D cA ad A X hr hlk
  have X : Cx p s m args c RX1 cX1_isNew 4 D cA ad A := X
  unfold f_X1_isNew
  refine so_pick (L' := [(0, .ref this), (1, .int a1)]) X [0, 1] rfl ?_
  refine so_aload_n (i := 0) X 0 (dkX1_isNew (0, .aload_n 0, 1) (pgm 0 rfl)) rfl rfl ?_
  refine sf_getR X ff_1_5 lk_493 hk (dkX1_isNew (1, .getfield 21, 3) (pgm 1 rfl)) ?_
  refine so_aload_n (i := 0) X 0 (dkX1_isNew (4, .aload_n 0, 1) (pgm 2 rfl)) rfl rfl ?_
  refine sf_getI X ff_1_7 lk_495 hk (dkX1_isNew (5, .getfield 41, 3) (pgm 3 rfl)) ?_
  refine so_iconst (v := (1 : Int32)) X (dkX1_isNew (8, .iconst 1, 1) (pgm 4 rfl)) ic_1 ?_
  refine so_isub X (dkX1_isNew (9, .isub, 1) (pgm 5 rfl)) ?_
  refine so_aaldK X (rk_1_5 this hk) (by decide) (by decide) 4 (fun _ => rfl) rfl (re_1_5 this hk) (dkX1_isNew (10, .aaload, 1) (pgm 6 rfl)) (fun v1 hv1 => ?_)
  refine so_astore_n0 (i := 2) (L' := [(2, .ref v1), (0, .ref this), (1, .int a1)]) X (dkX1_isNew (11, .astore_n 2, 1) (pgm 7 rfl)) rfl (by decide) rfl ?_
  refine so_iconst (v := (0 : Int32)) X (dkX1_isNew (12, .iconst 0, 1) (pgm 8 rfl)) ic_0 ?_
  refine so_istore_n (i := 3) X (dkX1_isNew (13, .istore_n 3, 1) (pgm 9 rfl)) rfl (by decide) (Lf := fun x2 => [(3, .int x2), (2, .ref v1), (0, .ref this), (1, .int a1)]) (fun _ => rfl) (fun x2 => ?_)
  refine so_pick (L' := [(1, .int a1), (2, .ref v1), (3, .int x2)]) X [3, 1, 0] rfl ?_
  refine so_loop (body := b_X1_isNew_14 a1 v1) (fun (s14 : Int32) => [(1, .int a1), (2, .ref v1), (3, .int s14)]) (fun rec14 hrec14 s14 hh14 => ?_) FU x2 h0
  unfold b_X1_isNew_14
  refine so_iload_n (i := 3) X 2 (dkX1_isNew (14, .iload_n 3, 1) (pgm 10 rfl)) rfl rfl ?_
  refine so_iload_n (i := 1) X 0 (dkX1_isNew (15, .iload_n 1, 1) (pgm 11 rfl)) rfl rfl ?_
  refine so_icmp_ge (tgt := 36) X (dkX1_isNew (16, .if_icmp .ge 20, 3) (pgm 12 rfl)) rfl (fun _ => ?_) (fun _ => ?_)
  · refine so_iconst (v := (1 : Int32)) X (dkX1_isNew (36, .iconst 1, 1) (pgm 24 rfl)) ic_1 ?_
    exact so_zret X hr hlk (dkX1_isNew (37, .ireturn, 1) (pgm 25 rfl))
  · refine so_aload_n (i := 2) X 1 (dkX1_isNew (19, .aload_n 2, 1) (pgm 13 rfl)) rfl rfl ?_
    refine so_iload_n (i := 3) X 2 (dkX1_isNew (20, .iload_n 3, 1) (pgm 14 rfl)) rfl rfl ?_
    refine so_iald X hv1 (dkX1_isNew (21, .iaload, 1) (pgm 15 rfl)) (fun x3 => ?_)
    refine so_aload_n (i := 2) X 1 (dkX1_isNew (22, .aload_n 2, 1) (pgm 16 rfl)) rfl rfl ?_
    refine so_iload_n (i := 1) X 0 (dkX1_isNew (23, .iload_n 1, 1) (pgm 17 rfl)) rfl rfl ?_
    refine so_iald X hv1 (dkX1_isNew (24, .iaload, 1) (pgm 18 rfl)) (fun x4 => ?_)
    refine so_icmp_ne (tgt := 30) X (dkX1_isNew (25, .if_icmp .ne 5, 3) (pgm 19 rfl)) rfl (fun _ => ?_) (fun _ => ?_)
    · refine so_iinc (i := 3) X 2 (dkX1_isNew (30, .iinc 3 1, 3) (pgm 22 rfl)) rfl rfl (by decide) (Lf := fun x5 => [(3, .int x5), (1, .int a1), (2, .ref v1)]) (fun _ => rfl) (fun x5 => ?_)
      refine so_goto (tgt := 14) X (dkX1_isNew (33, .goto (-19), 3) (pgm 23 rfl)) rfl ?_
      exact so_pick X [1, 2, 0] rfl (hrec14 x5 hh14)
    · refine so_iconst (v := (0 : Int32)) X (dkX1_isNew (28, .iconst 0, 1) (pgm 20 rfl)) ic_0 ?_
      exact so_zret X hr hlk (dkX1_isNew (29, .ireturn, 1) (pgm 21 rfl))
def pgX1_plansOf : List (Nat × Instr × Nat) := [(0, .aload_n 0, 1), (1, .getfield 21, 3), (4, .aload_n 0, 1), (5, .getfield 41, 3), (8, .iconst 1, 1), (9, .isub, 1), (10, .aaload, 1), (11, .iload_n 1, 1), (12, .iaload, 1), (13, .istore_n 2, 1), (14, .iconst 0, 1), (15, .istore_n 3, 1), (16, .iconst 0, 1), (17, .istore 4, 2), (19, .iload 4, 2), (21, .bipush 32, 2), (23, .if_icmp .ge 26, 3), (26, .iload_n 3, 1), (27, .iload_n 2, 1), (28, .iload 4, 2), (30, .ishr, 1), (31, .iconst 1, 1), (32, .iand, 1), (33, .aload_n 0, 1), (34, .getfield 16, 3), (37, .iload 4, 2), (39, .iaload, 1), (40, .imul, 1), (41, .iadd, 1), (42, .istore_n 3, 1), (43, .iinc 4 1, 3), (46, .goto (-27), 3), (49, .iload_n 3, 1), (50, .ireturn, 1)]
theorem dkX1_plansOf : ∀ q ∈ pgX1_plansOf, decode cX1_plansOf q.1 = .ok q.2 := by decide +kernel
def b_X1_plansOf_19 (this : Nat) (x3 : Int32) (rec19 : (Int32 × Int32) → PH → Option (Int32 × PH)) (s19 : Int32 × Int32) (hh19 : PH) : Option (Int32 × PH) :=
  if (32 : Int32) ≤ s19.2 then (some (s19.1, hh19)) else (ldI hh19 (rt this 4) 32 s19.2 (fun (x6 : Int32) => lt (s19.1 + (((x3 >>> (s19.2 &&& 31)) &&& (1 : Int32)) * x6)) (fun (x7 : Int32) => lt (s19.2 + Int32.ofInt 1) (fun (x8 : Int32) => rec19 (x7, x8) hh19))))
def f_X1_plansOf (this : Nat) (a1 : Int32) (h0 : PH) : Option (Int32 × PH) :=
  ldR (rt this 5) 25 ((h0.1 this 7) - (1 : Int32)) (fun (v1 : Nat) => ldI h0 v1 14 a1 (fun (x2 : Int32) => lt x2 (fun (x3 : Int32) => lt (0 : Int32) (fun (x4 : Int32) => lt (0 : Int32) (fun (x5 : Int32) => lp (b_X1_plansOf_19 this x3) FU (x4, x5) h0)))))
set_option maxRecDepth 100000 in
set_option maxHeartbeats 4000000 in
theorem ct_X1_plansOf (l : Launch) (this : Nat) (a1 : Int32) (h0 : PH) (hk : (kd this).1 = 1) : CT mkI l yX1_plansOf cX1_plansOf 5 (some .int) (rmd 0) [.ref this, .int a1] h0 (f_X1_plansOf this a1 h0) := by
  refine ct_of (by decide) (Nat.le_of_ble_eq_true rfl) ?_
  intro p e s m args below meth c D cA ad A X hr hlk
  have X : Cx p s m args c RX1 cX1_plansOf 5 D cA ad A := X
  unfold f_X1_plansOf
  refine so_pick (L' := [(0, .ref this), (1, .int a1)]) X [0, 1] rfl ?_
  refine so_aload_n (i := 0) X 0 (dkX1_plansOf (0, .aload_n 0, 1) (pgm 0 rfl)) rfl rfl ?_
  refine sf_getR X ff_1_5 lk_493 hk (dkX1_plansOf (1, .getfield 21, 3) (pgm 1 rfl)) ?_
  refine so_aload_n (i := 0) X 0 (dkX1_plansOf (4, .aload_n 0, 1) (pgm 2 rfl)) rfl rfl ?_
  refine sf_getI X ff_1_7 lk_495 hk (dkX1_plansOf (5, .getfield 41, 3) (pgm 3 rfl)) ?_
  refine so_iconst (v := (1 : Int32)) X (dkX1_plansOf (8, .iconst 1, 1) (pgm 4 rfl)) ic_1 ?_
  refine so_isub X (dkX1_plansOf (9, .isub, 1) (pgm 5 rfl)) ?_
  refine so_aaldK X (rk_1_5 this hk) (by decide) (by decide) 4 (fun _ => rfl) rfl (re_1_5 this hk) (dkX1_plansOf (10, .aaload, 1) (pgm 6 rfl)) (fun v1 hv1 => ?_)
  refine so_iload_n (i := 1) X 1 (dkX1_plansOf (11, .iload_n 1, 1) (pgm 7 rfl)) rfl rfl ?_
  refine so_iald X hv1 (dkX1_plansOf (12, .iaload, 1) (pgm 8 rfl)) (fun x2 => ?_)
  refine so_istore_n (i := 2) X (dkX1_plansOf (13, .istore_n 2, 1) (pgm 9 rfl)) rfl (by decide) (Lf := fun x3 => [(2, .int x3), (0, .ref this), (1, .int a1)]) (fun _ => rfl) (fun x3 => ?_)
  refine so_iconst (v := (0 : Int32)) X (dkX1_plansOf (14, .iconst 0, 1) (pgm 10 rfl)) ic_0 ?_
  refine so_istore_n (i := 3) X (dkX1_plansOf (15, .istore_n 3, 1) (pgm 11 rfl)) rfl (by decide) (Lf := fun x4 => [(3, .int x4), (2, .int x3), (0, .ref this), (1, .int a1)]) (fun _ => rfl) (fun x4 => ?_)
  refine so_iconst (v := (0 : Int32)) X (dkX1_plansOf (16, .iconst 0, 1) (pgm 12 rfl)) ic_0 ?_
  refine so_istore (i := 4) X (dkX1_plansOf (17, .istore 4, 2) (pgm 13 rfl)) (by decide) (Lf := fun x5 => [(4, .int x5), (3, .int x4), (2, .int x3), (0, .ref this), (1, .int a1)]) (fun _ => rfl) (fun x5 => ?_)
  refine so_pick (L' := [(0, .ref this), (2, .int x3), (3, .int x4), (4, .int x5)]) X [3, 2, 1, 0] rfl ?_
  refine so_loop (body := b_X1_plansOf_19 this x3) (fun (s19 : Int32 × Int32) => [(0, .ref this), (2, .int x3), (3, .int s19.1), (4, .int s19.2)]) (fun rec19 hrec19 s19 hh19 => ?_) FU (x4, x5) h0
  unfold b_X1_plansOf_19
  refine so_iload (i := 4) X 3 (dkX1_plansOf (19, .iload 4, 2) (pgm 14 rfl)) rfl ?_
  refine so_bipush (v := (32 : Int32)) X (dkX1_plansOf (21, .bipush 32, 2) (pgm 15 rfl)) bp_32 ?_
  refine so_icmp_ge (tgt := 49) X (dkX1_plansOf (23, .if_icmp .ge 26, 3) (pgm 16 rfl)) rfl (fun _ => ?_) (fun _ => ?_)
  · refine so_iload_n (i := 3) X 2 (dkX1_plansOf (49, .iload_n 3, 1) (pgm 32 rfl)) rfl rfl ?_
    exact so_iret X hr hlk (dkX1_plansOf (50, .ireturn, 1) (pgm 33 rfl))
  · refine so_iload_n (i := 3) X 2 (dkX1_plansOf (26, .iload_n 3, 1) (pgm 17 rfl)) rfl rfl ?_
    refine so_iload_n (i := 2) X 1 (dkX1_plansOf (27, .iload_n 2, 1) (pgm 18 rfl)) rfl rfl ?_
    refine so_iload (i := 4) X 3 (dkX1_plansOf (28, .iload 4, 2) (pgm 19 rfl)) rfl ?_
    refine so_ishr X (dkX1_plansOf (30, .ishr, 1) (pgm 20 rfl)) ?_
    refine so_iconst (v := (1 : Int32)) X (dkX1_plansOf (31, .iconst 1, 1) (pgm 21 rfl)) ic_1 ?_
    refine so_iand X (dkX1_plansOf (32, .iand, 1) (pgm 22 rfl)) ?_
    refine so_aload_n (i := 0) X 0 (dkX1_plansOf (33, .aload_n 0, 1) (pgm 23 rfl)) rfl rfl ?_
    refine sf_getR X ff_1_4 lk_492 hk (dkX1_plansOf (34, .getfield 16, 3) (pgm 24 rfl)) ?_
    refine so_iload (i := 4) X 3 (dkX1_plansOf (37, .iload 4, 2) (pgm 25 rfl)) rfl ?_
    refine so_iald X (rk_1_4 this hk) (dkX1_plansOf (39, .iaload, 1) (pgm 26 rfl)) (fun x6 => ?_)
    refine so_imul X (dkX1_plansOf (40, .imul, 1) (pgm 27 rfl)) ?_
    refine so_iadd X (dkX1_plansOf (41, .iadd, 1) (pgm 28 rfl)) ?_
    refine so_istore_n (i := 3) X (dkX1_plansOf (42, .istore_n 3, 1) (pgm 29 rfl)) rfl (by decide) (Lf := fun x7 => [(3, .int x7), (0, .ref this), (2, .int x3), (4, .int s19.2)]) (fun _ => rfl) (fun x7 => ?_)
    refine so_iinc (i := 4) X 3 (dkX1_plansOf (43, .iinc 4 1, 3) (pgm 30 rfl)) rfl rfl (by decide) (Lf := fun x8 => [(4, .int x8), (3, .int x7), (0, .ref this), (2, .int x3)]) (fun _ => rfl) (fun x8 => ?_)
    refine so_goto (tgt := 19) X (dkX1_plansOf (46, .goto (-27), 3) (pgm 31 rfl)) rfl ?_
    exact so_pick X [2, 3, 1, 0] rfl (hrec19 (x7, x8) hh19)
def pgX2_forget : List (Nat × Instr × Nat) := [(0, .aload_n 0, 1), (1, .iconst 0, 1), (2, .putfield 33, 3), (5, .return_, 1)]
theorem dkX2_forget : ∀ q ∈ pgX2_forget, decode cX2_forget q.1 = .ok q.2 := by decide +kernel
def f_X2_forget (this : Nat) (h0 : PH) : Option (Unit × PH) :=
  lt (pI h0 this 8 (0 : Int32)) (fun (h1 : PH) => some ((), h1))
set_option maxRecDepth 100000 in
set_option maxHeartbeats 4000000 in
theorem ct_X2_forget (l : Launch) (this : Nat) (h0 : PH) (hk : (kd this).1 = 2) : CT mkV l yX2_forget cX2_forget 1 none (rmd 0) [.ref this] h0 (f_X2_forget this h0) := by
  refine ct_of (by decide) (Nat.le_of_ble_eq_true rfl) ?_
  intro p e s m args below meth c D cA ad A X hr hlk
  have X : Cx p s m args c RX2 cX2_forget 1 D cA ad A := X
  unfold f_X2_forget
  refine so_pick (L' := [(0, .ref this)]) X [0] rfl ?_
  refine so_aload_n (i := 0) X 0 (dkX2_forget (0, .aload_n 0, 1) (pgm 0 rfl)) rfl rfl ?_
  refine so_iconst (v := (0 : Int32)) X (dkX2_forget (1, .iconst 0, 1) (pgm 1 rfl)) ic_0 ?_
  refine sf_putI X ff_2_8 ft_2 rfl lk_398 hk rfl rfl (dkX2_forget (2, .putfield 33, 3) (pgm 2 rfl)) (fun h1 => ?_)
  exact so_vret X hr hlk (dkX2_forget (5, .return_, 1) (pgm 3 rfl))
def pgX2_lesser : List (Nat × Instr × Nat) := [(0, .iload_n 0, 1), (1, .iconst (-1), 1), (2, .if_icmp .eq 8, 3), (5, .iload_n 1, 1), (6, .iconst (-1), 1), (7, .if_icmp .ne 14, 3), (10, .iload_n 0, 1), (11, .iconst (-1), 1), (12, .if_icmp .ne 7, 3), (15, .iload_n 1, 1), (16, .goto 4, 3), (19, .iload_n 0, 1), (20, .ireturn, 1), (21, .iload_n 0, 1), (22, .invokestatic 80, 3), (25, .iload_n 1, 1), (26, .invokestatic 80, 3), (29, .isub, 1), (30, .istore_n 2, 1), (31, .iload_n 2, 1), (32, .ifCond .lt 12, 3), (35, .iload_n 2, 1), (36, .ifCond .ne 12, 3), (39, .iload_n 0, 1), (40, .iload_n 1, 1), (41, .if_icmp .ge 7, 3), (44, .iload_n 0, 1), (45, .goto 4, 3), (48, .iload_n 1, 1), (49, .ireturn, 1)]
theorem dkX2_lesser : ∀ q ∈ pgX2_lesser, decode cX2_lesser q.1 = .ok q.2 := by decide +kernel
def f_X2_lesser (a1 : Int32) (a2 : Int32) (h0 : PH) : Option (Int32 × PH) :=
  lt (fun (h1 : PH) => lt (fun (t2 : Int32) (h3 : PH) => some (t2, h3)) (fun (j20 : Int32 → PH → Option (Int32 × PH)) => if a1 = (-1 : Int32) then (j20 a2 h1) else (j20 a1 h1))) (fun (j10 : PH → Option (Int32 × PH)) => if a1 = (-1 : Int32) then (j10 h0) else (if a2 = (-1 : Int32) then (j10 h0) else (cb (f_J6_bitCount_0f7a4 a1 h0) (fun (r4 : Int32) (h5 : PH) => cb (f_J6_bitCount_0f7a4 a2 h5) (fun (r6 : Int32) (h7 : PH) => lt (r4 - r6) (fun (x8 : Int32) => lt (fun (t9 : Int32) (h10 : PH) => some (t9, h10)) (fun (j49 : Int32 → PH → Option (Int32 × PH)) => lt (fun (h11 : PH) => j49 a1 h11) (fun (j44 : PH → Option (Int32 × PH)) => if x8 < 0 then (j44 h7) else (lt (fun (h12 : PH) => j49 a2 h12) (fun (j48 : PH → Option (Int32 × PH)) => if x8 = 0 then (if a2 ≤ a1 then (j48 h7) else (j44 h7)) else (j48 h7)))))))))))
set_option maxRecDepth 100000 in
set_option maxHeartbeats 4000000 in
theorem ct_X2_lesser (l : Launch) (a1 : Int32) (a2 : Int32) (h0 : PH)  : CT mkI l yX2_lesser cX2_lesser 3 (some .int) (rmd 1) [.int a1, .int a2] h0 (f_X2_lesser a1 a2 h0) := by
  refine ct_of (by decide) (Nat.le_of_ble_eq_true rfl) ?_
  intro p e s m args below meth c D cA ad A X hr hlk
  have X : Cx p s m args c RX2 cX2_lesser 3 D cA ad A := X
  unfold f_X2_lesser
  refine so_pick (L' := [(0, .int a1), (1, .int a2)]) X [0, 1] rfl ?_
  refine so_iload_n (i := 0) X 0 (dkX2_lesser (0, .iload_n 0, 1) (pgm 0 rfl)) rfl rfl ?_
  refine so_iconst (v := (-1 : Int32)) X (dkX2_lesser (1, .iconst (-1), 1) (pgm 1 rfl)) ic_m1 ?_
  refine so_join (jf := fun (h1 : PH) => lt (fun (t2 : Int32) (h3 : PH) => some (t2, h3)) (fun (j20 : Int32 → PH → Option (Int32 × PH)) => if a1 = (-1 : Int32) then (j20 a2 h1) else (j20 a1 h1))) (fun (j : PH → Option (Int32 × PH)) => ∀  (h1 : PH), SWo (QM mkI below args s D cA ad A) p l e (rmd 1) s m args below meth c 0 0 3 D cA ad A 10 [(0, .int a1), (1, .int a2)] [] h1 (j h1)) ?_ (fun j10 hj10 => ?_)
  · intro h1
    refine so_iload_n (i := 0) X 0 (dkX2_lesser (10, .iload_n 0, 1) (pgm 6 rfl)) rfl rfl ?_
    refine so_iconst (v := (-1 : Int32)) X (dkX2_lesser (11, .iconst (-1), 1) (pgm 7 rfl)) ic_m1 ?_
    refine so_join (jf := fun (t2 : Int32) (h3 : PH) => some (t2, h3)) (fun (j : Int32 → PH → Option (Int32 × PH)) => ∀ (t2 : Int32) (h3 : PH), SWo (QM mkI below args s D cA ad A) p l e (rmd 1) s m args below meth c 0 0 3 D cA ad A 20 [] [.int t2] h3 (j t2 h3)) ?_ (fun j20 hj20 => ?_)
    · intro t2 h3
      exact so_iret X hr hlk (dkX2_lesser (20, .ireturn, 1) (pgm 12 rfl))
    refine so_icmp_ne (tgt := 19) X (dkX2_lesser (12, .if_icmp .ne 7, 3) (pgm 8 rfl)) rfl (fun _ => ?_) (fun _ => ?_)
    · refine so_iload_n (i := 0) X 0 (dkX2_lesser (19, .iload_n 0, 1) (pgm 11 rfl)) rfl rfl ?_
      exact so_pick X [] rfl (hj20 a1 h1)
    · refine so_iload_n (i := 1) X 1 (dkX2_lesser (15, .iload_n 1, 1) (pgm 9 rfl)) rfl rfl ?_
      refine so_goto (tgt := 20) X (dkX2_lesser (16, .goto 4, 3) (pgm 10 rfl)) rfl ?_
      exact so_pick X [] rfl (hj20 a2 h1)
  refine so_icmp_eq (tgt := 10) X (dkX2_lesser (2, .if_icmp .eq 8, 3) (pgm 2 rfl)) rfl (fun _ => ?_) (fun _ => ?_)
  · exact so_pick X [0, 1] rfl (hj10 h0)
  · refine so_iload_n (i := 1) X 1 (dkX2_lesser (5, .iload_n 1, 1) (pgm 3 rfl)) rfl rfl ?_
    refine so_iconst (v := (-1 : Int32)) X (dkX2_lesser (6, .iconst (-1), 1) (pgm 4 rfl)) ic_m1 ?_
    refine so_icmp_ne (tgt := 21) X (dkX2_lesser (7, .if_icmp .ne 14, 3) (pgm 5 rfl)) rfl (fun _ => ?_) (fun _ => ?_)
    · refine so_iload_n (i := 0) X 0 (dkX2_lesser (21, .iload_n 0, 1) (pgm 13 rfl)) rfl rfl ?_
      refine so_callS (n := 1) (As := [.int a1]) X (ct_J6_bitCount_0f7a4 l a1 h0 ) lk_683 lk_635 lk_147 lk_636 (by decide +kernel) rfl rfl rfl (rm_ok (by omega) (by decide)) ⟨Nat.zero_le _, Nat.zero_le _⟩ (Nat.le_of_ble_eq_true rfl) (dkX2_lesser (22, .invokestatic 80, 3) (pgm 14 rfl)) (fun r4 h5 => ?_) rfl
      refine so_iload_n (i := 1) X 1 (dkX2_lesser (25, .iload_n 1, 1) (pgm 15 rfl)) rfl rfl ?_
      refine so_callS (n := 1) (As := [.int a2]) X (ct_J6_bitCount_0f7a4 l a2 h5 ) lk_683 lk_635 lk_147 lk_636 (by decide +kernel) rfl rfl rfl (rm_ok (by omega) (by decide)) ⟨Nat.zero_le _, Nat.zero_le _⟩ (Nat.le_of_ble_eq_true rfl) (dkX2_lesser (26, .invokestatic 80, 3) (pgm 16 rfl)) (fun r6 h7 => ?_) rfl
      refine so_isub X (dkX2_lesser (29, .isub, 1) (pgm 17 rfl)) ?_
      refine so_istore_n (i := 2) X (dkX2_lesser (30, .istore_n 2, 1) (pgm 18 rfl)) rfl (by decide) (Lf := fun x8 => [(2, .int x8), (0, .int a1), (1, .int a2)]) (fun _ => rfl) (fun x8 => ?_)
      refine so_iload_n (i := 2) X 0 (dkX2_lesser (31, .iload_n 2, 1) (pgm 19 rfl)) rfl rfl ?_
      refine so_join (jf := fun (t9 : Int32) (h10 : PH) => some (t9, h10)) (fun (j : Int32 → PH → Option (Int32 × PH)) => ∀ (t9 : Int32) (h10 : PH), SWo (QM mkI below args s D cA ad A) p l e (rmd 1) s m args below meth c 0 0 3 D cA ad A 49 [] [.int t9] h10 (j t9 h10)) ?_ (fun j49 hj49 => ?_)
      · intro t9 h10
        exact so_iret X hr hlk (dkX2_lesser (49, .ireturn, 1) (pgm 29 rfl))
      refine so_join (jf := fun (h11 : PH) => j49 a1 h11) (fun (j : PH → Option (Int32 × PH)) => ∀  (h11 : PH), SWo (QM mkI below args s D cA ad A) p l e (rmd 1) s m args below meth c 0 0 3 D cA ad A 44 [(0, .int a1)] [] h11 (j h11)) ?_ (fun j44 hj44 => ?_)
      · intro h11
        refine so_iload_n (i := 0) X 0 (dkX2_lesser (44, .iload_n 0, 1) (pgm 26 rfl)) rfl rfl ?_
        refine so_goto (tgt := 49) X (dkX2_lesser (45, .goto 4, 3) (pgm 27 rfl)) rfl ?_
        exact so_pick X [] rfl (hj49 a1 h11)
      refine so_if_lt (tgt := 44) X (dkX2_lesser (32, .ifCond .lt 12, 3) (pgm 20 rfl)) rfl (fun _ => ?_) (fun _ => ?_)
      · exact so_pick X [1] rfl (hj44 h7)
      · refine so_iload_n (i := 2) X 0 (dkX2_lesser (35, .iload_n 2, 1) (pgm 21 rfl)) rfl rfl ?_
        refine so_join (jf := fun (h12 : PH) => j49 a2 h12) (fun (j : PH → Option (Int32 × PH)) => ∀  (h12 : PH), SWo (QM mkI below args s D cA ad A) p l e (rmd 1) s m args below meth c 0 0 3 D cA ad A 48 [(1, .int a2)] [] h12 (j h12)) ?_ (fun j48 hj48 => ?_)
        · intro h12
          refine so_iload_n (i := 1) X 0 (dkX2_lesser (48, .iload_n 1, 1) (pgm 28 rfl)) rfl rfl ?_
          exact so_pick X [] rfl (hj49 a2 h12)
        refine so_if_ne (tgt := 48) X (dkX2_lesser (36, .ifCond .ne 12, 3) (pgm 22 rfl)) rfl (fun _ => ?_) (fun _ => ?_)
        · exact so_pick X [2] rfl (hj48 h7)
        · refine so_iload_n (i := 0) X 1 (dkX2_lesser (39, .iload_n 0, 1) (pgm 23 rfl)) rfl rfl ?_
          refine so_iload_n (i := 1) X 2 (dkX2_lesser (40, .iload_n 1, 1) (pgm 24 rfl)) rfl rfl ?_
          refine so_icmp_ge (tgt := 48) X (dkX2_lesser (41, .if_icmp .ge 7, 3) (pgm 25 rfl)) rfl (fun _ => ?_) (fun _ => ?_)
          · exact so_pick X [2] rfl (hj48 h7)
          · exact so_pick X [1] rfl (hj44 h7)
    · exact so_pick X [0, 1] rfl (hj10 h0)
def pgX2_leastPlan : List (Nat × Instr × Nat) := [(0, .aload_n 0, 1), (1, .getfield 15, 3), (4, .iload_n 1, 1), (5, .iaload, 1), (6, .ireturn, 1)]
theorem dkX2_leastPlan : ∀ q ∈ pgX2_leastPlan, decode cX2_leastPlan q.1 = .ok q.2 := by decide +kernel
def f_X2_leastPlan (this : Nat) (a1 : Int32) (h0 : PH) : Option (Int32 × PH) :=
  ldI h0 (rt this 5) 1024 a1 (fun (x1 : Int32) => some (x1, h0))
set_option maxRecDepth 100000 in
set_option maxHeartbeats 4000000 in
theorem ct_X2_leastPlan (l : Launch) (this : Nat) (a1 : Int32) (h0 : PH) (hk : (kd this).1 = 2) : CT mkI l yX2_leastPlan cX2_leastPlan 2 (some .int) (rmd 0) [.ref this, .int a1] h0 (f_X2_leastPlan this a1 h0) := by
  refine ct_of (by decide) (Nat.le_of_ble_eq_true rfl) ?_
  intro p e s m args below meth c D cA ad A X hr hlk
  have X : Cx p s m args c RX2 cX2_leastPlan 2 D cA ad A := X
  unfold f_X2_leastPlan
  refine so_pick (L' := [(0, .ref this), (1, .int a1)]) X [0, 1] rfl ?_
  refine so_aload_n (i := 0) X 0 (dkX2_leastPlan (0, .aload_n 0, 1) (pgm 0 rfl)) rfl rfl ?_
  refine sf_getR X ff_2_5 lk_395 hk (dkX2_leastPlan (1, .getfield 15, 3) (pgm 1 rfl)) ?_
  refine so_iload_n (i := 1) X 1 (dkX2_leastPlan (4, .iload_n 1, 1) (pgm 2 rfl)) rfl rfl ?_
  refine so_iald X (rk_2_5 this hk) (dkX2_leastPlan (5, .iaload, 1) (pgm 3 rfl)) (fun x1 => ?_)
  exact so_iret X hr hlk (dkX2_leastPlan (6, .ireturn, 1) (pgm 4 rfl))
def pgX2_areTogether : List (Nat × Instr × Nat) := [(0, .aload_n 0, 1), (1, .getfield 15, 3), (4, .iload_n 1, 1), (5, .iaload, 1), (6, .iconst (-1), 1), (7, .if_icmp .eq 7, 3), (10, .iconst 1, 1), (11, .goto 4, 3), (14, .iconst 0, 1), (15, .ireturn, 1)]
theorem dkX2_areTogether : ∀ q ∈ pgX2_areTogether, decode cX2_areTogether q.1 = .ok q.2 := by decide +kernel
def f_X2_areTogether (this : Nat) (a1 : Int32) (h0 : PH) : Option (Int32 × PH) :=
  ldI h0 (rt this 5) 1024 a1 (fun (x1 : Int32) => lt (fun (t2 : Int32) (h3 : PH) => zr t2 h3) (fun (j15 : Int32 → PH → Option (Int32 × PH)) => if x1 = (-1 : Int32) then (j15 (0 : Int32) h0) else (j15 (1 : Int32) h0)))
set_option maxRecDepth 100000 in
set_option maxHeartbeats 4000000 in
theorem ct_X2_areTogether (l : Launch) (this : Nat) (a1 : Int32) (h0 : PH) (hk : (kd this).1 = 2) : CT mkI l yX2_areTogether cX2_areTogether 2 (some .boolean) (rmd 0) [.ref this, .int a1] h0 (f_X2_areTogether this a1 h0) := by
  refine ct_of (by decide) (Nat.le_of_ble_eq_true rfl) ?_
  intro p e s m args below meth c D cA ad A X hr hlk
  have X : Cx p s m args c RX2 cX2_areTogether 2 D cA ad A := X
  unfold f_X2_areTogether
  refine so_pick (L' := [(0, .ref this), (1, .int a1)]) X [0, 1] rfl ?_
  refine so_aload_n (i := 0) X 0 (dkX2_areTogether (0, .aload_n 0, 1) (pgm 0 rfl)) rfl rfl ?_
  refine sf_getR X ff_2_5 lk_395 hk (dkX2_areTogether (1, .getfield 15, 3) (pgm 1 rfl)) ?_
  refine so_iload_n (i := 1) X 1 (dkX2_areTogether (4, .iload_n 1, 1) (pgm 2 rfl)) rfl rfl ?_
  refine so_iald X (rk_2_5 this hk) (dkX2_areTogether (5, .iaload, 1) (pgm 3 rfl)) (fun x1 => ?_)
  refine so_iconst (v := (-1 : Int32)) X (dkX2_areTogether (6, .iconst (-1), 1) (pgm 4 rfl)) ic_m1 ?_
  refine so_join (jf := fun (t2 : Int32) (h3 : PH) => zr t2 h3) (fun (j : Int32 → PH → Option (Int32 × PH)) => ∀ (t2 : Int32) (h3 : PH), SWo (QM mkI below args s D cA ad A) p l e (rmd 0) s m args below meth c 0 0 2 D cA ad A 15 [] [.int t2] h3 (j t2 h3)) ?_ (fun j15 hj15 => ?_)
  · intro t2 h3
    exact so_zret X hr hlk (dkX2_areTogether (15, .ireturn, 1) (pgm 9 rfl))
  refine so_icmp_eq (tgt := 14) X (dkX2_areTogether (7, .if_icmp .eq 7, 3) (pgm 5 rfl)) rfl (fun _ => ?_) (fun _ => ?_)
  · refine so_iconst (v := (0 : Int32)) X (dkX2_areTogether (14, .iconst 0, 1) (pgm 8 rfl)) ic_0 ?_
    exact so_pick X [] rfl (hj15 (0 : Int32) h0)
  · refine so_iconst (v := (1 : Int32)) X (dkX2_areTogether (10, .iconst 1, 1) (pgm 6 rfl)) ic_1 ?_
    refine so_goto (tgt := 15) X (dkX2_areTogether (11, .goto 4, 3) (pgm 7 rfl)) rfl ?_
    exact so_pick X [] rfl (hj15 (1 : Int32) h0)
def pgX2_smallestQuarrel : List (Nat × Instr × Nat) := [(0, .iconst (-1), 1), (1, .istore_n 2, 1), (2, .iconst 0, 1), (3, .istore_n 3, 1), (4, .iload_n 3, 1), (5, .iload_n 1, 1), (6, .if_icmp .gt 43, 3), (9, .iload_n 3, 1), (10, .iload_n 1, 1), (11, .iconst (-1), 1), (12, .ixor, 1), (13, .iand, 1), (14, .ifCond .ne 29, 3), (17, .aload_n 0, 1), (18, .iload_n 3, 1), (19, .invokevirtual 86, 3), (22, .ifCond .ne 21, 3), (25, .iload_n 2, 1), (26, .iconst (-1), 1), (27, .if_icmp .eq 14, 3), (30, .iload_n 3, 1), (31, .invokestatic 80, 3), (34, .iload_n 2, 1), (35, .invokestatic 80, 3), (38, .if_icmp .ge 5, 3), (41, .iload_n 3, 1), (42, .istore_n 2, 1), (43, .iinc 3 1, 3), (46, .goto (-42), 3), (49, .iload_n 2, 1), (50, .ireturn, 1)]
theorem dkX2_smallestQuarrel : ∀ q ∈ pgX2_smallestQuarrel, decode cX2_smallestQuarrel q.1 = .ok q.2 := by decide +kernel
def b_X2_smallestQuarrel_4 (this : Nat) (a1 : Int32) (rec4 : (Int32 × Int32) → PH → Option (Int32 × PH)) (s4 : Int32 × Int32) (hh4 : PH) : Option (Int32 × PH) :=
  if a1 < s4.2 then (some (s4.1, hh4)) else (lt (fun (y3 : Int32) (h4 : PH) => lt (s4.2 + Int32.ofInt 1) (fun (x5 : Int32) => rec4 (y3, x5) h4)) (fun (j43 : Int32 → PH → Option (Int32 × PH)) => if (s4.2 &&& (a1 ^^^ (-1 : Int32))) = 0 then (cb (f_X2_areTogether this s4.2 hh4) (fun (r6 : Int32) (h7 : PH) => if r6 = 0 then (lt (fun (h8 : PH) => lt s4.2 (fun (x9 : Int32) => j43 x9 h8)) (fun (j41 : PH → Option (Int32 × PH)) => if s4.1 = (-1 : Int32) then (j41 h7) else (cb (f_J6_bitCount_0f7a4 s4.2 h7) (fun (r10 : Int32) (h11 : PH) => cb (f_J6_bitCount_0f7a4 s4.1 h11) (fun (r12 : Int32) (h13 : PH) => if r12 ≤ r10 then (j43 s4.1 h13) else (j41 h13)))))) else (j43 s4.1 h7))) else (j43 s4.1 hh4)))
def f_X2_smallestQuarrel (this : Nat) (a1 : Int32) (h0 : PH) : Option (Int32 × PH) :=
  lt (-1 : Int32) (fun (x1 : Int32) => lt (0 : Int32) (fun (x2 : Int32) => lp (b_X2_smallestQuarrel_4 this a1) FU (x1, x2) h0))
set_option maxRecDepth 100000 in
set_option maxHeartbeats 4000000 in
theorem ct_X2_smallestQuarrel (l : Launch) (this : Nat) (a1 : Int32) (h0 : PH) (hk : (kd this).1 = 2) : CT mkI l yX2_smallestQuarrel cX2_smallestQuarrel 4 (some .int) (rmd 1) [.ref this, .int a1] h0 (f_X2_smallestQuarrel this a1 h0) := by
  refine ct_of (by decide) (Nat.le_of_ble_eq_true rfl) ?_
  intro p e s m args below meth c D cA ad A X hr hlk
  have X : Cx p s m args c RX2 cX2_smallestQuarrel 4 D cA ad A := X
  unfold f_X2_smallestQuarrel
  refine so_pick (L' := [(0, .ref this), (1, .int a1)]) X [0, 1] rfl ?_
  refine so_iconst (v := (-1 : Int32)) X (dkX2_smallestQuarrel (0, .iconst (-1), 1) (pgm 0 rfl)) ic_m1 ?_
  refine so_istore_n (i := 2) X (dkX2_smallestQuarrel (1, .istore_n 2, 1) (pgm 1 rfl)) rfl (by decide) (Lf := fun x1 => [(2, .int x1), (0, .ref this), (1, .int a1)]) (fun _ => rfl) (fun x1 => ?_)
  refine so_iconst (v := (0 : Int32)) X (dkX2_smallestQuarrel (2, .iconst 0, 1) (pgm 2 rfl)) ic_0 ?_
  refine so_istore_n (i := 3) X (dkX2_smallestQuarrel (3, .istore_n 3, 1) (pgm 3 rfl)) rfl (by decide) (Lf := fun x2 => [(3, .int x2), (2, .int x1), (0, .ref this), (1, .int a1)]) (fun _ => rfl) (fun x2 => ?_)
  refine so_pick (L' := [(0, .ref this), (1, .int a1), (2, .int x1), (3, .int x2)]) X [2, 3, 1, 0] rfl ?_
  refine so_loop (body := b_X2_smallestQuarrel_4 this a1) (fun (s4 : Int32 × Int32) => [(0, .ref this), (1, .int a1), (2, .int s4.1), (3, .int s4.2)]) (fun rec4 hrec4 s4 hh4 => ?_) FU (x1, x2) h0
  unfold b_X2_smallestQuarrel_4
  refine so_iload_n (i := 3) X 3 (dkX2_smallestQuarrel (4, .iload_n 3, 1) (pgm 4 rfl)) rfl rfl ?_
  refine so_iload_n (i := 1) X 1 (dkX2_smallestQuarrel (5, .iload_n 1, 1) (pgm 5 rfl)) rfl rfl ?_
  refine so_icmp_gt (tgt := 49) X (dkX2_smallestQuarrel (6, .if_icmp .gt 43, 3) (pgm 6 rfl)) rfl (fun _ => ?_) (fun _ => ?_)
  · refine so_iload_n (i := 2) X 2 (dkX2_smallestQuarrel (49, .iload_n 2, 1) (pgm 29 rfl)) rfl rfl ?_
    exact so_iret X hr hlk (dkX2_smallestQuarrel (50, .ireturn, 1) (pgm 30 rfl))
  · refine so_iload_n (i := 3) X 3 (dkX2_smallestQuarrel (9, .iload_n 3, 1) (pgm 7 rfl)) rfl rfl ?_
    refine so_iload_n (i := 1) X 1 (dkX2_smallestQuarrel (10, .iload_n 1, 1) (pgm 8 rfl)) rfl rfl ?_
    refine so_iconst (v := (-1 : Int32)) X (dkX2_smallestQuarrel (11, .iconst (-1), 1) (pgm 9 rfl)) ic_m1 ?_
    refine so_ixor X (dkX2_smallestQuarrel (12, .ixor, 1) (pgm 10 rfl)) ?_
    refine so_iand X (dkX2_smallestQuarrel (13, .iand, 1) (pgm 11 rfl)) ?_
    refine so_join (jf := fun (y3 : Int32) (h4 : PH) => lt (s4.2 + Int32.ofInt 1) (fun (x5 : Int32) => rec4 (y3, x5) h4)) (fun (j : Int32 → PH → Option (Int32 × PH)) => ∀ (y3 : Int32) (h4 : PH), SWo (QM mkI below args s D cA ad A) p l e (rmd 1) s m args below meth c 0 0 4 D cA ad A 43 [(0, .ref this), (1, .int a1), (2, .int y3), (3, .int s4.2)] [] h4 (j y3 h4)) ?_ (fun j43 hj43 => ?_)
    · intro y3 h4
      refine so_iinc (i := 3) X 3 (dkX2_smallestQuarrel (43, .iinc 3 1, 3) (pgm 27 rfl)) rfl rfl (by decide) (Lf := fun x5 => [(3, .int x5), (0, .ref this), (1, .int a1), (2, .int y3)]) (fun _ => rfl) (fun x5 => ?_)
      refine so_goto (tgt := 4) X (dkX2_smallestQuarrel (46, .goto (-42), 3) (pgm 28 rfl)) rfl ?_
      exact so_pick X [1, 2, 3, 0] rfl (hrec4 (y3, x5) h4)
    refine so_if_ne (tgt := 43) X (dkX2_smallestQuarrel (14, .ifCond .ne 29, 3) (pgm 12 rfl)) rfl (fun _ => ?_) (fun _ => ?_)
    · exact so_pick X [0, 1, 2, 3] rfl (hj43 s4.1 hh4)
    · refine so_aload_n (i := 0) X 0 (dkX2_smallestQuarrel (17, .aload_n 0, 1) (pgm 13 rfl)) rfl rfl ?_
      refine so_iload_n (i := 3) X 3 (dkX2_smallestQuarrel (18, .iload_n 3, 1) (pgm 14 rfl)) rfl rfl ?_
      refine so_callV (n := 1) (As := [.int s4.2]) X (ct_X2_areTogether l this s4.2 hh4 hk) hk (by decide) rfl lk_700 lk_702 lk_5 lk_128 lk_703 (by decide +kernel) rfl rfl rfl (rm_ok (by omega) (by decide)) ⟨Nat.zero_le _, Nat.zero_le _⟩ (Nat.le_of_ble_eq_true rfl) (dkX2_smallestQuarrel (19, .invokevirtual 86, 3) (pgm 15 rfl)) (fun r6 h7 => ?_) rfl
      refine so_if_ne (tgt := 43) X (dkX2_smallestQuarrel (22, .ifCond .ne 21, 3) (pgm 16 rfl)) rfl (fun _ => ?_) (fun _ => ?_)
      · exact so_pick X [0, 1, 2, 3] rfl (hj43 s4.1 h7)
      · refine so_iload_n (i := 2) X 2 (dkX2_smallestQuarrel (25, .iload_n 2, 1) (pgm 17 rfl)) rfl rfl ?_
        refine so_iconst (v := (-1 : Int32)) X (dkX2_smallestQuarrel (26, .iconst (-1), 1) (pgm 18 rfl)) ic_m1 ?_
        refine so_join (jf := fun (h8 : PH) => lt s4.2 (fun (x9 : Int32) => j43 x9 h8)) (fun (j : PH → Option (Int32 × PH)) => ∀  (h8 : PH), SWo (QM mkI below args s D cA ad A) p l e (rmd 1) s m args below meth c 0 0 4 D cA ad A 41 [(0, .ref this), (1, .int a1), (3, .int s4.2)] [] h8 (j h8)) ?_ (fun j41 hj41 => ?_)
        · intro h8
          refine so_iload_n (i := 3) X 2 (dkX2_smallestQuarrel (41, .iload_n 3, 1) (pgm 25 rfl)) rfl rfl ?_
          refine so_istore_n (i := 2) X (dkX2_smallestQuarrel (42, .istore_n 2, 1) (pgm 26 rfl)) rfl (by decide) (Lf := fun x9 => [(2, .int x9), (0, .ref this), (1, .int a1), (3, .int s4.2)]) (fun _ => rfl) (fun x9 => ?_)
          exact so_pick X [1, 2, 0, 3] rfl (hj43 x9 h8)
        refine so_icmp_eq (tgt := 41) X (dkX2_smallestQuarrel (27, .if_icmp .eq 14, 3) (pgm 19 rfl)) rfl (fun _ => ?_) (fun _ => ?_)
        · exact so_pick X [0, 1, 3] rfl (hj41 h7)
        · refine so_iload_n (i := 3) X 3 (dkX2_smallestQuarrel (30, .iload_n 3, 1) (pgm 20 rfl)) rfl rfl ?_
          refine so_callS (n := 1) (As := [.int s4.2]) X (ct_J6_bitCount_0f7a4 l s4.2 h7 ) lk_683 lk_635 lk_147 lk_636 (by decide +kernel) rfl rfl rfl (rm_ok (by omega) (by decide)) ⟨Nat.zero_le _, Nat.zero_le _⟩ (Nat.le_of_ble_eq_true rfl) (dkX2_smallestQuarrel (31, .invokestatic 80, 3) (pgm 21 rfl)) (fun r10 h11 => ?_) rfl
          refine so_iload_n (i := 2) X 2 (dkX2_smallestQuarrel (34, .iload_n 2, 1) (pgm 22 rfl)) rfl rfl ?_
          refine so_callS (n := 1) (As := [.int s4.1]) X (ct_J6_bitCount_0f7a4 l s4.1 h11 ) lk_683 lk_635 lk_147 lk_636 (by decide +kernel) rfl rfl rfl (rm_ok (by omega) (by decide)) ⟨Nat.zero_le _, Nat.zero_le _⟩ (Nat.le_of_ble_eq_true rfl) (dkX2_smallestQuarrel (35, .invokestatic 80, 3) (pgm 23 rfl)) (fun r12 h13 => ?_) rfl
          refine so_icmp_ge (tgt := 43) X (dkX2_smallestQuarrel (38, .if_icmp .ge 5, 3) (pgm 24 rfl)) rfl (fun _ => ?_) (fun _ => ?_)
          · exact so_pick X [0, 1, 2, 3] rfl (hj43 s4.1 h13)
          · exact so_pick X [0, 1, 3] rfl (hj41 h13)
def pgX2_foesOf : List (Nat × Instr × Nat) := [(0, .iconst 0, 1), (1, .istore_n 2, 1), (2, .aload_n 0, 1), (3, .iconst 1, 1), (4, .iload_n 1, 1), (5, .ishl, 1), (6, .invokevirtual 86, 3), (9, .ifCond .eq 54, 3), (12, .iconst 0, 1), (13, .istore_n 3, 1), (14, .iload_n 3, 1), (15, .aload_n 0, 1), (16, .getfield 21, 3), (19, .getfield 77, 3), (22, .if_icmp .ge 41, 3), (25, .aload_n 0, 1), (26, .getfield 37, 3), (29, .iload_n 3, 1), (30, .ishr, 1), (31, .iconst 1, 1), (32, .iand, 1), (33, .iconst 1, 1), (34, .if_icmp .ne 23, 3), (37, .aload_n 0, 1), (38, .iconst 1, 1), (39, .iload_n 1, 1), (40, .ishl, 1), (41, .iconst 1, 1), (42, .iload_n 3, 1), (43, .ishl, 1), (44, .ior, 1), (45, .invokevirtual 86, 3), (48, .ifCond .ne 9, 3), (51, .iload_n 2, 1), (52, .iconst 1, 1), (53, .iload_n 3, 1), (54, .ishl, 1), (55, .ior, 1), (56, .istore_n 2, 1), (57, .iinc 3 1, 3), (60, .goto (-46), 3), (63, .iload_n 2, 1), (64, .ireturn, 1)]
theorem dkX2_foesOf : ∀ q ∈ pgX2_foesOf, decode cX2_foesOf q.1 = .ok q.2 := by decide +kernel
def b_X2_foesOf_14 (this : Nat) (a1 : Int32) (j63 : Int32 → PH → Option (Int32 × PH)) (rec14 : (Int32 × Int32) → PH → Option (Int32 × PH)) (s14 : Int32 × Int32) (hh14 : PH) : Option (Int32 × PH) :=
  if (hh14.1 (rt this 0) 5) ≤ s14.2 then (j63 s14.1 hh14) else (lt (fun (y7 : Int32) (h8 : PH) => lt (s14.2 + Int32.ofInt 1) (fun (x9 : Int32) => rec14 (y7, x9) h8)) (fun (j57 : Int32 → PH → Option (Int32 × PH)) => if (((hh14.1 this 7) >>> (s14.2 &&& 31)) &&& (1 : Int32)) = (1 : Int32) then (cb (f_X2_areTogether this (((1 : Int32) <<< (a1 &&& 31)) ||| ((1 : Int32) <<< (s14.2 &&& 31))) hh14) (fun (r10 : Int32) (h11 : PH) => if r10 = 0 then (lt (s14.1 ||| ((1 : Int32) <<< (s14.2 &&& 31))) (fun (x12 : Int32) => j57 x12 h11)) else (j57 s14.1 h11))) else (j57 s14.1 hh14)))
def f_X2_foesOf (this : Nat) (a1 : Int32) (h0 : PH) : Option (Int32 × PH) :=
  lt (0 : Int32) (fun (x1 : Int32) => cb (f_X2_areTogether this ((1 : Int32) <<< (a1 &&& 31)) h0) (fun (r2 : Int32) (h3 : PH) => lt (fun (y4 : Int32) (h5 : PH) => some (y4, h5)) (fun (j63 : Int32 → PH → Option (Int32 × PH)) => if r2 = 0 then (j63 x1 h3) else (lt (0 : Int32) (fun (x6 : Int32) => lp (b_X2_foesOf_14 this a1 j63) FU (x1, x6) h3)))))
set_option maxRecDepth 100000 in
set_option maxHeartbeats 4000000 in
theorem ct_X2_foesOf (l : Launch) (this : Nat) (a1 : Int32) (h0 : PH) (hk : (kd this).1 = 2) : CT mkI l yX2_foesOf cX2_foesOf 4 (some .int) (rmd 1) [.ref this, .int a1] h0 (f_X2_foesOf this a1 h0) := by
  refine ct_of (by decide) (Nat.le_of_ble_eq_true rfl) ?_
  intro p e s m args below meth c D cA ad A X hr hlk
  have X : Cx p s m args c RX2 cX2_foesOf 4 D cA ad A := X
  unfold f_X2_foesOf
  refine so_pick (L' := [(0, .ref this), (1, .int a1)]) X [0, 1] rfl ?_
  refine so_iconst (v := (0 : Int32)) X (dkX2_foesOf (0, .iconst 0, 1) (pgm 0 rfl)) ic_0 ?_
  refine so_istore_n (i := 2) X (dkX2_foesOf (1, .istore_n 2, 1) (pgm 1 rfl)) rfl (by decide) (Lf := fun x1 => [(2, .int x1), (0, .ref this), (1, .int a1)]) (fun _ => rfl) (fun x1 => ?_)
  refine so_aload_n (i := 0) X 1 (dkX2_foesOf (2, .aload_n 0, 1) (pgm 2 rfl)) rfl rfl ?_
  refine so_iconst (v := (1 : Int32)) X (dkX2_foesOf (3, .iconst 1, 1) (pgm 3 rfl)) ic_1 ?_
  refine so_iload_n (i := 1) X 2 (dkX2_foesOf (4, .iload_n 1, 1) (pgm 4 rfl)) rfl rfl ?_
  refine so_ishl X (dkX2_foesOf (5, .ishl, 1) (pgm 5 rfl)) ?_
  refine so_callV (n := 1) (As := [.int ((1 : Int32) <<< (a1 &&& 31))]) X (ct_X2_areTogether l this ((1 : Int32) <<< (a1 &&& 31)) h0 hk) hk (by decide) rfl lk_700 lk_702 lk_5 lk_128 lk_703 (by decide +kernel) rfl rfl rfl (rm_ok (by omega) (by decide)) ⟨Nat.zero_le _, Nat.zero_le _⟩ (Nat.le_of_ble_eq_true rfl) (dkX2_foesOf (6, .invokevirtual 86, 3) (pgm 6 rfl)) (fun r2 h3 => ?_) rfl
  refine so_join (jf := fun (y4 : Int32) (h5 : PH) => some (y4, h5)) (fun (j : Int32 → PH → Option (Int32 × PH)) => ∀ (y4 : Int32) (h5 : PH), SWo (QM mkI below args s D cA ad A) p l e (rmd 1) s m args below meth c 0 0 4 D cA ad A 63 [(2, .int y4)] [] h5 (j y4 h5)) ?_ (fun j63 hj63 => ?_)
  · intro y4 h5
    refine so_iload_n (i := 2) X 0 (dkX2_foesOf (63, .iload_n 2, 1) (pgm 41 rfl)) rfl rfl ?_
    exact so_iret X hr hlk (dkX2_foesOf (64, .ireturn, 1) (pgm 42 rfl))
  refine so_if_eq (tgt := 63) X (dkX2_foesOf (9, .ifCond .eq 54, 3) (pgm 7 rfl)) rfl (fun _ => ?_) (fun _ => ?_)
  · exact so_pick X [0] rfl (hj63 x1 h3)
  · refine so_iconst (v := (0 : Int32)) X (dkX2_foesOf (12, .iconst 0, 1) (pgm 8 rfl)) ic_0 ?_
    refine so_istore_n (i := 3) X (dkX2_foesOf (13, .istore_n 3, 1) (pgm 9 rfl)) rfl (by decide) (Lf := fun x6 => [(3, .int x6), (2, .int x1), (0, .ref this), (1, .int a1)]) (fun _ => rfl) (fun x6 => ?_)
    refine so_pick (L' := [(0, .ref this), (1, .int a1), (2, .int x1), (3, .int x6)]) X [2, 3, 1, 0] rfl ?_
    refine so_loop (body := b_X2_foesOf_14 this a1 j63) (fun (s14 : Int32 × Int32) => [(0, .ref this), (1, .int a1), (2, .int s14.1), (3, .int s14.2)]) (fun rec14 hrec14 s14 hh14 => ?_) FU (x1, x6) h3
    unfold b_X2_foesOf_14
    refine so_iload_n (i := 3) X 3 (dkX2_foesOf (14, .iload_n 3, 1) (pgm 10 rfl)) rfl rfl ?_
    refine so_aload_n (i := 0) X 0 (dkX2_foesOf (15, .aload_n 0, 1) (pgm 11 rfl)) rfl rfl ?_
    refine sf_getR X ff_2_0 lk_386 hk (dkX2_foesOf (16, .getfield 21, 3) (pgm 12 rfl)) ?_
    refine sf_getI X ff_8_5 lk_184 (fo (rk_2_0 this hk)) (dkX2_foesOf (19, .getfield 77, 3) (pgm 13 rfl)) ?_
    refine so_icmp_ge (tgt := 63) X (dkX2_foesOf (22, .if_icmp .ge 41, 3) (pgm 14 rfl)) rfl (fun _ => ?_) (fun _ => ?_)
    · exact so_pick X [2] rfl (hj63 s14.1 hh14)
    · refine so_aload_n (i := 0) X 0 (dkX2_foesOf (25, .aload_n 0, 1) (pgm 15 rfl)) rfl rfl ?_
      refine sf_getI X ff_2_7 lk_397 hk (dkX2_foesOf (26, .getfield 37, 3) (pgm 16 rfl)) ?_
      refine so_iload_n (i := 3) X 3 (dkX2_foesOf (29, .iload_n 3, 1) (pgm 17 rfl)) rfl rfl ?_
      refine so_ishr X (dkX2_foesOf (30, .ishr, 1) (pgm 18 rfl)) ?_
      refine so_iconst (v := (1 : Int32)) X (dkX2_foesOf (31, .iconst 1, 1) (pgm 19 rfl)) ic_1 ?_
      refine so_iand X (dkX2_foesOf (32, .iand, 1) (pgm 20 rfl)) ?_
      refine so_iconst (v := (1 : Int32)) X (dkX2_foesOf (33, .iconst 1, 1) (pgm 21 rfl)) ic_1 ?_
      refine so_join (jf := fun (y7 : Int32) (h8 : PH) => lt (s14.2 + Int32.ofInt 1) (fun (x9 : Int32) => rec14 (y7, x9) h8)) (fun (j : Int32 → PH → Option (Int32 × PH)) => ∀ (y7 : Int32) (h8 : PH), SWo (QM mkI below args s D cA ad A) p l e (rmd 1) s m args below meth c 0 0 4 D cA ad A 57 [(0, .ref this), (1, .int a1), (2, .int y7), (3, .int s14.2)] [] h8 (j y7 h8)) ?_ (fun j57 hj57 => ?_)
      · intro y7 h8
        refine so_iinc (i := 3) X 3 (dkX2_foesOf (57, .iinc 3 1, 3) (pgm 39 rfl)) rfl rfl (by decide) (Lf := fun x9 => [(3, .int x9), (0, .ref this), (1, .int a1), (2, .int y7)]) (fun _ => rfl) (fun x9 => ?_)
        refine so_goto (tgt := 14) X (dkX2_foesOf (60, .goto (-46), 3) (pgm 40 rfl)) rfl ?_
        exact so_pick X [1, 2, 3, 0] rfl (hrec14 (y7, x9) h8)
      refine so_icmp_ne (tgt := 57) X (dkX2_foesOf (34, .if_icmp .ne 23, 3) (pgm 22 rfl)) rfl (fun _ => ?_) (fun _ => ?_)
      · exact so_pick X [0, 1, 2, 3] rfl (hj57 s14.1 hh14)
      · refine so_aload_n (i := 0) X 0 (dkX2_foesOf (37, .aload_n 0, 1) (pgm 23 rfl)) rfl rfl ?_
        refine so_iconst (v := (1 : Int32)) X (dkX2_foesOf (38, .iconst 1, 1) (pgm 24 rfl)) ic_1 ?_
        refine so_iload_n (i := 1) X 1 (dkX2_foesOf (39, .iload_n 1, 1) (pgm 25 rfl)) rfl rfl ?_
        refine so_ishl X (dkX2_foesOf (40, .ishl, 1) (pgm 26 rfl)) ?_
        refine so_iconst (v := (1 : Int32)) X (dkX2_foesOf (41, .iconst 1, 1) (pgm 27 rfl)) ic_1 ?_
        refine so_iload_n (i := 3) X 3 (dkX2_foesOf (42, .iload_n 3, 1) (pgm 28 rfl)) rfl rfl ?_
        refine so_ishl X (dkX2_foesOf (43, .ishl, 1) (pgm 29 rfl)) ?_
        refine so_ior X (dkX2_foesOf (44, .ior, 1) (pgm 30 rfl)) ?_
        refine so_callV (n := 1) (As := [.int (((1 : Int32) <<< (a1 &&& 31)) ||| ((1 : Int32) <<< (s14.2 &&& 31)))]) X (ct_X2_areTogether l this (((1 : Int32) <<< (a1 &&& 31)) ||| ((1 : Int32) <<< (s14.2 &&& 31))) hh14 hk) hk (by decide) rfl lk_700 lk_702 lk_5 lk_128 lk_703 (by decide +kernel) rfl rfl rfl (rm_ok (by omega) (by decide)) ⟨Nat.zero_le _, Nat.zero_le _⟩ (Nat.le_of_ble_eq_true rfl) (dkX2_foesOf (45, .invokevirtual 86, 3) (pgm 31 rfl)) (fun r10 h11 => ?_) rfl
        refine so_if_ne (tgt := 57) X (dkX2_foesOf (48, .ifCond .ne 9, 3) (pgm 32 rfl)) rfl (fun _ => ?_) (fun _ => ?_)
        · exact so_pick X [0, 1, 2, 3] rfl (hj57 s14.1 h11)
        · refine so_iload_n (i := 2) X 2 (dkX2_foesOf (51, .iload_n 2, 1) (pgm 33 rfl)) rfl rfl ?_
          refine so_iconst (v := (1 : Int32)) X (dkX2_foesOf (52, .iconst 1, 1) (pgm 34 rfl)) ic_1 ?_
          refine so_iload_n (i := 3) X 3 (dkX2_foesOf (53, .iload_n 3, 1) (pgm 35 rfl)) rfl rfl ?_
          refine so_ishl X (dkX2_foesOf (54, .ishl, 1) (pgm 36 rfl)) ?_
          refine so_ior X (dkX2_foesOf (55, .ior, 1) (pgm 37 rfl)) ?_
          refine so_istore_n (i := 2) X (dkX2_foesOf (56, .istore_n 2, 1) (pgm 38 rfl)) rfl (by decide) (Lf := fun x12 => [(2, .int x12), (0, .ref this), (1, .int a1), (3, .int s14.2)]) (fun _ => rfl) (fun x12 => ?_)
          exact so_pick X [1, 2, 0, 3] rfl (hj57 x12 h11)
def pgX2_nightsFor : List (Nat × Instr × Nat) := [(0, .iconst (-1), 1), (1, .istore_n 2, 1), (2, .iload_n 1, 1), (3, .istore_n 3, 1), (4, .iload_n 3, 1), (5, .ifCond .le 56, 3), (8, .aload_n 0, 1), (9, .getfield 18, 3), (12, .iload_n 1, 1), (13, .iload_n 3, 1), (14, .iconst (-1), 1), (15, .ixor, 1), (16, .iand, 1), (17, .iaload, 1), (18, .istore 4, 2), (20, .aload_n 0, 1), (21, .iload_n 3, 1), (22, .invokevirtual 86, 3), (25, .ifCond .eq 27, 3), (28, .iload 4, 2), (30, .iconst (-1), 1), (31, .if_icmp .eq 21, 3), (34, .iload_n 2, 1), (35, .iconst (-1), 1), (36, .if_icmp .eq 11, 3), (39, .iload 4, 2), (41, .iconst 1, 1), (42, .iadd, 1), (43, .iload_n 2, 1), (44, .if_icmp .ge 8, 3), (47, .iload 4, 2), (49, .iconst 1, 1), (50, .iadd, 1), (51, .istore_n 2, 1), (52, .iload_n 3, 1), (53, .iconst 1, 1), (54, .isub, 1), (55, .iload_n 1, 1), (56, .iand, 1), (57, .istore_n 3, 1), (58, .goto (-54), 3), (61, .iload_n 2, 1), (62, .ireturn, 1)]
theorem dkX2_nightsFor : ∀ q ∈ pgX2_nightsFor, decode cX2_nightsFor q.1 = .ok q.2 := by decide +kernel
def b_X2_nightsFor_4 (this : Nat) (a1 : Int32) (rec4 : (Int32 × Int32) → PH → Option (Int32 × PH)) (s4 : Int32 × Int32) (hh4 : PH) : Option (Int32 × PH) :=
  if s4.2 ≤ 0 then (some (s4.1, hh4)) else (ldI hh4 (rt this 6) 1024 (a1 &&& (s4.2 ^^^ (-1 : Int32))) (fun (x3 : Int32) => lt x3 (fun (x4 : Int32) => cb (f_X2_areTogether this s4.2 hh4) (fun (r5 : Int32) (h6 : PH) => lt (fun (y7 : Int32) (h8 : PH) => lt ((s4.2 - (1 : Int32)) &&& a1) (fun (x9 : Int32) => rec4 (y7, x9) h8)) (fun (j52 : Int32 → PH → Option (Int32 × PH)) => if r5 = 0 then (j52 s4.1 h6) else (if x4 = (-1 : Int32) then (j52 s4.1 h6) else (lt (fun (h10 : PH) => lt (x4 + (1 : Int32)) (fun (x11 : Int32) => j52 x11 h10)) (fun (j47 : PH → Option (Int32 × PH)) => if s4.1 = (-1 : Int32) then (j47 h6) else (if s4.1 ≤ (x4 + (1 : Int32)) then (j52 s4.1 h6) else (j47 h6))))))))))
def f_X2_nightsFor (this : Nat) (a1 : Int32) (h0 : PH) : Option (Int32 × PH) :=
  lt (-1 : Int32) (fun (x1 : Int32) => lt a1 (fun (x2 : Int32) => lp (b_X2_nightsFor_4 this a1) FU (x1, x2) h0))
set_option maxRecDepth 100000 in
set_option maxHeartbeats 4000000 in
theorem ct_X2_nightsFor (l : Launch) (this : Nat) (a1 : Int32) (h0 : PH) (hk : (kd this).1 = 2) : CT mkI l yX2_nightsFor cX2_nightsFor 5 (some .int) (rmd 1) [.ref this, .int a1] h0 (f_X2_nightsFor this a1 h0) := by
  refine ct_of (by decide) (Nat.le_of_ble_eq_true rfl) ?_
  intro p e s m args below meth c D cA ad A X hr hlk
  have X : Cx p s m args c RX2 cX2_nightsFor 5 D cA ad A := X
  unfold f_X2_nightsFor
  refine so_pick (L' := [(0, .ref this), (1, .int a1)]) X [0, 1] rfl ?_
  refine so_iconst (v := (-1 : Int32)) X (dkX2_nightsFor (0, .iconst (-1), 1) (pgm 0 rfl)) ic_m1 ?_
  refine so_istore_n (i := 2) X (dkX2_nightsFor (1, .istore_n 2, 1) (pgm 1 rfl)) rfl (by decide) (Lf := fun x1 => [(2, .int x1), (0, .ref this), (1, .int a1)]) (fun _ => rfl) (fun x1 => ?_)
  refine so_iload_n (i := 1) X 2 (dkX2_nightsFor (2, .iload_n 1, 1) (pgm 2 rfl)) rfl rfl ?_
  refine so_istore_n (i := 3) X (dkX2_nightsFor (3, .istore_n 3, 1) (pgm 3 rfl)) rfl (by decide) (Lf := fun x2 => [(3, .int x2), (2, .int x1), (0, .ref this), (1, .int a1)]) (fun _ => rfl) (fun x2 => ?_)
  refine so_pick (L' := [(0, .ref this), (1, .int a1), (2, .int x1), (3, .int x2)]) X [2, 3, 1, 0] rfl ?_
  refine so_loop (body := b_X2_nightsFor_4 this a1) (fun (s4 : Int32 × Int32) => [(0, .ref this), (1, .int a1), (2, .int s4.1), (3, .int s4.2)]) (fun rec4 hrec4 s4 hh4 => ?_) FU (x1, x2) h0
  unfold b_X2_nightsFor_4
  refine so_iload_n (i := 3) X 3 (dkX2_nightsFor (4, .iload_n 3, 1) (pgm 4 rfl)) rfl rfl ?_
  refine so_if_le (tgt := 61) X (dkX2_nightsFor (5, .ifCond .le 56, 3) (pgm 5 rfl)) rfl (fun _ => ?_) (fun _ => ?_)
  · refine so_iload_n (i := 2) X 2 (dkX2_nightsFor (61, .iload_n 2, 1) (pgm 41 rfl)) rfl rfl ?_
    exact so_iret X hr hlk (dkX2_nightsFor (62, .ireturn, 1) (pgm 42 rfl))
  · refine so_aload_n (i := 0) X 0 (dkX2_nightsFor (8, .aload_n 0, 1) (pgm 6 rfl)) rfl rfl ?_
    refine sf_getR X ff_2_6 lk_396 hk (dkX2_nightsFor (9, .getfield 18, 3) (pgm 7 rfl)) ?_
    refine so_iload_n (i := 1) X 1 (dkX2_nightsFor (12, .iload_n 1, 1) (pgm 8 rfl)) rfl rfl ?_
    refine so_iload_n (i := 3) X 3 (dkX2_nightsFor (13, .iload_n 3, 1) (pgm 9 rfl)) rfl rfl ?_
    refine so_iconst (v := (-1 : Int32)) X (dkX2_nightsFor (14, .iconst (-1), 1) (pgm 10 rfl)) ic_m1 ?_
    refine so_ixor X (dkX2_nightsFor (15, .ixor, 1) (pgm 11 rfl)) ?_
    refine so_iand X (dkX2_nightsFor (16, .iand, 1) (pgm 12 rfl)) ?_
    refine so_iald X (rk_2_6 this hk) (dkX2_nightsFor (17, .iaload, 1) (pgm 13 rfl)) (fun x3 => ?_)
    refine so_istore (i := 4) X (dkX2_nightsFor (18, .istore 4, 2) (pgm 14 rfl)) (by decide) (Lf := fun x4 => [(4, .int x4), (0, .ref this), (1, .int a1), (2, .int s4.1), (3, .int s4.2)]) (fun _ => rfl) (fun x4 => ?_)
    refine so_aload_n (i := 0) X 1 (dkX2_nightsFor (20, .aload_n 0, 1) (pgm 15 rfl)) rfl rfl ?_
    refine so_iload_n (i := 3) X 4 (dkX2_nightsFor (21, .iload_n 3, 1) (pgm 16 rfl)) rfl rfl ?_
    refine so_callV (n := 1) (As := [.int s4.2]) X (ct_X2_areTogether l this s4.2 hh4 hk) hk (by decide) rfl lk_700 lk_702 lk_5 lk_128 lk_703 (by decide +kernel) rfl rfl rfl (rm_ok (by omega) (by decide)) ⟨Nat.zero_le _, Nat.zero_le _⟩ (Nat.le_of_ble_eq_true rfl) (dkX2_nightsFor (22, .invokevirtual 86, 3) (pgm 17 rfl)) (fun r5 h6 => ?_) rfl
    refine so_join (jf := fun (y7 : Int32) (h8 : PH) => lt ((s4.2 - (1 : Int32)) &&& a1) (fun (x9 : Int32) => rec4 (y7, x9) h8)) (fun (j : Int32 → PH → Option (Int32 × PH)) => ∀ (y7 : Int32) (h8 : PH), SWo (QM mkI below args s D cA ad A) p l e (rmd 1) s m args below meth c 0 0 5 D cA ad A 52 [(0, .ref this), (1, .int a1), (2, .int y7), (3, .int s4.2)] [] h8 (j y7 h8)) ?_ (fun j52 hj52 => ?_)
    · intro y7 h8
      refine so_iload_n (i := 3) X 3 (dkX2_nightsFor (52, .iload_n 3, 1) (pgm 34 rfl)) rfl rfl ?_
      refine so_iconst (v := (1 : Int32)) X (dkX2_nightsFor (53, .iconst 1, 1) (pgm 35 rfl)) ic_1 ?_
      refine so_isub X (dkX2_nightsFor (54, .isub, 1) (pgm 36 rfl)) ?_
      refine so_iload_n (i := 1) X 1 (dkX2_nightsFor (55, .iload_n 1, 1) (pgm 37 rfl)) rfl rfl ?_
      refine so_iand X (dkX2_nightsFor (56, .iand, 1) (pgm 38 rfl)) ?_
      refine so_istore_n (i := 3) X (dkX2_nightsFor (57, .istore_n 3, 1) (pgm 39 rfl)) rfl (by decide) (Lf := fun x9 => [(3, .int x9), (0, .ref this), (1, .int a1), (2, .int y7)]) (fun _ => rfl) (fun x9 => ?_)
      refine so_goto (tgt := 4) X (dkX2_nightsFor (58, .goto (-54), 3) (pgm 40 rfl)) rfl ?_
      exact so_pick X [1, 2, 3, 0] rfl (hrec4 (y7, x9) h8)
    refine so_if_eq (tgt := 52) X (dkX2_nightsFor (25, .ifCond .eq 27, 3) (pgm 18 rfl)) rfl (fun _ => ?_) (fun _ => ?_)
    · exact so_pick X [1, 2, 3, 4] rfl (hj52 s4.1 h6)
    · refine so_iload (i := 4) X 0 (dkX2_nightsFor (28, .iload 4, 2) (pgm 19 rfl)) rfl ?_
      refine so_iconst (v := (-1 : Int32)) X (dkX2_nightsFor (30, .iconst (-1), 1) (pgm 20 rfl)) ic_m1 ?_
      refine so_icmp_eq (tgt := 52) X (dkX2_nightsFor (31, .if_icmp .eq 21, 3) (pgm 21 rfl)) rfl (fun _ => ?_) (fun _ => ?_)
      · exact so_pick X [1, 2, 3, 4] rfl (hj52 s4.1 h6)
      · refine so_iload_n (i := 2) X 3 (dkX2_nightsFor (34, .iload_n 2, 1) (pgm 22 rfl)) rfl rfl ?_
        refine so_iconst (v := (-1 : Int32)) X (dkX2_nightsFor (35, .iconst (-1), 1) (pgm 23 rfl)) ic_m1 ?_
        refine so_join (jf := fun (h10 : PH) => lt (x4 + (1 : Int32)) (fun (x11 : Int32) => j52 x11 h10)) (fun (j : PH → Option (Int32 × PH)) => ∀  (h10 : PH), SWo (QM mkI below args s D cA ad A) p l e (rmd 1) s m args below meth c 0 0 5 D cA ad A 47 [(0, .ref this), (1, .int a1), (3, .int s4.2), (4, .int x4)] [] h10 (j h10)) ?_ (fun j47 hj47 => ?_)
        · intro h10
          refine so_iload (i := 4) X 3 (dkX2_nightsFor (47, .iload 4, 2) (pgm 30 rfl)) rfl ?_
          refine so_iconst (v := (1 : Int32)) X (dkX2_nightsFor (49, .iconst 1, 1) (pgm 31 rfl)) ic_1 ?_
          refine so_iadd X (dkX2_nightsFor (50, .iadd, 1) (pgm 32 rfl)) ?_
          refine so_istore_n (i := 2) X (dkX2_nightsFor (51, .istore_n 2, 1) (pgm 33 rfl)) rfl (by decide) (Lf := fun x11 => [(2, .int x11), (0, .ref this), (1, .int a1), (3, .int s4.2), (4, .int x4)]) (fun _ => rfl) (fun x11 => ?_)
          exact so_pick X [1, 2, 0, 3] rfl (hj52 x11 h10)
        refine so_icmp_eq (tgt := 47) X (dkX2_nightsFor (36, .if_icmp .eq 11, 3) (pgm 24 rfl)) rfl (fun _ => ?_) (fun _ => ?_)
        · exact so_pick X [1, 2, 4, 0] rfl (hj47 h6)
        · refine so_iload (i := 4) X 0 (dkX2_nightsFor (39, .iload 4, 2) (pgm 25 rfl)) rfl ?_
          refine so_iconst (v := (1 : Int32)) X (dkX2_nightsFor (41, .iconst 1, 1) (pgm 26 rfl)) ic_1 ?_
          refine so_iadd X (dkX2_nightsFor (42, .iadd, 1) (pgm 27 rfl)) ?_
          refine so_iload_n (i := 2) X 3 (dkX2_nightsFor (43, .iload_n 2, 1) (pgm 28 rfl)) rfl rfl ?_
          refine so_icmp_ge (tgt := 52) X (dkX2_nightsFor (44, .if_icmp .ge 8, 3) (pgm 29 rfl)) rfl (fun _ => ?_) (fun _ => ?_)
          · exact so_pick X [1, 2, 3, 4] rfl (hj52 s4.1 h6)
          · exact so_pick X [1, 2, 4, 0] rfl (hj47 h6)
def pgX2_givenUpFor : List (Nat × Instr × Nat) := [(0, .aload_n 0, 1), (1, .iconst 1, 1), (2, .iload_n 1, 1), (3, .ishl, 1), (4, .invokevirtual 86, 3), (7, .ifCond .ne 5, 3), (10, .iconst (-1), 1), (11, .ireturn, 1), (12, .aload_n 0, 1), (13, .getfield 37, 3), (16, .aload_n 0, 1), (17, .getfield 21, 3), (20, .getfield 96, 3), (23, .iconst (-1), 1), (24, .ixor, 1), (25, .iand, 1), (26, .iconst 1, 1), (27, .iload_n 1, 1), (28, .ishl, 1), (29, .iconst (-1), 1), (30, .ixor, 1), (31, .iand, 1), (32, .istore_n 2, 1), (33, .iconst (-1), 1), (34, .istore_n 3, 1), (35, .iconst 0, 1), (36, .istore 4, 2), (38, .iload 4, 2), (40, .iload_n 2, 1), (41, .if_icmp .gt 54, 3), (44, .iload 4, 2), (46, .iload_n 2, 1), (47, .iconst (-1), 1), (48, .ixor, 1), (49, .iand, 1), (50, .ifCond .ne 39, 3), (53, .aload_n 0, 1), (54, .aload_n 0, 1), (55, .getfield 37, 3), (58, .iload 4, 2), (60, .iconst (-1), 1), (61, .ixor, 1), (62, .iand, 1), (63, .invokevirtual 86, 3), (66, .ifCond .eq 23, 3), (69, .iload_n 3, 1), (70, .iconst (-1), 1), (71, .if_icmp .eq 15, 3), (74, .iload 4, 2), (76, .invokestatic 80, 3), (79, .iload_n 3, 1), (80, .invokestatic 80, 3), (83, .if_icmp .ge 6, 3), (86, .iload 4, 2), (88, .istore_n 3, 1), (89, .iinc 4 1, 3), (92, .goto (-54), 3), (95, .iload_n 3, 1), (96, .ireturn, 1)]
theorem dkX2_givenUpFor : ∀ q ∈ pgX2_givenUpFor, decode cX2_givenUpFor q.1 = .ok q.2 := by decide +kernel
def b_X2_givenUpFor_38 (this : Nat) (x3 : Int32) (rec38 : (Int32 × Int32) → PH → Option (Int32 × PH)) (s38 : Int32 × Int32) (hh38 : PH) : Option (Int32 × PH) :=
  if x3 < s38.2 then (some (s38.1, hh38)) else (lt (fun (y6 : Int32) (h7 : PH) => lt (s38.2 + Int32.ofInt 1) (fun (x8 : Int32) => rec38 (y6, x8) h7)) (fun (j89 : Int32 → PH → Option (Int32 × PH)) => if (s38.2 &&& (x3 ^^^ (-1 : Int32))) = 0 then (cb (f_X2_areTogether this ((hh38.1 this 7) &&& (s38.2 ^^^ (-1 : Int32))) hh38) (fun (r9 : Int32) (h10 : PH) => if r9 = 0 then (j89 s38.1 h10) else (lt (fun (h11 : PH) => lt s38.2 (fun (x12 : Int32) => j89 x12 h11)) (fun (j86 : PH → Option (Int32 × PH)) => if s38.1 = (-1 : Int32) then (j86 h10) else (cb (f_J6_bitCount_0f7a4 s38.2 h10) (fun (r13 : Int32) (h14 : PH) => cb (f_J6_bitCount_0f7a4 s38.1 h14) (fun (r15 : Int32) (h16 : PH) => if r15 ≤ r13 then (j89 s38.1 h16) else (j86 h16)))))))) else (j89 s38.1 hh38)))
def f_X2_givenUpFor (this : Nat) (a1 : Int32) (h0 : PH) : Option (Int32 × PH) :=
  cb (f_X2_areTogether this ((1 : Int32) <<< (a1 &&& 31)) h0) (fun (r1 : Int32) (h2 : PH) => if r1 = 0 then (some ((-1 : Int32), h2)) else (lt (((h2.1 this 7) &&& ((h2.1 (rt this 0) 6) ^^^ (-1 : Int32))) &&& (((1 : Int32) <<< (a1 &&& 31)) ^^^ (-1 : Int32))) (fun (x3 : Int32) => lt (-1 : Int32) (fun (x4 : Int32) => lt (0 : Int32) (fun (x5 : Int32) => lp (b_X2_givenUpFor_38 this x3) FU (x4, x5) h2)))))
set_option maxRecDepth 100000 in
set_option maxHeartbeats 4000000 in
theorem ct_X2_givenUpFor (l : Launch) (this : Nat) (a1 : Int32) (h0 : PH) (hk : (kd this).1 = 2) : CT mkI l yX2_givenUpFor cX2_givenUpFor 5 (some .int) (rmd 1) [.ref this, .int a1] h0 (f_X2_givenUpFor this a1 h0) := by
  refine ct_of (by decide) (Nat.le_of_ble_eq_true rfl) ?_
  intro p e s m args below meth c D cA ad A X hr hlk
  have X : Cx p s m args c RX2 cX2_givenUpFor 5 D cA ad A := X
  unfold f_X2_givenUpFor
  refine so_pick (L' := [(0, .ref this), (1, .int a1)]) X [0, 1] rfl ?_
  refine so_aload_n (i := 0) X 0 (dkX2_givenUpFor (0, .aload_n 0, 1) (pgm 0 rfl)) rfl rfl ?_
  refine so_iconst (v := (1 : Int32)) X (dkX2_givenUpFor (1, .iconst 1, 1) (pgm 1 rfl)) ic_1 ?_
  refine so_iload_n (i := 1) X 1 (dkX2_givenUpFor (2, .iload_n 1, 1) (pgm 2 rfl)) rfl rfl ?_
  refine so_ishl X (dkX2_givenUpFor (3, .ishl, 1) (pgm 3 rfl)) ?_
  refine so_callV (n := 1) (As := [.int ((1 : Int32) <<< (a1 &&& 31))]) X (ct_X2_areTogether l this ((1 : Int32) <<< (a1 &&& 31)) h0 hk) hk (by decide) rfl lk_700 lk_702 lk_5 lk_128 lk_703 (by decide +kernel) rfl rfl rfl (rm_ok (by omega) (by decide)) ⟨Nat.zero_le _, Nat.zero_le _⟩ (Nat.le_of_ble_eq_true rfl) (dkX2_givenUpFor (4, .invokevirtual 86, 3) (pgm 4 rfl)) (fun r1 h2 => ?_) rfl
  refine so_if_ne (tgt := 12) X (dkX2_givenUpFor (7, .ifCond .ne 5, 3) (pgm 5 rfl)) rfl (fun _ => ?_) (fun _ => ?_)
  · refine so_aload_n (i := 0) X 0 (dkX2_givenUpFor (12, .aload_n 0, 1) (pgm 8 rfl)) rfl rfl ?_
    refine sf_getI X ff_2_7 lk_397 hk (dkX2_givenUpFor (13, .getfield 37, 3) (pgm 9 rfl)) ?_
    refine so_aload_n (i := 0) X 0 (dkX2_givenUpFor (16, .aload_n 0, 1) (pgm 10 rfl)) rfl rfl ?_
    refine sf_getR X ff_2_0 lk_386 hk (dkX2_givenUpFor (17, .getfield 21, 3) (pgm 11 rfl)) ?_
    refine sf_getI X ff_8_6 lk_192 (fo (rk_2_0 this hk)) (dkX2_givenUpFor (20, .getfield 96, 3) (pgm 12 rfl)) ?_
    refine so_iconst (v := (-1 : Int32)) X (dkX2_givenUpFor (23, .iconst (-1), 1) (pgm 13 rfl)) ic_m1 ?_
    refine so_ixor X (dkX2_givenUpFor (24, .ixor, 1) (pgm 14 rfl)) ?_
    refine so_iand X (dkX2_givenUpFor (25, .iand, 1) (pgm 15 rfl)) ?_
    refine so_iconst (v := (1 : Int32)) X (dkX2_givenUpFor (26, .iconst 1, 1) (pgm 16 rfl)) ic_1 ?_
    refine so_iload_n (i := 1) X 1 (dkX2_givenUpFor (27, .iload_n 1, 1) (pgm 17 rfl)) rfl rfl ?_
    refine so_ishl X (dkX2_givenUpFor (28, .ishl, 1) (pgm 18 rfl)) ?_
    refine so_iconst (v := (-1 : Int32)) X (dkX2_givenUpFor (29, .iconst (-1), 1) (pgm 19 rfl)) ic_m1 ?_
    refine so_ixor X (dkX2_givenUpFor (30, .ixor, 1) (pgm 20 rfl)) ?_
    refine so_iand X (dkX2_givenUpFor (31, .iand, 1) (pgm 21 rfl)) ?_
    refine so_istore_n (i := 2) X (dkX2_givenUpFor (32, .istore_n 2, 1) (pgm 22 rfl)) rfl (by decide) (Lf := fun x3 => [(2, .int x3), (0, .ref this), (1, .int a1)]) (fun _ => rfl) (fun x3 => ?_)
    refine so_iconst (v := (-1 : Int32)) X (dkX2_givenUpFor (33, .iconst (-1), 1) (pgm 23 rfl)) ic_m1 ?_
    refine so_istore_n (i := 3) X (dkX2_givenUpFor (34, .istore_n 3, 1) (pgm 24 rfl)) rfl (by decide) (Lf := fun x4 => [(3, .int x4), (2, .int x3), (0, .ref this), (1, .int a1)]) (fun _ => rfl) (fun x4 => ?_)
    refine so_iconst (v := (0 : Int32)) X (dkX2_givenUpFor (35, .iconst 0, 1) (pgm 25 rfl)) ic_0 ?_
    refine so_istore (i := 4) X (dkX2_givenUpFor (36, .istore 4, 2) (pgm 26 rfl)) (by decide) (Lf := fun x5 => [(4, .int x5), (3, .int x4), (2, .int x3), (0, .ref this), (1, .int a1)]) (fun _ => rfl) (fun x5 => ?_)
    refine so_pick (L' := [(0, .ref this), (2, .int x3), (3, .int x4), (4, .int x5)]) X [3, 2, 1, 0] rfl ?_
    refine so_loop (body := b_X2_givenUpFor_38 this x3) (fun (s38 : Int32 × Int32) => [(0, .ref this), (2, .int x3), (3, .int s38.1), (4, .int s38.2)]) (fun rec38 hrec38 s38 hh38 => ?_) FU (x4, x5) h2
    unfold b_X2_givenUpFor_38
    refine so_iload (i := 4) X 3 (dkX2_givenUpFor (38, .iload 4, 2) (pgm 27 rfl)) rfl ?_
    refine so_iload_n (i := 2) X 1 (dkX2_givenUpFor (40, .iload_n 2, 1) (pgm 28 rfl)) rfl rfl ?_
    refine so_icmp_gt (tgt := 95) X (dkX2_givenUpFor (41, .if_icmp .gt 54, 3) (pgm 29 rfl)) rfl (fun _ => ?_) (fun _ => ?_)
    · refine so_iload_n (i := 3) X 2 (dkX2_givenUpFor (95, .iload_n 3, 1) (pgm 57 rfl)) rfl rfl ?_
      exact so_iret X hr hlk (dkX2_givenUpFor (96, .ireturn, 1) (pgm 58 rfl))
    · refine so_iload (i := 4) X 3 (dkX2_givenUpFor (44, .iload 4, 2) (pgm 30 rfl)) rfl ?_
      refine so_iload_n (i := 2) X 1 (dkX2_givenUpFor (46, .iload_n 2, 1) (pgm 31 rfl)) rfl rfl ?_
      refine so_iconst (v := (-1 : Int32)) X (dkX2_givenUpFor (47, .iconst (-1), 1) (pgm 32 rfl)) ic_m1 ?_
      refine so_ixor X (dkX2_givenUpFor (48, .ixor, 1) (pgm 33 rfl)) ?_
      refine so_iand X (dkX2_givenUpFor (49, .iand, 1) (pgm 34 rfl)) ?_
      refine so_join (jf := fun (y6 : Int32) (h7 : PH) => lt (s38.2 + Int32.ofInt 1) (fun (x8 : Int32) => rec38 (y6, x8) h7)) (fun (j : Int32 → PH → Option (Int32 × PH)) => ∀ (y6 : Int32) (h7 : PH), SWo (QM mkI below args s D cA ad A) p l e (rmd 1) s m args below meth c 0 0 5 D cA ad A 89 [(0, .ref this), (2, .int x3), (3, .int y6), (4, .int s38.2)] [] h7 (j y6 h7)) ?_ (fun j89 hj89 => ?_)
      · intro y6 h7
        refine so_iinc (i := 4) X 3 (dkX2_givenUpFor (89, .iinc 4 1, 3) (pgm 55 rfl)) rfl rfl (by decide) (Lf := fun x8 => [(4, .int x8), (0, .ref this), (2, .int x3), (3, .int y6)]) (fun _ => rfl) (fun x8 => ?_)
        refine so_goto (tgt := 38) X (dkX2_givenUpFor (92, .goto (-54), 3) (pgm 56 rfl)) rfl ?_
        exact so_pick X [1, 2, 3, 0] rfl (hrec38 (y6, x8) h7)
      refine so_if_ne (tgt := 89) X (dkX2_givenUpFor (50, .ifCond .ne 39, 3) (pgm 35 rfl)) rfl (fun _ => ?_) (fun _ => ?_)
      · exact so_pick X [0, 1, 2, 3] rfl (hj89 s38.1 hh38)
      · refine so_aload_n (i := 0) X 0 (dkX2_givenUpFor (53, .aload_n 0, 1) (pgm 36 rfl)) rfl rfl ?_
        refine so_aload_n (i := 0) X 0 (dkX2_givenUpFor (54, .aload_n 0, 1) (pgm 37 rfl)) rfl rfl ?_
        refine sf_getI X ff_2_7 lk_397 hk (dkX2_givenUpFor (55, .getfield 37, 3) (pgm 38 rfl)) ?_
        refine so_iload (i := 4) X 3 (dkX2_givenUpFor (58, .iload 4, 2) (pgm 39 rfl)) rfl ?_
        refine so_iconst (v := (-1 : Int32)) X (dkX2_givenUpFor (60, .iconst (-1), 1) (pgm 40 rfl)) ic_m1 ?_
        refine so_ixor X (dkX2_givenUpFor (61, .ixor, 1) (pgm 41 rfl)) ?_
        refine so_iand X (dkX2_givenUpFor (62, .iand, 1) (pgm 42 rfl)) ?_
        refine so_callV (n := 1) (As := [.int ((hh38.1 this 7) &&& (s38.2 ^^^ (-1 : Int32)))]) X (ct_X2_areTogether l this ((hh38.1 this 7) &&& (s38.2 ^^^ (-1 : Int32))) hh38 hk) hk (by decide) rfl lk_700 lk_702 lk_5 lk_128 lk_703 (by decide +kernel) rfl rfl rfl (rm_ok (by omega) (by decide)) ⟨Nat.zero_le _, Nat.zero_le _⟩ (Nat.le_of_ble_eq_true rfl) (dkX2_givenUpFor (63, .invokevirtual 86, 3) (pgm 43 rfl)) (fun r9 h10 => ?_) rfl
        refine so_if_eq (tgt := 89) X (dkX2_givenUpFor (66, .ifCond .eq 23, 3) (pgm 44 rfl)) rfl (fun _ => ?_) (fun _ => ?_)
        · exact so_pick X [0, 1, 2, 3] rfl (hj89 s38.1 h10)
        · refine so_iload_n (i := 3) X 2 (dkX2_givenUpFor (69, .iload_n 3, 1) (pgm 45 rfl)) rfl rfl ?_
          refine so_iconst (v := (-1 : Int32)) X (dkX2_givenUpFor (70, .iconst (-1), 1) (pgm 46 rfl)) ic_m1 ?_
          refine so_join (jf := fun (h11 : PH) => lt s38.2 (fun (x12 : Int32) => j89 x12 h11)) (fun (j : PH → Option (Int32 × PH)) => ∀  (h11 : PH), SWo (QM mkI below args s D cA ad A) p l e (rmd 1) s m args below meth c 0 0 5 D cA ad A 86 [(0, .ref this), (2, .int x3), (4, .int s38.2)] [] h11 (j h11)) ?_ (fun j86 hj86 => ?_)
          · intro h11
            refine so_iload (i := 4) X 2 (dkX2_givenUpFor (86, .iload 4, 2) (pgm 53 rfl)) rfl ?_
            refine so_istore_n (i := 3) X (dkX2_givenUpFor (88, .istore_n 3, 1) (pgm 54 rfl)) rfl (by decide) (Lf := fun x12 => [(3, .int x12), (0, .ref this), (2, .int x3), (4, .int s38.2)]) (fun _ => rfl) (fun x12 => ?_)
            exact so_pick X [1, 2, 0, 3] rfl (hj89 x12 h11)
          refine so_icmp_eq (tgt := 86) X (dkX2_givenUpFor (71, .if_icmp .eq 15, 3) (pgm 47 rfl)) rfl (fun _ => ?_) (fun _ => ?_)
          · exact so_pick X [0, 1, 3] rfl (hj86 h10)
          · refine so_iload (i := 4) X 3 (dkX2_givenUpFor (74, .iload 4, 2) (pgm 48 rfl)) rfl ?_
            refine so_callS (n := 1) (As := [.int s38.2]) X (ct_J6_bitCount_0f7a4 l s38.2 h10 ) lk_683 lk_635 lk_147 lk_636 (by decide +kernel) rfl rfl rfl (rm_ok (by omega) (by decide)) ⟨Nat.zero_le _, Nat.zero_le _⟩ (Nat.le_of_ble_eq_true rfl) (dkX2_givenUpFor (76, .invokestatic 80, 3) (pgm 49 rfl)) (fun r13 h14 => ?_) rfl
            refine so_iload_n (i := 3) X 2 (dkX2_givenUpFor (79, .iload_n 3, 1) (pgm 50 rfl)) rfl rfl ?_
            refine so_callS (n := 1) (As := [.int s38.1]) X (ct_J6_bitCount_0f7a4 l s38.1 h14 ) lk_683 lk_635 lk_147 lk_636 (by decide +kernel) rfl rfl rfl (rm_ok (by omega) (by decide)) ⟨Nat.zero_le _, Nat.zero_le _⟩ (Nat.le_of_ble_eq_true rfl) (dkX2_givenUpFor (80, .invokestatic 80, 3) (pgm 51 rfl)) (fun r15 h16 => ?_) rfl
            refine so_icmp_ge (tgt := 89) X (dkX2_givenUpFor (83, .if_icmp .ge 6, 3) (pgm 52 rfl)) rfl (fun _ => ?_) (fun _ => ?_)
            · exact so_pick X [0, 1, 2, 3] rfl (hj89 s38.1 h16)
            · exact so_pick X [0, 1, 3] rfl (hj86 h16)
  · refine so_iconst (v := (-1 : Int32)) X (dkX2_givenUpFor (10, .iconst (-1), 1) (pgm 6 rfl)) ic_m1 ?_
    exact so_iret X hr hlk (dkX2_givenUpFor (11, .ireturn, 1) (pgm 7 rfl))
def pgX2_power : List (Nat × Instr × Nat) := [(0, .lconst 1, 1), (1, .lstore_n 2, 1), (2, .iconst 0, 1), (3, .istore 4, 2), (5, .iload 4, 2), (7, .iload_n 1, 1), (8, .if_icmp .ge 14, 3), (11, .lload_n 2, 1), (12, .iload_n 0, 1), (13, .i2l, 1), (14, .lmul, 1), (15, .lstore_n 2, 1), (16, .iinc 4 1, 3), (19, .goto (-14), 3), (22, .lload_n 2, 1), (23, .lreturn, 1)]
theorem dkX2_power : ∀ q ∈ pgX2_power, decode cX2_power q.1 = .ok q.2 := by decide +kernel
def b_X2_power_5 (a1 : Int32) (a2 : Int32) (rec5 : (Int64 × Int32) → PH → Option (Int64 × PH)) (s5 : Int64 × Int32) (hh5 : PH) : Option (Int64 × PH) :=
  if a2 ≤ s5.2 then (some (s5.1, hh5)) else (lt (s5.1 * a1.toInt64) (fun (x3 : Int64) => lt (s5.2 + Int32.ofInt 1) (fun (x4 : Int32) => rec5 (x3, x4) hh5)))
def f_X2_power (a1 : Int32) (a2 : Int32) (h0 : PH) : Option (Int64 × PH) :=
  lt (1 : Int64) (fun (x1 : Int64) => lt (0 : Int32) (fun (x2 : Int32) => lp (b_X2_power_5 a1 a2) FU (x1, x2) h0))
set_option maxRecDepth 100000 in
set_option maxHeartbeats 4000000 in
theorem ct_X2_power (l : Launch) (a1 : Int32) (a2 : Int32) (h0 : PH)  : CT mkL l yX2_power cX2_power 5 (some .long) (rmd 0) [.int a1, .int a2] h0 (f_X2_power a1 a2 h0) := by
  refine ct_of (by decide) (Nat.le_of_ble_eq_true rfl) ?_
  intro p e s m args below meth c D cA ad A X hr hlk
  have X : Cx p s m args c RX2 cX2_power 5 D cA ad A := X
  unfold f_X2_power
  refine so_pick (L' := [(0, .int a1), (1, .int a2)]) X [0, 1] rfl ?_
  refine so_lconst (v := (1 : Int64)) X (dkX2_power (0, .lconst 1, 1) (pgm 0 rfl)) lc_1 ?_
  refine so_lstore_n (i := 2) X (dkX2_power (1, .lstore_n 2, 1) (pgm 1 rfl)) rfl (by decide) (Lf := fun x1 => [(2, .long x1), (0, .int a1), (1, .int a2)]) (fun _ => rfl) (fun x1 => ?_)
  refine so_iconst (v := (0 : Int32)) X (dkX2_power (2, .iconst 0, 1) (pgm 2 rfl)) ic_0 ?_
  refine so_istore (i := 4) X (dkX2_power (3, .istore 4, 2) (pgm 3 rfl)) (by decide) (Lf := fun x2 => [(4, .int x2), (2, .long x1), (0, .int a1), (1, .int a2)]) (fun _ => rfl) (fun x2 => ?_)
  refine so_pick (L' := [(0, .int a1), (1, .int a2), (2, .long x1), (4, .int x2)]) X [2, 3, 1, 0] rfl ?_
  refine so_loop (body := b_X2_power_5 a1 a2) (fun (s5 : Int64 × Int32) => [(0, .int a1), (1, .int a2), (2, .long s5.1), (4, .int s5.2)]) (fun rec5 hrec5 s5 hh5 => ?_) FU (x1, x2) h0
  unfold b_X2_power_5
  refine so_iload (i := 4) X 3 (dkX2_power (5, .iload 4, 2) (pgm 4 rfl)) rfl ?_
  refine so_iload_n (i := 1) X 1 (dkX2_power (7, .iload_n 1, 1) (pgm 5 rfl)) rfl rfl ?_
  refine so_icmp_ge (tgt := 22) X (dkX2_power (8, .if_icmp .ge 14, 3) (pgm 6 rfl)) rfl (fun _ => ?_) (fun _ => ?_)
  · refine so_lload_n (i := 2) X 2 (dkX2_power (22, .lload_n 2, 1) (pgm 14 rfl)) rfl rfl ?_
    exact so_lret X hr hlk (dkX2_power (23, .lreturn, 1) (pgm 15 rfl))
  · refine so_lload_n (i := 2) X 2 (dkX2_power (11, .lload_n 2, 1) (pgm 7 rfl)) rfl rfl ?_
    refine so_iload_n (i := 0) X 0 (dkX2_power (12, .iload_n 0, 1) (pgm 8 rfl)) rfl rfl ?_
    refine so_i2l X (dkX2_power (13, .i2l, 1) (pgm 9 rfl)) ?_
    refine so_lmul X (dkX2_power (14, .lmul, 1) (pgm 10 rfl)) ?_
    refine so_lstore_n (i := 2) X (dkX2_power (15, .lstore_n 2, 1) (pgm 11 rfl)) rfl (by decide) (Lf := fun x3 => [(2, .long x3), (0, .int a1), (1, .int a2), (4, .int s5.2)]) (fun _ => rfl) (fun x3 => ?_)
    refine so_iinc (i := 4) X 3 (dkX2_power (16, .iinc 4 1, 3) (pgm 12 rfl)) rfl rfl (by decide) (Lf := fun x4 => [(4, .int x4), (2, .long x3), (0, .int a1), (1, .int a2)]) (fun _ => rfl) (fun x4 => ?_)
    refine so_goto (tgt := 5) X (dkX2_power (19, .goto (-14), 3) (pgm 13 rfl)) rfl ?_
    exact so_pick X [2, 3, 1, 0] rfl (hrec5 (x3, x4) hh5)
def pgX3_forget : List (Nat × Instr × Nat) := [(0, .aload_n 0, 1), (1, .getfield 9, 3), (4, .iconst (-1), 1), (5, .invokestatic 22, 3), (8, .return_, 1)]
theorem dkX3_forget : ∀ q ∈ pgX3_forget, decode cX3_forget q.1 = .ok q.2 := by decide +kernel
def f_X3_forget (this : Nat) (h0 : PH) : Option (Unit × PH) :=
  cb (f_J7_fill_53178 (rt this 1) 4096 (-1 : Int32) h0) (fun (r1 : Unit) (h2 : PH) => some ((), h2))
set_option maxRecDepth 100000 in
set_option maxHeartbeats 4000000 in
theorem ct_X3_forget (l : Launch) (this : Nat) (h0 : PH) (hk : (kd this).1 = 3) : CT mkV l yX3_forget cX3_forget 1 none (rmd 1) [.ref this] h0 (f_X3_forget this h0) := by
  refine ct_of (by decide) (Nat.le_of_ble_eq_true rfl) ?_
  intro p e s m args below meth c D cA ad A X hr hlk
  have X : Cx p s m args c RX3 cX3_forget 1 D cA ad A := X
  unfold f_X3_forget
  refine so_pick (L' := [(0, .ref this)]) X [0] rfl ?_
  refine so_aload_n (i := 0) X 0 (dkX3_forget (0, .aload_n 0, 1) (pgm 0 rfl)) rfl rfl ?_
  refine sf_getR X ff_3_1 lk_371 hk (dkX3_forget (1, .getfield 9, 3) (pgm 1 rfl)) ?_
  refine so_iconst (v := (-1 : Int32)) X (dkX3_forget (4, .iconst (-1), 1) (pgm 2 rfl)) ic_m1 ?_
  refine so_callS (n := 2) (As := [.ref (rt this 1), .int (-1 : Int32)]) X (ct_J7_fill_53178 l (rt this 1) 4096 (-1 : Int32) h0 (rk_3_1 this hk)) lk_367 lk_368 lk_127 lk_369 (by decide +kernel) rfl rfl rfl (rm_ok (by omega) (by decide)) ⟨Nat.zero_le _, Nat.zero_le _⟩ (Nat.le_of_ble_eq_true rfl) (dkX3_forget (5, .invokestatic 22, 3) (pgm 3 rfl)) (fun r1 h2 => ?_) rfl
  exact so_vret X hr hlk (dkX3_forget (8, .return_, 1) (pgm 4 rfl))
def pgX3_reckon : List (Nat × Instr × Nat) := [(0, .iload_n 0, 1), (1, .tableswitch 99 2 9 #[47, 51, 99, 55, 67, 79, 91, 95], 47), (48, .lload_n 1, 1), (49, .lload_n 3, 1), (50, .lor, 1), (51, .lreturn, 1), (52, .lload_n 1, 1), (53, .lload_n 3, 1), (54, .land, 1), (55, .lreturn, 1), (56, .lload_n 1, 1), (57, .lload_n 3, 1), (58, .lcmp, 1), (59, .ifCond .ne 7, 3), (62, .lconst 1, 1), (63, .goto 4, 3), (66, .lconst 0, 1), (67, .lreturn, 1), (68, .lload_n 1, 1), (69, .lload_n 3, 1), (70, .lcmp, 1), (71, .ifCond .ge 7, 3), (74, .lconst 1, 1), (75, .goto 4, 3), (78, .lconst 0, 1), (79, .lreturn, 1), (80, .lload_n 1, 1), (81, .lload_n 3, 1), (82, .lcmp, 1), (83, .ifCond .le 7, 3), (86, .lconst 1, 1), (87, .goto 4, 3), (90, .lconst 0, 1), (91, .lreturn, 1), (92, .lload_n 1, 1), (93, .lload_n 3, 1), (94, .ladd, 1), (95, .lreturn, 1), (96, .lload_n 1, 1), (97, .lload_n 3, 1), (98, .lsub, 1), (99, .lreturn, 1), (100, .lload_n 1, 1), (101, .lload_n 3, 1), (102, .lmul, 1), (103, .lreturn, 1)]
theorem dkX3_reckon : ∀ q ∈ pgX3_reckon, decode cX3_reckon q.1 = .ok q.2 := by decide +kernel
def f_X3_reckon (a1 : Int32) (a2 : Int64) (a3 : Int64) (h0 : PH) : Option (Int64 × PH) :=
  lt (fun (h1 : PH) => some ((a2 * a3), h1)) (fun (j100 : PH → Option (Int64 × PH)) => if a1.toInt < 2 ∨ 9 < a1.toInt then (j100 h0) else ([some ((a2 ||| a3), h0), some ((a2 &&& a3), h0), j100 h0, lt (fun (t2 : Int64) (h3 : PH) => some (t2, h3)) (fun (j67 : Int64 → PH → Option (Int64 × PH)) => if (lg_cmp a2 a3) = 0 then (j67 (1 : Int64) h0) else (j67 (0 : Int64) h0)), lt (fun (t4 : Int64) (h5 : PH) => some (t4, h5)) (fun (j79 : Int64 → PH → Option (Int64 × PH)) => if 0 ≤ (lg_cmp a2 a3) then (j79 (0 : Int64) h0) else (j79 (1 : Int64) h0)), lt (fun (t6 : Int64) (h7 : PH) => some (t6, h7)) (fun (j91 : Int64 → PH → Option (Int64 × PH)) => if (lg_cmp a2 a3) ≤ 0 then (j91 (0 : Int64) h0) else (j91 (1 : Int64) h0)), some ((a2 + a3), h0), some ((a2 - a3), h0)] : List (Option (Int64 × PH))).getD (a1.toInt - 2).toNat none)
set_option maxRecDepth 100000 in
set_option maxHeartbeats 4000000 in
theorem ct_X3_reckon (l : Launch) (a1 : Int32) (a2 : Int64) (a3 : Int64) (h0 : PH)  : CT mkL l yX3_reckon cX3_reckon 5 (some .long) (rmd 0) [.int a1, .long a2, .long a3] h0 (f_X3_reckon a1 a2 a3 h0) := by
  refine ct_of (by decide) (Nat.le_of_ble_eq_true rfl) ?_
  intro p e s m args below meth c D cA ad A X hr hlk
  have X : Cx p s m args c RX3 cX3_reckon 5 D cA ad A := X
  unfold f_X3_reckon
  refine so_pick (L' := [(0, .int a1), (1, .long a2), (3, .long a3)]) X [0, 1, 2] rfl ?_
  refine so_iload_n (i := 0) X 0 (dkX3_reckon (0, .iload_n 0, 1) (pgm 0 rfl)) rfl rfl ?_
  refine so_join (jf := fun (h1 : PH) => some ((a2 * a3), h1)) (fun (j : PH → Option (Int64 × PH)) => ∀  (h1 : PH), SWo (QM mkL below args s D cA ad A) p l e (rmd 0) s m args below meth c 0 0 5 D cA ad A 100 [(1, .long a2), (3, .long a3)] [] h1 (j h1)) ?_ (fun j100 hj100 => ?_)
  · intro h1
    refine so_lload_n (i := 1) X 0 (dkX3_reckon (100, .lload_n 1, 1) (pgm 42 rfl)) rfl rfl ?_
    refine so_lload_n (i := 3) X 1 (dkX3_reckon (101, .lload_n 3, 1) (pgm 43 rfl)) rfl rfl ?_
    refine so_lmul X (dkX3_reckon (102, .lmul, 1) (pgm 44 rfl)) ?_
    exact so_lret X hr hlk (dkX3_reckon (103, .lreturn, 1) (pgm 45 rfl))
  refine so_tsw (tgt := 100) (os := [some ((a2 ||| a3), h0), some ((a2 &&& a3), h0), j100 h0, lt (fun (t2 : Int64) (h3 : PH) => some (t2, h3)) (fun (j67 : Int64 → PH → Option (Int64 × PH)) => if (lg_cmp a2 a3) = 0 then (j67 (1 : Int64) h0) else (j67 (0 : Int64) h0)), lt (fun (t4 : Int64) (h5 : PH) => some (t4, h5)) (fun (j79 : Int64 → PH → Option (Int64 × PH)) => if 0 ≤ (lg_cmp a2 a3) then (j79 (0 : Int64) h0) else (j79 (1 : Int64) h0)), lt (fun (t6 : Int64) (h7 : PH) => some (t6, h7)) (fun (j91 : Int64 → PH → Option (Int64 × PH)) => if (lg_cmp a2 a3) ≤ 0 then (j91 (0 : Int64) h0) else (j91 (1 : Int64) h0)), some ((a2 + a3), h0), some ((a2 - a3), h0)]) X (dkX3_reckon (1, .tableswitch 99 2 9 #[47, 51, 99, 55, 67, 79, 91, 95], 47) (pgm 1 rfl)) rfl ?_ ?_ rfl
  · exact so_pick X [1, 2] rfl (hj100 h0)
  · intro kq ok hkq
    match kq, hkq with
    | 0, hkq =>
      obtain rfl := Option.some.inj hkq
      refine ⟨47, 48, rfl, rfl, ?_⟩
      refine so_lload_n (i := 1) X 1 (dkX3_reckon (48, .lload_n 1, 1) (pgm 2 rfl)) rfl rfl ?_
      refine so_lload_n (i := 3) X 2 (dkX3_reckon (49, .lload_n 3, 1) (pgm 3 rfl)) rfl rfl ?_
      refine so_lor X (dkX3_reckon (50, .lor, 1) (pgm 4 rfl)) ?_
      exact so_lret X hr hlk (dkX3_reckon (51, .lreturn, 1) (pgm 5 rfl))
    | 1, hkq =>
      obtain rfl := Option.some.inj hkq
      refine ⟨51, 52, rfl, rfl, ?_⟩
      refine so_lload_n (i := 1) X 1 (dkX3_reckon (52, .lload_n 1, 1) (pgm 6 rfl)) rfl rfl ?_
      refine so_lload_n (i := 3) X 2 (dkX3_reckon (53, .lload_n 3, 1) (pgm 7 rfl)) rfl rfl ?_
      refine so_land X (dkX3_reckon (54, .land, 1) (pgm 8 rfl)) ?_
      exact so_lret X hr hlk (dkX3_reckon (55, .lreturn, 1) (pgm 9 rfl))
    | 2, hkq =>
      obtain rfl := Option.some.inj hkq
      refine ⟨99, 100, rfl, rfl, ?_⟩
      exact so_pick X [1, 2] rfl (hj100 h0)
    | 3, hkq =>
      obtain rfl := Option.some.inj hkq
      refine ⟨55, 56, rfl, rfl, ?_⟩
      refine so_lload_n (i := 1) X 1 (dkX3_reckon (56, .lload_n 1, 1) (pgm 10 rfl)) rfl rfl ?_
      refine so_lload_n (i := 3) X 2 (dkX3_reckon (57, .lload_n 3, 1) (pgm 11 rfl)) rfl rfl ?_
      refine so_lcmp X (dkX3_reckon (58, .lcmp, 1) (pgm 12 rfl)) ?_
      refine so_join (jf := fun (t2 : Int64) (h3 : PH) => some (t2, h3)) (fun (j : Int64 → PH → Option (Int64 × PH)) => ∀ (t2 : Int64) (h3 : PH), SWo (QM mkL below args s D cA ad A) p l e (rmd 0) s m args below meth c 0 0 5 D cA ad A 67 [] [.long t2] h3 (j t2 h3)) ?_ (fun j67 hj67 => ?_)
      · intro t2 h3
        exact so_lret X hr hlk (dkX3_reckon (67, .lreturn, 1) (pgm 17 rfl))
      refine so_if_ne (tgt := 66) X (dkX3_reckon (59, .ifCond .ne 7, 3) (pgm 13 rfl)) rfl (fun _ => ?_) (fun _ => ?_)
      · refine so_lconst (v := (0 : Int64)) X (dkX3_reckon (66, .lconst 0, 1) (pgm 16 rfl)) lc_0 ?_
        exact so_pick X [] rfl (hj67 (0 : Int64) h0)
      · refine so_lconst (v := (1 : Int64)) X (dkX3_reckon (62, .lconst 1, 1) (pgm 14 rfl)) lc_1 ?_
        refine so_goto (tgt := 67) X (dkX3_reckon (63, .goto 4, 3) (pgm 15 rfl)) rfl ?_
        exact so_pick X [] rfl (hj67 (1 : Int64) h0)
    | 4, hkq =>
      obtain rfl := Option.some.inj hkq
      refine ⟨67, 68, rfl, rfl, ?_⟩
      refine so_lload_n (i := 1) X 1 (dkX3_reckon (68, .lload_n 1, 1) (pgm 18 rfl)) rfl rfl ?_
      refine so_lload_n (i := 3) X 2 (dkX3_reckon (69, .lload_n 3, 1) (pgm 19 rfl)) rfl rfl ?_
      refine so_lcmp X (dkX3_reckon (70, .lcmp, 1) (pgm 20 rfl)) ?_
      refine so_join (jf := fun (t4 : Int64) (h5 : PH) => some (t4, h5)) (fun (j : Int64 → PH → Option (Int64 × PH)) => ∀ (t4 : Int64) (h5 : PH), SWo (QM mkL below args s D cA ad A) p l e (rmd 0) s m args below meth c 0 0 5 D cA ad A 79 [] [.long t4] h5 (j t4 h5)) ?_ (fun j79 hj79 => ?_)
      · intro t4 h5
        exact so_lret X hr hlk (dkX3_reckon (79, .lreturn, 1) (pgm 25 rfl))
      refine so_if_ge (tgt := 78) X (dkX3_reckon (71, .ifCond .ge 7, 3) (pgm 21 rfl)) rfl (fun _ => ?_) (fun _ => ?_)
      · refine so_lconst (v := (0 : Int64)) X (dkX3_reckon (78, .lconst 0, 1) (pgm 24 rfl)) lc_0 ?_
        exact so_pick X [] rfl (hj79 (0 : Int64) h0)
      · refine so_lconst (v := (1 : Int64)) X (dkX3_reckon (74, .lconst 1, 1) (pgm 22 rfl)) lc_1 ?_
        refine so_goto (tgt := 79) X (dkX3_reckon (75, .goto 4, 3) (pgm 23 rfl)) rfl ?_
        exact so_pick X [] rfl (hj79 (1 : Int64) h0)
    | 5, hkq =>
      obtain rfl := Option.some.inj hkq
      refine ⟨79, 80, rfl, rfl, ?_⟩
      refine so_lload_n (i := 1) X 1 (dkX3_reckon (80, .lload_n 1, 1) (pgm 26 rfl)) rfl rfl ?_
      refine so_lload_n (i := 3) X 2 (dkX3_reckon (81, .lload_n 3, 1) (pgm 27 rfl)) rfl rfl ?_
      refine so_lcmp X (dkX3_reckon (82, .lcmp, 1) (pgm 28 rfl)) ?_
      refine so_join (jf := fun (t6 : Int64) (h7 : PH) => some (t6, h7)) (fun (j : Int64 → PH → Option (Int64 × PH)) => ∀ (t6 : Int64) (h7 : PH), SWo (QM mkL below args s D cA ad A) p l e (rmd 0) s m args below meth c 0 0 5 D cA ad A 91 [] [.long t6] h7 (j t6 h7)) ?_ (fun j91 hj91 => ?_)
      · intro t6 h7
        exact so_lret X hr hlk (dkX3_reckon (91, .lreturn, 1) (pgm 33 rfl))
      refine so_if_le (tgt := 90) X (dkX3_reckon (83, .ifCond .le 7, 3) (pgm 29 rfl)) rfl (fun _ => ?_) (fun _ => ?_)
      · refine so_lconst (v := (0 : Int64)) X (dkX3_reckon (90, .lconst 0, 1) (pgm 32 rfl)) lc_0 ?_
        exact so_pick X [] rfl (hj91 (0 : Int64) h0)
      · refine so_lconst (v := (1 : Int64)) X (dkX3_reckon (86, .lconst 1, 1) (pgm 30 rfl)) lc_1 ?_
        refine so_goto (tgt := 91) X (dkX3_reckon (87, .goto 4, 3) (pgm 31 rfl)) rfl ?_
        exact so_pick X [] rfl (hj91 (1 : Int64) h0)
    | 6, hkq =>
      obtain rfl := Option.some.inj hkq
      refine ⟨91, 92, rfl, rfl, ?_⟩
      refine so_lload_n (i := 1) X 1 (dkX3_reckon (92, .lload_n 1, 1) (pgm 34 rfl)) rfl rfl ?_
      refine so_lload_n (i := 3) X 2 (dkX3_reckon (93, .lload_n 3, 1) (pgm 35 rfl)) rfl rfl ?_
      refine so_ladd X (dkX3_reckon (94, .ladd, 1) (pgm 36 rfl)) ?_
      exact so_lret X hr hlk (dkX3_reckon (95, .lreturn, 1) (pgm 37 rfl))
    | 7, hkq =>
      obtain rfl := Option.some.inj hkq
      refine ⟨95, 96, rfl, rfl, ?_⟩
      refine so_lload_n (i := 1) X 1 (dkX3_reckon (96, .lload_n 1, 1) (pgm 38 rfl)) rfl rfl ?_
      refine so_lload_n (i := 3) X 2 (dkX3_reckon (97, .lload_n 3, 1) (pgm 39 rfl)) rfl rfl ?_
      refine so_lsub X (dkX3_reckon (98, .lsub, 1) (pgm 40 rfl)) ?_
      exact so_lret X hr hlk (dkX3_reckon (99, .lreturn, 1) (pgm 41 rfl))
    | kq + 8, hkq => simp at hkq
def pgX3_kept : List (Nat × Instr × Nat) := [(0, .lload_n 0, 1), (1, .ldc2_w 58, 3), (4, .lcmp, 1), (5, .ifCond .le 6, 3), (8, .ldc 60, 2), (10, .ireturn, 1), (11, .lload_n 0, 1), (12, .ldc2_w 61, 3), (15, .lcmp, 1), (16, .ifCond .ge 8, 3), (19, .ldc 63, 2), (21, .goto 5, 3), (24, .lload_n 0, 1), (25, .l2i, 1), (26, .ireturn, 1)]
theorem dkX3_kept : ∀ q ∈ pgX3_kept, decode cX3_kept q.1 = .ok q.2 := by decide +kernel
def f_X3_kept (a1 : Int64) (h0 : PH) : Option (Int32 × PH) :=
  if (lg_cmp a1 (1000000 : Int64)) ≤ 0 then (lt (fun (t1 : Int32) (h2 : PH) => some (t1, h2)) (fun (j26 : Int32 → PH → Option (Int32 × PH)) => if 0 ≤ (lg_cmp a1 (-1000000 : Int64)) then (j26 a1.toInt32 h0) else (j26 (-1000000 : Int32) h0))) else (some ((1000000 : Int32), h0))
set_option maxRecDepth 100000 in
set_option maxHeartbeats 4000000 in
theorem ct_X3_kept (l : Launch) (a1 : Int64) (h0 : PH)  : CT mkI l yX3_kept cX3_kept 2 (some .int) (rmd 0) [.long a1] h0 (f_X3_kept a1 h0) := by
  refine ct_of (by decide) (Nat.le_of_ble_eq_true rfl) ?_
  intro p e s m args below meth c D cA ad A X hr hlk
  have X : Cx p s m args c RX3 cX3_kept 2 D cA ad A := X
  unfold f_X3_kept
  refine so_pick (L' := [(0, .long a1)]) X [0] rfl ?_
  refine so_lload_n (i := 0) X 0 (dkX3_kept (0, .lload_n 0, 1) (pgm 0 rfl)) rfl rfl ?_
  refine so_ldc2 X lk_658 (dkX3_kept (1, .ldc2_w 58, 3) (pgm 1 rfl)) ?_
  refine so_lcmp X (dkX3_kept (4, .lcmp, 1) (pgm 2 rfl)) ?_
  refine so_if_le (tgt := 11) X (dkX3_kept (5, .ifCond .le 6, 3) (pgm 3 rfl)) rfl (fun _ => ?_) (fun _ => ?_)
  · refine so_lload_n (i := 0) X 0 (dkX3_kept (11, .lload_n 0, 1) (pgm 6 rfl)) rfl rfl ?_
    refine so_ldc2 X lk_660 (dkX3_kept (12, .ldc2_w 61, 3) (pgm 7 rfl)) ?_
    refine so_lcmp X (dkX3_kept (15, .lcmp, 1) (pgm 8 rfl)) ?_
    refine so_join (jf := fun (t1 : Int32) (h2 : PH) => some (t1, h2)) (fun (j : Int32 → PH → Option (Int32 × PH)) => ∀ (t1 : Int32) (h2 : PH), SWo (QM mkI below args s D cA ad A) p l e (rmd 0) s m args below meth c 0 0 2 D cA ad A 26 [] [.int t1] h2 (j t1 h2)) ?_ (fun j26 hj26 => ?_)
    · intro t1 h2
      exact so_iret X hr hlk (dkX3_kept (26, .ireturn, 1) (pgm 14 rfl))
    refine so_if_ge (tgt := 24) X (dkX3_kept (16, .ifCond .ge 8, 3) (pgm 9 rfl)) rfl (fun _ => ?_) (fun _ => ?_)
    · refine so_lload_n (i := 0) X 0 (dkX3_kept (24, .lload_n 0, 1) (pgm 12 rfl)) rfl rfl ?_
      refine so_l2i X (dkX3_kept (25, .l2i, 1) (pgm 13 rfl)) ?_
      exact so_pick X [] rfl (hj26 a1.toInt32 h0)
    · refine so_ldc X lk_661 (dkX3_kept (19, .ldc 63, 2) (pgm 10 rfl)) ?_
      refine so_goto (tgt := 26) X (dkX3_kept (21, .goto 5, 3) (pgm 11 rfl)) rfl ?_
      exact so_pick X [] rfl (hj26 (-1000000 : Int32) h0)
  · refine so_ldc X lk_659 (dkX3_kept (8, .ldc 60, 2) (pgm 4 rfl)) ?_
    exact so_iret X hr hlk (dkX3_kept (10, .ireturn, 1) (pgm 5 rfl))
def pgX4_take : List (Nat × Instr × Nat) := [(0, .aload_n 0, 1), (1, .aload_n 1, 1), (2, .getfield 24, 3), (5, .putfield 30, 3), (8, .aload_n 0, 1), (9, .getfield 30, 3), (12, .iconst 1, 1), (13, .if_icmp .lt 12, 3), (16, .aload_n 0, 1), (17, .getfield 30, 3), (20, .bipush 6, 2), (22, .if_icmp .le 5, 3), (25, .iconst 0, 1), (26, .ireturn, 1), (27, .iconst 0, 1), (28, .istore_n 2, 1), (29, .iload_n 2, 1), (30, .aload_n 0, 1), (31, .getfield 30, 3), (34, .if_icmp .ge 48, 3), (37, .aload_n 1, 1), (38, .getfield 31, 3), (41, .iload_n 2, 1), (42, .laload, 1), (43, .lconst 0, 1), (44, .lcmp, 1), (45, .ifCond .lt 16, 3), (48, .aload_n 1, 1), (49, .getfield 31, 3), (52, .iload_n 2, 1), (53, .laload, 1), (54, .ldc2_w 34, 3), (57, .lcmp, 1), (58, .ifCond .le 5, 3), (61, .iconst 0, 1), (62, .ireturn, 1), (63, .aload_n 0, 1), (64, .getfield 11, 3), (67, .iload_n 2, 1), (68, .aload_n 1, 1), (69, .getfield 31, 3), (72, .iload_n 2, 1), (73, .laload, 1), (74, .l2i, 1), (75, .iastore, 1), (76, .iinc 2 1, 3), (79, .goto (-50), 3), (82, .iconst 1, 1), (83, .ireturn, 1)]
theorem dkX4_take : ∀ q ∈ pgX4_take, decode cX4_take q.1 = .ok q.2 := by decide +kernel
def b_X4_take_29 (this : Nat) (a1 : Nat) (j61 : PH → Option (Int32 × PH)) (rec29 : (Int32) → PH → Option (Int32 × PH)) (s29 : Int32) (hh29 : PH) : Option (Int32 × PH) :=
  if (hh29.1 this 1) ≤ s29 then (zr (1 : Int32) hh29) else (ldL hh29 (rt a1 2) 30 s29 (fun (x5 : Int64) => if (lg_cmp x5 (0 : Int64)) < 0 then (j61 hh29) else (ldL hh29 (rt a1 2) 30 s29 (fun (x6 : Int64) => if (lg_cmp x6 (99 : Int64)) ≤ 0 then (ldL hh29 (rt a1 2) 30 s29 (fun (x7 : Int64) => stI hh29 (rt this 0) 6 s29 x7.toInt32 (fun (h8 : PH) => lt (s29 + Int32.ofInt 1) (fun (x9 : Int32) => rec29 x9 h8)))) else (j61 hh29)))))
def f_X4_take (this : Nat) (a1 : Nat) (h0 : PH) : Option (Int32 × PH) :=
  lt (pI h0 this 1 (h0.1 a1 1)) (fun (h1 : PH) => lt (fun (h2 : PH) => zr (0 : Int32) h2) (fun (j25 : PH → Option (Int32 × PH)) => if (h1.1 this 1) < (1 : Int32) then (j25 h1) else (if (h1.1 this 1) ≤ (6 : Int32) then (lt (0 : Int32) (fun (x3 : Int32) => lt (fun (h4 : PH) => zr (0 : Int32) h4) (fun (j61 : PH → Option (Int32 × PH)) => lp (b_X4_take_29 this a1 j61) FU x3 h1))) else (j25 h1))))
set_option maxRecDepth 100000 in
set_option maxHeartbeats 4000000 in
theorem ct_X4_take (l : Launch) (this : Nat) (a1 : Nat) (h0 : PH) (hk : (kd this).1 = 4) (hk1 : (kd a1).1 = 10) : CT mkI l yX4_take cX4_take 3 (some .boolean) (rmd 0) [.ref this, .ref a1] h0 (f_X4_take this a1 h0) := by
  refine ct_of (by decide) (Nat.le_of_ble_eq_true rfl) ?_
  intro p e s m args below meth c D cA ad A X hr hlk
  have X : Cx p s m args c RX4 cX4_take 3 D cA ad A := X
  unfold f_X4_take
  refine so_pick (L' := [(0, .ref this), (1, .ref a1)]) X [0, 1] rfl ?_
  refine so_aload_n (i := 0) X 0 (dkX4_take (0, .aload_n 0, 1) (pgm 0 rfl)) rfl rfl ?_
  refine so_aload_n (i := 1) X 1 (dkX4_take (1, .aload_n 1, 1) (pgm 1 rfl)) rfl rfl ?_
  refine sf_getI X ff_10_1 lk_549 hk1 (dkX4_take (2, .getfield 24, 3) (pgm 2 rfl)) ?_
  refine sf_putI X ff_4_1 ft_4 rfl lk_525 hk rfl rfl (dkX4_take (5, .putfield 30, 3) (pgm 3 rfl)) (fun h1 => ?_)
  refine so_aload_n (i := 0) X 0 (dkX4_take (8, .aload_n 0, 1) (pgm 4 rfl)) rfl rfl ?_
  refine sf_getI X ff_4_1 lk_525 hk (dkX4_take (9, .getfield 30, 3) (pgm 5 rfl)) ?_
  refine so_iconst (v := (1 : Int32)) X (dkX4_take (12, .iconst 1, 1) (pgm 6 rfl)) ic_1 ?_
  refine so_join (jf := fun (h2 : PH) => zr (0 : Int32) h2) (fun (j : PH → Option (Int32 × PH)) => ∀  (h2 : PH), SWo (QM mkI below args s D cA ad A) p l e (rmd 0) s m args below meth c 0 0 3 D cA ad A 25 [] [] h2 (j h2)) ?_ (fun j25 hj25 => ?_)
  · intro h2
    refine so_iconst (v := (0 : Int32)) X (dkX4_take (25, .iconst 0, 1) (pgm 12 rfl)) ic_0 ?_
    exact so_zret X hr hlk (dkX4_take (26, .ireturn, 1) (pgm 13 rfl))
  refine so_icmp_lt (tgt := 25) X (dkX4_take (13, .if_icmp .lt 12, 3) (pgm 7 rfl)) rfl (fun _ => ?_) (fun _ => ?_)
  · exact so_pick X [] rfl (hj25 h1)
  · refine so_aload_n (i := 0) X 0 (dkX4_take (16, .aload_n 0, 1) (pgm 8 rfl)) rfl rfl ?_
    refine sf_getI X ff_4_1 lk_525 hk (dkX4_take (17, .getfield 30, 3) (pgm 9 rfl)) ?_
    refine so_bipush (v := (6 : Int32)) X (dkX4_take (20, .bipush 6, 2) (pgm 10 rfl)) bp_6 ?_
    refine so_icmp_le (tgt := 27) X (dkX4_take (22, .if_icmp .le 5, 3) (pgm 11 rfl)) rfl (fun _ => ?_) (fun _ => ?_)
    · refine so_iconst (v := (0 : Int32)) X (dkX4_take (27, .iconst 0, 1) (pgm 14 rfl)) ic_0 ?_
      refine so_istore_n (i := 2) X (dkX4_take (28, .istore_n 2, 1) (pgm 15 rfl)) rfl (by decide) (Lf := fun x3 => [(2, .int x3), (0, .ref this), (1, .ref a1)]) (fun _ => rfl) (fun x3 => ?_)
      refine so_join (jf := fun (h4 : PH) => zr (0 : Int32) h4) (fun (j : PH → Option (Int32 × PH)) => ∀  (h4 : PH), SWo (QM mkI below args s D cA ad A) p l e (rmd 0) s m args below meth c 0 0 3 D cA ad A 61 [] [] h4 (j h4)) ?_ (fun j61 hj61 => ?_)
      · intro h4
        refine so_iconst (v := (0 : Int32)) X (dkX4_take (61, .iconst 0, 1) (pgm 34 rfl)) ic_0 ?_
        exact so_zret X hr hlk (dkX4_take (62, .ireturn, 1) (pgm 35 rfl))
      refine so_pick (L' := [(0, .ref this), (1, .ref a1), (2, .int x3)]) X [1, 2, 0] rfl ?_
      refine so_loop (body := b_X4_take_29 this a1 j61) (fun (s29 : Int32) => [(0, .ref this), (1, .ref a1), (2, .int s29)]) (fun rec29 hrec29 s29 hh29 => ?_) FU x3 h1
      unfold b_X4_take_29
      refine so_iload_n (i := 2) X 2 (dkX4_take (29, .iload_n 2, 1) (pgm 16 rfl)) rfl rfl ?_
      refine so_aload_n (i := 0) X 0 (dkX4_take (30, .aload_n 0, 1) (pgm 17 rfl)) rfl rfl ?_
      refine sf_getI X ff_4_1 lk_525 hk (dkX4_take (31, .getfield 30, 3) (pgm 18 rfl)) ?_
      refine so_icmp_ge (tgt := 82) X (dkX4_take (34, .if_icmp .ge 48, 3) (pgm 19 rfl)) rfl (fun _ => ?_) (fun _ => ?_)
      · refine so_iconst (v := (1 : Int32)) X (dkX4_take (82, .iconst 1, 1) (pgm 47 rfl)) ic_1 ?_
        exact so_zret X hr hlk (dkX4_take (83, .ireturn, 1) (pgm 48 rfl))
      · refine so_aload_n (i := 1) X 1 (dkX4_take (37, .aload_n 1, 1) (pgm 20 rfl)) rfl rfl ?_
        refine sf_getR X ff_10_2 lk_553 hk1 (dkX4_take (38, .getfield 31, 3) (pgm 21 rfl)) ?_
        refine so_iload_n (i := 2) X 2 (dkX4_take (41, .iload_n 2, 1) (pgm 22 rfl)) rfl rfl ?_
        refine so_lald X (rk_10_2 a1 hk1) (dkX4_take (42, .laload, 1) (pgm 23 rfl)) (fun x5 => ?_)
        refine so_lconst (v := (0 : Int64)) X (dkX4_take (43, .lconst 0, 1) (pgm 24 rfl)) lc_0 ?_
        refine so_lcmp X (dkX4_take (44, .lcmp, 1) (pgm 25 rfl)) ?_
        refine so_if_lt (tgt := 61) X (dkX4_take (45, .ifCond .lt 16, 3) (pgm 26 rfl)) rfl (fun _ => ?_) (fun _ => ?_)
        · exact so_pick X [] rfl (hj61 hh29)
        · refine so_aload_n (i := 1) X 1 (dkX4_take (48, .aload_n 1, 1) (pgm 27 rfl)) rfl rfl ?_
          refine sf_getR X ff_10_2 lk_553 hk1 (dkX4_take (49, .getfield 31, 3) (pgm 28 rfl)) ?_
          refine so_iload_n (i := 2) X 2 (dkX4_take (52, .iload_n 2, 1) (pgm 29 rfl)) rfl rfl ?_
          refine so_lald X (rk_10_2 a1 hk1) (dkX4_take (53, .laload, 1) (pgm 30 rfl)) (fun x6 => ?_)
          refine so_ldc2 X lk_1550 (dkX4_take (54, .ldc2_w 34, 3) (pgm 31 rfl)) ?_
          refine so_lcmp X (dkX4_take (57, .lcmp, 1) (pgm 32 rfl)) ?_
          refine so_if_le (tgt := 63) X (dkX4_take (58, .ifCond .le 5, 3) (pgm 33 rfl)) rfl (fun _ => ?_) (fun _ => ?_)
          · refine so_aload_n (i := 0) X 0 (dkX4_take (63, .aload_n 0, 1) (pgm 36 rfl)) rfl rfl ?_
            refine sf_getR X ff_4_0 lk_524 hk (dkX4_take (64, .getfield 11, 3) (pgm 37 rfl)) ?_
            refine so_iload_n (i := 2) X 2 (dkX4_take (67, .iload_n 2, 1) (pgm 38 rfl)) rfl rfl ?_
            refine so_aload_n (i := 1) X 1 (dkX4_take (68, .aload_n 1, 1) (pgm 39 rfl)) rfl rfl ?_
            refine sf_getR X ff_10_2 lk_553 hk1 (dkX4_take (69, .getfield 31, 3) (pgm 40 rfl)) ?_
            refine so_iload_n (i := 2) X 2 (dkX4_take (72, .iload_n 2, 1) (pgm 41 rfl)) rfl rfl ?_
            refine so_lald X (rk_10_2 a1 hk1) (dkX4_take (73, .laload, 1) (pgm 42 rfl)) (fun x7 => ?_)
            refine so_l2i X (dkX4_take (74, .l2i, 1) (pgm 43 rfl)) ?_
            refine so_iast X (rk_4_0 this hk) (dkX4_take (75, .iastore, 1) (pgm 44 rfl)) (fun h8 => ?_)
            refine so_iinc (i := 2) X 2 (dkX4_take (76, .iinc 2 1, 3) (pgm 45 rfl)) rfl rfl (by decide) (Lf := fun x9 => [(2, .int x9), (0, .ref this), (1, .ref a1)]) (fun _ => rfl) (fun x9 => ?_)
            refine so_goto (tgt := 29) X (dkX4_take (79, .goto (-50), 3) (pgm 46 rfl)) rfl ?_
            exact so_pick X [1, 2, 0] rfl (hrec29 x9 h8)
          · exact so_pick X [] rfl (hj61 hh29)
    · exact so_pick X [] rfl (hj25 h1)
def pgX4_byGranting : List (Nat × Instr × Nat) := [(0, .iload_n 1, 1), (1, .i2l, 1), (2, .aload_n 0, 1), (3, .getfield 20, 3), (6, .iload_n 2, 1), (7, .iconst 1, 1), (8, .isub, 1), (9, .laload, 1), (10, .lmul, 1), (11, .aload_n 0, 1), (12, .getfield 17, 3), (15, .iload_n 2, 1), (16, .iconst 1, 1), (17, .isub, 1), (18, .aaload, 1), (19, .iload_n 3, 1), (20, .iconst 1, 1), (21, .isub, 1), (22, .laload, 1), (23, .ladd, 1), (24, .lreturn, 1)]
theorem dkX4_byGranting : ∀ q ∈ pgX4_byGranting, decode cX4_byGranting q.1 = .ok q.2 := by decide +kernel
def f_X4_byGranting (this : Nat) (a1 : Int32) (a2 : Int32) (a3 : Int32) (h0 : PH) : Option (Int64 × PH) :=
  ldL h0 (rt this 3) 7 (a2 - (1 : Int32)) (fun (x1 : Int64) => ldR (rt this 2) 7 (a2 - (1 : Int32)) (fun (v2 : Nat) => ldL h0 v2 7 (a3 - (1 : Int32)) (fun (x3 : Int64) => some (((a1.toInt64 * x1) + x3), h0))))
set_option maxRecDepth 100000 in
set_option maxHeartbeats 4000000 in
theorem ct_X4_byGranting (l : Launch) (this : Nat) (a1 : Int32) (a2 : Int32) (a3 : Int32) (h0 : PH) (hk : (kd this).1 = 4) : CT mkL l yX4_byGranting cX4_byGranting 4 (some .long) (rmd 0) [.ref this, .int a1, .int a2, .int a3] h0 (f_X4_byGranting this a1 a2 a3 h0) := by
  refine ct_of (by decide) (Nat.le_of_ble_eq_true rfl) ?_
  intro p e s m args below meth c D cA ad A X hr hlk
  have X : Cx p s m args c RX4 cX4_byGranting 4 D cA ad A := X
  unfold f_X4_byGranting
  refine so_pick (L' := [(0, .ref this), (1, .int a1), (2, .int a2), (3, .int a3)]) X [0, 1, 2, 3] rfl ?_
  refine so_iload_n (i := 1) X 1 (dkX4_byGranting (0, .iload_n 1, 1) (pgm 0 rfl)) rfl rfl ?_
  refine so_i2l X (dkX4_byGranting (1, .i2l, 1) (pgm 1 rfl)) ?_
  refine so_aload_n (i := 0) X 0 (dkX4_byGranting (2, .aload_n 0, 1) (pgm 2 rfl)) rfl rfl ?_
  refine sf_getR X ff_4_3 lk_527 hk (dkX4_byGranting (3, .getfield 20, 3) (pgm 3 rfl)) ?_
  refine so_iload_n (i := 2) X 2 (dkX4_byGranting (6, .iload_n 2, 1) (pgm 4 rfl)) rfl rfl ?_
  refine so_iconst (v := (1 : Int32)) X (dkX4_byGranting (7, .iconst 1, 1) (pgm 5 rfl)) ic_1 ?_
  refine so_isub X (dkX4_byGranting (8, .isub, 1) (pgm 6 rfl)) ?_
  refine so_lald X (rk_4_3 this hk) (dkX4_byGranting (9, .laload, 1) (pgm 7 rfl)) (fun x1 => ?_)
  refine so_lmul X (dkX4_byGranting (10, .lmul, 1) (pgm 8 rfl)) ?_
  refine so_aload_n (i := 0) X 0 (dkX4_byGranting (11, .aload_n 0, 1) (pgm 9 rfl)) rfl rfl ?_
  refine sf_getR X ff_4_2 lk_526 hk (dkX4_byGranting (12, .getfield 17, 3) (pgm 10 rfl)) ?_
  refine so_iload_n (i := 2) X 2 (dkX4_byGranting (15, .iload_n 2, 1) (pgm 11 rfl)) rfl rfl ?_
  refine so_iconst (v := (1 : Int32)) X (dkX4_byGranting (16, .iconst 1, 1) (pgm 12 rfl)) ic_1 ?_
  refine so_isub X (dkX4_byGranting (17, .isub, 1) (pgm 13 rfl)) ?_
  refine so_aaldK X (rk_4_2 this hk) (by decide) (by decide) 5 (fun _ => rfl) rfl (re_4_2 this hk) (dkX4_byGranting (18, .aaload, 1) (pgm 14 rfl)) (fun v2 hv2 => ?_)
  refine so_iload_n (i := 3) X 3 (dkX4_byGranting (19, .iload_n 3, 1) (pgm 15 rfl)) rfl rfl ?_
  refine so_iconst (v := (1 : Int32)) X (dkX4_byGranting (20, .iconst 1, 1) (pgm 16 rfl)) ic_1 ?_
  refine so_isub X (dkX4_byGranting (21, .isub, 1) (pgm 17 rfl)) ?_
  refine so_lald X hv2 (dkX4_byGranting (22, .laload, 1) (pgm 18 rfl)) (fun x3 => ?_)
  refine so_ladd X (dkX4_byGranting (23, .ladd, 1) (pgm 19 rfl)) ?_
  exact so_lret X hr hlk (dkX4_byGranting (24, .lreturn, 1) (pgm 20 rfl))
def pgX4_worthOf : List (Nat × Instr × Nat) := [(0, .aload_n 0, 1), (1, .getfield 17, 3), (4, .iload_n 1, 1), (5, .aaload, 1), (6, .iload_n 2, 1), (7, .laload, 1), (8, .lreturn, 1)]
theorem dkX4_worthOf : ∀ q ∈ pgX4_worthOf, decode cX4_worthOf q.1 = .ok q.2 := by decide +kernel
def f_X4_worthOf (this : Nat) (a1 : Int32) (a2 : Int32) (h0 : PH) : Option (Int64 × PH) :=
  ldR (rt this 2) 7 a1 (fun (v1 : Nat) => ldL h0 v1 7 a2 (fun (x2 : Int64) => some (x2, h0)))
set_option maxRecDepth 100000 in
set_option maxHeartbeats 4000000 in
theorem ct_X4_worthOf (l : Launch) (this : Nat) (a1 : Int32) (a2 : Int32) (h0 : PH) (hk : (kd this).1 = 4) : CT mkL l yX4_worthOf cX4_worthOf 3 (some .long) (rmd 0) [.ref this, .int a1, .int a2] h0 (f_X4_worthOf this a1 a2 h0) := by
  refine ct_of (by decide) (Nat.le_of_ble_eq_true rfl) ?_
  intro p e s m args below meth c D cA ad A X hr hlk
  have X : Cx p s m args c RX4 cX4_worthOf 3 D cA ad A := X
  unfold f_X4_worthOf
  refine so_pick (L' := [(0, .ref this), (1, .int a1), (2, .int a2)]) X [0, 1, 2] rfl ?_
  refine so_aload_n (i := 0) X 0 (dkX4_worthOf (0, .aload_n 0, 1) (pgm 0 rfl)) rfl rfl ?_
  refine sf_getR X ff_4_2 lk_526 hk (dkX4_worthOf (1, .getfield 17, 3) (pgm 1 rfl)) ?_
  refine so_iload_n (i := 1) X 1 (dkX4_worthOf (4, .iload_n 1, 1) (pgm 2 rfl)) rfl rfl ?_
  refine so_aaldK X (rk_4_2 this hk) (by decide) (by decide) 5 (fun _ => rfl) rfl (re_4_2 this hk) (dkX4_worthOf (5, .aaload, 1) (pgm 3 rfl)) (fun v1 hv1 => ?_)
  refine so_iload_n (i := 2) X 2 (dkX4_worthOf (6, .iload_n 2, 1) (pgm 4 rfl)) rfl rfl ?_
  refine so_lald X hv1 (dkX4_worthOf (7, .laload, 1) (pgm 5 rfl)) (fun x2 => ?_)
  exact so_lret X hr hlk (dkX4_worthOf (8, .lreturn, 1) (pgm 6 rfl))
def pgX4_leastNow : List (Nat × Instr × Nat) := [(0, .iconst (-1), 1), (1, .istore_n 3, 1), (2, .iconst 0, 1), (3, .istore 4, 2), (5, .iload 4, 2), (7, .aload_n 0, 1), (8, .getfield 30, 3), (11, .if_icmp .ge 76, 3), (14, .iload_n 2, 1), (15, .ifCond .le 72, 3), (18, .aload_n 0, 1), (19, .aload_n 0, 1), (20, .getfield 11, 3), (23, .iload 4, 2), (25, .iaload, 1), (26, .iload_n 1, 1), (27, .iload_n 2, 1), (28, .invokevirtual 36, 3), (31, .aload_n 0, 1), (32, .getfield 17, 3), (35, .iload_n 1, 1), (36, .iconst 1, 1), (37, .isub, 1), (38, .aaload, 1), (39, .iload_n 2, 1), (40, .laload, 1), (41, .lcmp, 1), (42, .ifCond .lt 7, 3), (45, .iconst 1, 1), (46, .goto 4, 3), (49, .iconst 0, 1), (50, .istore 5, 2), (52, .iload 5, 2), (54, .ifCond .eq 27, 3), (57, .iload_n 3, 1), (58, .iconst (-1), 1), (59, .if_icmp .eq 14, 3), (62, .aload_n 0, 1), (63, .getfield 11, 3), (66, .iload 4, 2), (68, .iaload, 1), (69, .iload_n 3, 1), (70, .if_icmp .ge 11, 3), (73, .aload_n 0, 1), (74, .getfield 11, 3), (77, .iload 4, 2), (79, .iaload, 1), (80, .istore_n 3, 1), (81, .iinc 4 1, 3), (84, .goto (-79), 3), (87, .iload_n 3, 1), (88, .ireturn, 1)]
theorem dkX4_leastNow : ∀ q ∈ pgX4_leastNow, decode cX4_leastNow q.1 = .ok q.2 := by decide +kernel
def b_X4_leastNow_5 (this : Nat) (a1 : Int32) (a2 : Int32) (j87 : Int32 → PH → Option (Int32 × PH)) (rec5 : (Int32 × Int32) → PH → Option (Int32 × PH)) (s5 : Int32 × Int32) (hh5 : PH) : Option (Int32 × PH) :=
  if (hh5.1 this 1) ≤ s5.2 then (j87 s5.1 hh5) else (if a2 ≤ 0 then (j87 s5.1 hh5) else (ldI hh5 (rt this 0) 6 s5.2 (fun (x5 : Int32) => cb (f_X4_byGranting this x5 a1 a2 hh5) (fun (r6 : Int64) (h7 : PH) => ldR (rt this 2) 7 (a1 - (1 : Int32)) (fun (v8 : Nat) => ldL h7 v8 7 a2 (fun (x9 : Int64) => lt (fun (t10 : Int32) (h11 : PH) => lt t10 (fun (x12 : Int32) => lt (fun (y13 : Int32) (h14 : PH) => lt (s5.2 + Int32.ofInt 1) (fun (x15 : Int32) => rec5 (y13, x15) h14)) (fun (j81 : Int32 → PH → Option (Int32 × PH)) => if x12 = 0 then (j81 s5.1 h11) else (lt (fun (h16 : PH) => ldI h16 (rt this 0) 6 s5.2 (fun (x17 : Int32) => lt x17 (fun (x18 : Int32) => j81 x18 h16))) (fun (j73 : PH → Option (Int32 × PH)) => if s5.1 = (-1 : Int32) then (j73 h11) else (ldI h11 (rt this 0) 6 s5.2 (fun (x19 : Int32) => if s5.1 ≤ x19 then (j81 s5.1 h11) else (j73 h11)))))))) (fun (j50 : Int32 → PH → Option (Int32 × PH)) => if (lg_cmp r6 x9) < 0 then (j50 (0 : Int32) h7) else (j50 (1 : Int32) h7))))))))
def f_X4_leastNow (this : Nat) (a1 : Int32) (a2 : Int32) (h0 : PH) : Option (Int32 × PH) :=
  lt (-1 : Int32) (fun (x1 : Int32) => lt (0 : Int32) (fun (x2 : Int32) => lt (fun (y3 : Int32) (h4 : PH) => some (y3, h4)) (fun (j87 : Int32 → PH → Option (Int32 × PH)) => lp (b_X4_leastNow_5 this a1 a2 j87) FU (x1, x2) h0)))
set_option maxRecDepth 100000 in
set_option maxHeartbeats 4000000 in
theorem ct_X4_leastNow (l : Launch) (this : Nat) (a1 : Int32) (a2 : Int32) (h0 : PH) (hk : (kd this).1 = 4) : CT mkI l yX4_leastNow cX4_leastNow 6 (some .int) (rmd 1) [.ref this, .int a1, .int a2] h0 (f_X4_leastNow this a1 a2 h0) := by
  refine ct_of (by decide) (Nat.le_of_ble_eq_true rfl) ?_
  intro p e s m args below meth c D cA ad A X hr hlk
  have X : Cx p s m args c RX4 cX4_leastNow 6 D cA ad A := X
  unfold f_X4_leastNow
  refine so_pick (L' := [(0, .ref this), (1, .int a1), (2, .int a2)]) X [0, 1, 2] rfl ?_
  refine so_iconst (v := (-1 : Int32)) X (dkX4_leastNow (0, .iconst (-1), 1) (pgm 0 rfl)) ic_m1 ?_
  refine so_istore_n (i := 3) X (dkX4_leastNow (1, .istore_n 3, 1) (pgm 1 rfl)) rfl (by decide) (Lf := fun x1 => [(3, .int x1), (0, .ref this), (1, .int a1), (2, .int a2)]) (fun _ => rfl) (fun x1 => ?_)
  refine so_iconst (v := (0 : Int32)) X (dkX4_leastNow (2, .iconst 0, 1) (pgm 2 rfl)) ic_0 ?_
  refine so_istore (i := 4) X (dkX4_leastNow (3, .istore 4, 2) (pgm 3 rfl)) (by decide) (Lf := fun x2 => [(4, .int x2), (3, .int x1), (0, .ref this), (1, .int a1), (2, .int a2)]) (fun _ => rfl) (fun x2 => ?_)
  refine so_join (jf := fun (y3 : Int32) (h4 : PH) => some (y3, h4)) (fun (j : Int32 → PH → Option (Int32 × PH)) => ∀ (y3 : Int32) (h4 : PH), SWo (QM mkI below args s D cA ad A) p l e (rmd 1) s m args below meth c 0 0 6 D cA ad A 87 [(3, .int y3)] [] h4 (j y3 h4)) ?_ (fun j87 hj87 => ?_)
  · intro y3 h4
    refine so_iload_n (i := 3) X 0 (dkX4_leastNow (87, .iload_n 3, 1) (pgm 50 rfl)) rfl rfl ?_
    exact so_iret X hr hlk (dkX4_leastNow (88, .ireturn, 1) (pgm 51 rfl))
  refine so_pick (L' := [(0, .ref this), (1, .int a1), (2, .int a2), (3, .int x1), (4, .int x2)]) X [2, 3, 4, 1, 0] rfl ?_
  refine so_loop (body := b_X4_leastNow_5 this a1 a2 j87) (fun (s5 : Int32 × Int32) => [(0, .ref this), (1, .int a1), (2, .int a2), (3, .int s5.1), (4, .int s5.2)]) (fun rec5 hrec5 s5 hh5 => ?_) FU (x1, x2) h0
  unfold b_X4_leastNow_5
  refine so_iload (i := 4) X 4 (dkX4_leastNow (5, .iload 4, 2) (pgm 4 rfl)) rfl ?_
  refine so_aload_n (i := 0) X 0 (dkX4_leastNow (7, .aload_n 0, 1) (pgm 5 rfl)) rfl rfl ?_
  refine sf_getI X ff_4_1 lk_525 hk (dkX4_leastNow (8, .getfield 30, 3) (pgm 6 rfl)) ?_
  refine so_icmp_ge (tgt := 87) X (dkX4_leastNow (11, .if_icmp .ge 76, 3) (pgm 7 rfl)) rfl (fun _ => ?_) (fun _ => ?_)
  · exact so_pick X [3] rfl (hj87 s5.1 hh5)
  · refine so_iload_n (i := 2) X 2 (dkX4_leastNow (14, .iload_n 2, 1) (pgm 8 rfl)) rfl rfl ?_
    refine so_if_le (tgt := 87) X (dkX4_leastNow (15, .ifCond .le 72, 3) (pgm 9 rfl)) rfl (fun _ => ?_) (fun _ => ?_)
    · exact so_pick X [3] rfl (hj87 s5.1 hh5)
    · refine so_aload_n (i := 0) X 0 (dkX4_leastNow (18, .aload_n 0, 1) (pgm 10 rfl)) rfl rfl ?_
      refine so_aload_n (i := 0) X 0 (dkX4_leastNow (19, .aload_n 0, 1) (pgm 11 rfl)) rfl rfl ?_
      refine sf_getR X ff_4_0 lk_524 hk (dkX4_leastNow (20, .getfield 11, 3) (pgm 12 rfl)) ?_
      refine so_iload (i := 4) X 4 (dkX4_leastNow (23, .iload 4, 2) (pgm 13 rfl)) rfl ?_
      refine so_iald X (rk_4_0 this hk) (dkX4_leastNow (25, .iaload, 1) (pgm 14 rfl)) (fun x5 => ?_)
      refine so_iload_n (i := 1) X 1 (dkX4_leastNow (26, .iload_n 1, 1) (pgm 15 rfl)) rfl rfl ?_
      refine so_iload_n (i := 2) X 2 (dkX4_leastNow (27, .iload_n 2, 1) (pgm 16 rfl)) rfl rfl ?_
      refine so_callV (n := 3) (As := [.int x5, .int a1, .int a2]) X (ct_X4_byGranting l this x5 a1 a2 hh5 hk) hk (by decide) rfl lk_1556 lk_1558 lk_53 lk_132 lk_1559 (by decide +kernel) rfl rfl rfl (rm_ok (by omega) (by decide)) ⟨Nat.zero_le _, Nat.zero_le _⟩ (Nat.le_of_ble_eq_true rfl) (dkX4_leastNow (28, .invokevirtual 36, 3) (pgm 17 rfl)) (fun r6 h7 => ?_) rfl
      refine so_aload_n (i := 0) X 0 (dkX4_leastNow (31, .aload_n 0, 1) (pgm 18 rfl)) rfl rfl ?_
      refine sf_getR X ff_4_2 lk_526 hk (dkX4_leastNow (32, .getfield 17, 3) (pgm 19 rfl)) ?_
      refine so_iload_n (i := 1) X 1 (dkX4_leastNow (35, .iload_n 1, 1) (pgm 20 rfl)) rfl rfl ?_
      refine so_iconst (v := (1 : Int32)) X (dkX4_leastNow (36, .iconst 1, 1) (pgm 21 rfl)) ic_1 ?_
      refine so_isub X (dkX4_leastNow (37, .isub, 1) (pgm 22 rfl)) ?_
      refine so_aaldK X (rk_4_2 this hk) (by decide) (by decide) 5 (fun _ => rfl) rfl (re_4_2 this hk) (dkX4_leastNow (38, .aaload, 1) (pgm 23 rfl)) (fun v8 hv8 => ?_)
      refine so_iload_n (i := 2) X 2 (dkX4_leastNow (39, .iload_n 2, 1) (pgm 24 rfl)) rfl rfl ?_
      refine so_lald X hv8 (dkX4_leastNow (40, .laload, 1) (pgm 25 rfl)) (fun x9 => ?_)
      refine so_lcmp X (dkX4_leastNow (41, .lcmp, 1) (pgm 26 rfl)) ?_
      refine so_join (jf := fun (t10 : Int32) (h11 : PH) => lt t10 (fun (x12 : Int32) => lt (fun (y13 : Int32) (h14 : PH) => lt (s5.2 + Int32.ofInt 1) (fun (x15 : Int32) => rec5 (y13, x15) h14)) (fun (j81 : Int32 → PH → Option (Int32 × PH)) => if x12 = 0 then (j81 s5.1 h11) else (lt (fun (h16 : PH) => ldI h16 (rt this 0) 6 s5.2 (fun (x17 : Int32) => lt x17 (fun (x18 : Int32) => j81 x18 h16))) (fun (j73 : PH → Option (Int32 × PH)) => if s5.1 = (-1 : Int32) then (j73 h11) else (ldI h11 (rt this 0) 6 s5.2 (fun (x19 : Int32) => if s5.1 ≤ x19 then (j81 s5.1 h11) else (j73 h11)))))))) (fun (j : Int32 → PH → Option (Int32 × PH)) => ∀ (t10 : Int32) (h11 : PH), SWo (QM mkI below args s D cA ad A) p l e (rmd 1) s m args below meth c 0 0 6 D cA ad A 50 [(0, .ref this), (1, .int a1), (2, .int a2), (3, .int s5.1), (4, .int s5.2)] [.int t10] h11 (j t10 h11)) ?_ (fun j50 hj50 => ?_)
      · intro t10 h11
        refine so_istore (i := 5) X (dkX4_leastNow (50, .istore 5, 2) (pgm 31 rfl)) (by decide) (Lf := fun x12 => [(5, .int x12), (0, .ref this), (1, .int a1), (2, .int a2), (3, .int s5.1), (4, .int s5.2)]) (fun _ => rfl) (fun x12 => ?_)
        refine so_iload (i := 5) X 0 (dkX4_leastNow (52, .iload 5, 2) (pgm 32 rfl)) rfl ?_
        refine so_join (jf := fun (y13 : Int32) (h14 : PH) => lt (s5.2 + Int32.ofInt 1) (fun (x15 : Int32) => rec5 (y13, x15) h14)) (fun (j : Int32 → PH → Option (Int32 × PH)) => ∀ (y13 : Int32) (h14 : PH), SWo (QM mkI below args s D cA ad A) p l e (rmd 1) s m args below meth c 0 0 6 D cA ad A 81 [(0, .ref this), (1, .int a1), (2, .int a2), (3, .int y13), (4, .int s5.2)] [] h14 (j y13 h14)) ?_ (fun j81 hj81 => ?_)
        · intro y13 h14
          refine so_iinc (i := 4) X 4 (dkX4_leastNow (81, .iinc 4 1, 3) (pgm 48 rfl)) rfl rfl (by decide) (Lf := fun x15 => [(4, .int x15), (0, .ref this), (1, .int a1), (2, .int a2), (3, .int y13)]) (fun _ => rfl) (fun x15 => ?_)
          refine so_goto (tgt := 5) X (dkX4_leastNow (84, .goto (-79), 3) (pgm 49 rfl)) rfl ?_
          exact so_pick X [1, 2, 3, 4, 0] rfl (hrec5 (y13, x15) h14)
        refine so_if_eq (tgt := 81) X (dkX4_leastNow (54, .ifCond .eq 27, 3) (pgm 33 rfl)) rfl (fun _ => ?_) (fun _ => ?_)
        · exact so_pick X [1, 2, 3, 4, 5] rfl (hj81 s5.1 h11)
        · refine so_iload_n (i := 3) X 4 (dkX4_leastNow (57, .iload_n 3, 1) (pgm 34 rfl)) rfl rfl ?_
          refine so_iconst (v := (-1 : Int32)) X (dkX4_leastNow (58, .iconst (-1), 1) (pgm 35 rfl)) ic_m1 ?_
          refine so_join (jf := fun (h16 : PH) => ldI h16 (rt this 0) 6 s5.2 (fun (x17 : Int32) => lt x17 (fun (x18 : Int32) => j81 x18 h16))) (fun (j : PH → Option (Int32 × PH)) => ∀  (h16 : PH), SWo (QM mkI below args s D cA ad A) p l e (rmd 1) s m args below meth c 0 0 6 D cA ad A 73 [(0, .ref this), (1, .int a1), (2, .int a2), (4, .int s5.2)] [] h16 (j h16)) ?_ (fun j73 hj73 => ?_)
          · intro h16
            refine so_aload_n (i := 0) X 0 (dkX4_leastNow (73, .aload_n 0, 1) (pgm 43 rfl)) rfl rfl ?_
            refine sf_getR X ff_4_0 lk_524 hk (dkX4_leastNow (74, .getfield 11, 3) (pgm 44 rfl)) ?_
            refine so_iload (i := 4) X 3 (dkX4_leastNow (77, .iload 4, 2) (pgm 45 rfl)) rfl ?_
            refine so_iald X (rk_4_0 this hk) (dkX4_leastNow (79, .iaload, 1) (pgm 46 rfl)) (fun x17 => ?_)
            refine so_istore_n (i := 3) X (dkX4_leastNow (80, .istore_n 3, 1) (pgm 47 rfl)) rfl (by decide) (Lf := fun x18 => [(3, .int x18), (0, .ref this), (1, .int a1), (2, .int a2), (4, .int s5.2)]) (fun _ => rfl) (fun x18 => ?_)
            exact so_pick X [1, 2, 3, 0, 4] rfl (hj81 x18 h16)
          refine so_icmp_eq (tgt := 73) X (dkX4_leastNow (59, .if_icmp .eq 14, 3) (pgm 36 rfl)) rfl (fun _ => ?_) (fun _ => ?_)
          · exact so_pick X [1, 2, 3, 5] rfl (hj73 h11)
          · refine so_aload_n (i := 0) X 1 (dkX4_leastNow (62, .aload_n 0, 1) (pgm 37 rfl)) rfl rfl ?_
            refine sf_getR X ff_4_0 lk_524 hk (dkX4_leastNow (63, .getfield 11, 3) (pgm 38 rfl)) ?_
            refine so_iload (i := 4) X 5 (dkX4_leastNow (66, .iload 4, 2) (pgm 39 rfl)) rfl ?_
            refine so_iald X (rk_4_0 this hk) (dkX4_leastNow (68, .iaload, 1) (pgm 40 rfl)) (fun x19 => ?_)
            refine so_iload_n (i := 3) X 4 (dkX4_leastNow (69, .iload_n 3, 1) (pgm 41 rfl)) rfl rfl ?_
            refine so_icmp_ge (tgt := 81) X (dkX4_leastNow (70, .if_icmp .ge 11, 3) (pgm 42 rfl)) rfl (fun _ => ?_) (fun _ => ?_)
            · exact so_pick X [1, 2, 3, 4, 5] rfl (hj81 s5.1 h11)
            · exact so_pick X [1, 2, 3, 5] rfl (hj73 h11)
      refine so_if_lt (tgt := 49) X (dkX4_leastNow (42, .ifCond .lt 7, 3) (pgm 27 rfl)) rfl (fun _ => ?_) (fun _ => ?_)
      · refine so_iconst (v := (0 : Int32)) X (dkX4_leastNow (49, .iconst 0, 1) (pgm 30 rfl)) ic_0 ?_
        exact so_pick X [0, 1, 2, 3, 4] rfl (hj50 (0 : Int32) h7)
      · refine so_iconst (v := (1 : Int32)) X (dkX4_leastNow (45, .iconst 1, 1) (pgm 28 rfl)) ic_1 ?_
        refine so_goto (tgt := 50) X (dkX4_leastNow (46, .goto 4, 3) (pgm 29 rfl)) rfl ?_
        exact so_pick X [0, 1, 2, 3, 4] rfl (hj50 (1 : Int32) h7)
def pgX5_take : List (Nat × Instr × Nat) := [(0, .aload_n 0, 1), (1, .aload_n 1, 1), (2, .getfield 19, 3), (5, .putfield 25, 3), (8, .aload_n 0, 1), (9, .getfield 25, 3), (12, .iconst 1, 1), (13, .if_icmp .lt 12, 3), (16, .aload_n 0, 1), (17, .getfield 25, 3), (20, .bipush 12, 2), (22, .if_icmp .le 5, 3), (25, .iconst 0, 1), (26, .ireturn, 1), (27, .iconst 0, 1), (28, .istore_n 2, 1), (29, .iload_n 2, 1), (30, .aload_n 0, 1), (31, .getfield 25, 3), (34, .if_icmp .ge 47, 3), (37, .aload_n 1, 1), (38, .getfield 26, 3), (41, .iload_n 2, 1), (42, .laload, 1), (43, .lstore_n 3, 1), (44, .lload_n 3, 1), (45, .lconst 0, 1), (46, .lcmp, 1), (47, .ifCond .lt 18, 3), (50, .lload_n 3, 1), (51, .iconst 1, 1), (52, .lshr, 1), (53, .aload_n 0, 1), (54, .getfield 15, 3), (57, .getfield 30, 3), (60, .i2l, 1), (61, .lcmp, 1), (62, .ifCond .le 5, 3), (65, .iconst 0, 1), (66, .ireturn, 1), (67, .aload_n 0, 1), (68, .getfield 11, 3), (71, .iload_n 2, 1), (72, .lload_n 3, 1), (73, .l2i, 1), (74, .iastore, 1), (75, .iinc 2 1, 3), (78, .goto (-49), 3), (81, .iconst 1, 1), (82, .ireturn, 1)]
theorem dkX5_take : ∀ q ∈ pgX5_take, decode cX5_take q.1 = .ok q.2 := by decide +kernel
def b_X5_take_29 (this : Nat) (a1 : Nat) (j65 : PH → Option (Int32 × PH)) (rec29 : (Int32) → PH → Option (Int32 × PH)) (s29 : Int32) (hh29 : PH) : Option (Int32 × PH) :=
  if (hh29.1 this 2) ≤ s29 then (zr (1 : Int32) hh29) else (ldL hh29 (rt a1 2) 30 s29 (fun (x5 : Int64) => lt x5 (fun (x6 : Int64) => if (lg_cmp x6 (0 : Int64)) < 0 then (j65 hh29) else (if (lg_cmp (x6 >>> ((1 : Int32).toInt64 &&& 63)) ((hh29.1 (rt this 0) 8).toInt64)) ≤ 0 then (stI hh29 (rt this 1) 12 s29 x6.toInt32 (fun (h7 : PH) => lt (s29 + Int32.ofInt 1) (fun (x8 : Int32) => rec29 x8 h7))) else (j65 hh29)))))
def f_X5_take (this : Nat) (a1 : Nat) (h0 : PH) : Option (Int32 × PH) :=
  lt (pI h0 this 2 (h0.1 a1 1)) (fun (h1 : PH) => lt (fun (h2 : PH) => zr (0 : Int32) h2) (fun (j25 : PH → Option (Int32 × PH)) => if (h1.1 this 2) < (1 : Int32) then (j25 h1) else (if (h1.1 this 2) ≤ (12 : Int32) then (lt (0 : Int32) (fun (x3 : Int32) => lt (fun (h4 : PH) => zr (0 : Int32) h4) (fun (j65 : PH → Option (Int32 × PH)) => lp (b_X5_take_29 this a1 j65) FU x3 h1))) else (j25 h1))))
set_option maxRecDepth 100000 in
set_option maxHeartbeats 4000000 in
theorem ct_X5_take (l : Launch) (this : Nat) (a1 : Nat) (h0 : PH) (hk : (kd this).1 = 5) (hk1 : (kd a1).1 = 10) : CT mkI l yX5_take cX5_take 5 (some .boolean) (rmd 0) [.ref this, .ref a1] h0 (f_X5_take this a1 h0) := by
  refine ct_of (by decide) (Nat.le_of_ble_eq_true rfl) ?_
  intro p e s m args below meth c D cA ad A X hr hlk
  have X : Cx p s m args c RX5 cX5_take 5 D cA ad A := X
  unfold f_X5_take
  refine so_pick (L' := [(0, .ref this), (1, .ref a1)]) X [0, 1] rfl ?_
  refine so_aload_n (i := 0) X 0 (dkX5_take (0, .aload_n 0, 1) (pgm 0 rfl)) rfl rfl ?_
  refine so_aload_n (i := 1) X 1 (dkX5_take (1, .aload_n 1, 1) (pgm 1 rfl)) rfl rfl ?_
  refine sf_getI X ff_10_1 lk_548 hk1 (dkX5_take (2, .getfield 19, 3) (pgm 2 rfl)) ?_
  refine sf_putI X ff_5_2 ft_5 rfl lk_459 hk rfl rfl (dkX5_take (5, .putfield 25, 3) (pgm 3 rfl)) (fun h1 => ?_)
  refine so_aload_n (i := 0) X 0 (dkX5_take (8, .aload_n 0, 1) (pgm 4 rfl)) rfl rfl ?_
  refine sf_getI X ff_5_2 lk_459 hk (dkX5_take (9, .getfield 25, 3) (pgm 5 rfl)) ?_
  refine so_iconst (v := (1 : Int32)) X (dkX5_take (12, .iconst 1, 1) (pgm 6 rfl)) ic_1 ?_
  refine so_join (jf := fun (h2 : PH) => zr (0 : Int32) h2) (fun (j : PH → Option (Int32 × PH)) => ∀  (h2 : PH), SWo (QM mkI below args s D cA ad A) p l e (rmd 0) s m args below meth c 0 0 5 D cA ad A 25 [] [] h2 (j h2)) ?_ (fun j25 hj25 => ?_)
  · intro h2
    refine so_iconst (v := (0 : Int32)) X (dkX5_take (25, .iconst 0, 1) (pgm 12 rfl)) ic_0 ?_
    exact so_zret X hr hlk (dkX5_take (26, .ireturn, 1) (pgm 13 rfl))
  refine so_icmp_lt (tgt := 25) X (dkX5_take (13, .if_icmp .lt 12, 3) (pgm 7 rfl)) rfl (fun _ => ?_) (fun _ => ?_)
  · exact so_pick X [] rfl (hj25 h1)
  · refine so_aload_n (i := 0) X 0 (dkX5_take (16, .aload_n 0, 1) (pgm 8 rfl)) rfl rfl ?_
    refine sf_getI X ff_5_2 lk_459 hk (dkX5_take (17, .getfield 25, 3) (pgm 9 rfl)) ?_
    refine so_bipush (v := (12 : Int32)) X (dkX5_take (20, .bipush 12, 2) (pgm 10 rfl)) bp_12 ?_
    refine so_icmp_le (tgt := 27) X (dkX5_take (22, .if_icmp .le 5, 3) (pgm 11 rfl)) rfl (fun _ => ?_) (fun _ => ?_)
    · refine so_iconst (v := (0 : Int32)) X (dkX5_take (27, .iconst 0, 1) (pgm 14 rfl)) ic_0 ?_
      refine so_istore_n (i := 2) X (dkX5_take (28, .istore_n 2, 1) (pgm 15 rfl)) rfl (by decide) (Lf := fun x3 => [(2, .int x3), (0, .ref this), (1, .ref a1)]) (fun _ => rfl) (fun x3 => ?_)
      refine so_join (jf := fun (h4 : PH) => zr (0 : Int32) h4) (fun (j : PH → Option (Int32 × PH)) => ∀  (h4 : PH), SWo (QM mkI below args s D cA ad A) p l e (rmd 0) s m args below meth c 0 0 5 D cA ad A 65 [] [] h4 (j h4)) ?_ (fun j65 hj65 => ?_)
      · intro h4
        refine so_iconst (v := (0 : Int32)) X (dkX5_take (65, .iconst 0, 1) (pgm 38 rfl)) ic_0 ?_
        exact so_zret X hr hlk (dkX5_take (66, .ireturn, 1) (pgm 39 rfl))
      refine so_pick (L' := [(0, .ref this), (1, .ref a1), (2, .int x3)]) X [1, 2, 0] rfl ?_
      refine so_loop (body := b_X5_take_29 this a1 j65) (fun (s29 : Int32) => [(0, .ref this), (1, .ref a1), (2, .int s29)]) (fun rec29 hrec29 s29 hh29 => ?_) FU x3 h1
      unfold b_X5_take_29
      refine so_iload_n (i := 2) X 2 (dkX5_take (29, .iload_n 2, 1) (pgm 16 rfl)) rfl rfl ?_
      refine so_aload_n (i := 0) X 0 (dkX5_take (30, .aload_n 0, 1) (pgm 17 rfl)) rfl rfl ?_
      refine sf_getI X ff_5_2 lk_459 hk (dkX5_take (31, .getfield 25, 3) (pgm 18 rfl)) ?_
      refine so_icmp_ge (tgt := 81) X (dkX5_take (34, .if_icmp .ge 47, 3) (pgm 19 rfl)) rfl (fun _ => ?_) (fun _ => ?_)
      · refine so_iconst (v := (1 : Int32)) X (dkX5_take (81, .iconst 1, 1) (pgm 48 rfl)) ic_1 ?_
        exact so_zret X hr hlk (dkX5_take (82, .ireturn, 1) (pgm 49 rfl))
      · refine so_aload_n (i := 1) X 1 (dkX5_take (37, .aload_n 1, 1) (pgm 20 rfl)) rfl rfl ?_
        refine sf_getR X ff_10_2 lk_552 hk1 (dkX5_take (38, .getfield 26, 3) (pgm 21 rfl)) ?_
        refine so_iload_n (i := 2) X 2 (dkX5_take (41, .iload_n 2, 1) (pgm 22 rfl)) rfl rfl ?_
        refine so_lald X (rk_10_2 a1 hk1) (dkX5_take (42, .laload, 1) (pgm 23 rfl)) (fun x5 => ?_)
        refine so_lstore_n (i := 3) X (dkX5_take (43, .lstore_n 3, 1) (pgm 24 rfl)) rfl (by decide) (Lf := fun x6 => [(3, .long x6), (0, .ref this), (1, .ref a1), (2, .int s29)]) (fun _ => rfl) (fun x6 => ?_)
        refine so_lload_n (i := 3) X 0 (dkX5_take (44, .lload_n 3, 1) (pgm 25 rfl)) rfl rfl ?_
        refine so_lconst (v := (0 : Int64)) X (dkX5_take (45, .lconst 0, 1) (pgm 26 rfl)) lc_0 ?_
        refine so_lcmp X (dkX5_take (46, .lcmp, 1) (pgm 27 rfl)) ?_
        refine so_if_lt (tgt := 65) X (dkX5_take (47, .ifCond .lt 18, 3) (pgm 28 rfl)) rfl (fun _ => ?_) (fun _ => ?_)
        · exact so_pick X [] rfl (hj65 hh29)
        · refine so_lload_n (i := 3) X 0 (dkX5_take (50, .lload_n 3, 1) (pgm 29 rfl)) rfl rfl ?_
          refine so_iconst (v := (1 : Int32)) X (dkX5_take (51, .iconst 1, 1) (pgm 30 rfl)) ic_1 ?_
          refine so_lshr X (dkX5_take (52, .lshr, 1) (pgm 31 rfl)) ?_
          refine so_aload_n (i := 0) X 1 (dkX5_take (53, .aload_n 0, 1) (pgm 32 rfl)) rfl rfl ?_
          refine sf_getR X ff_5_0 lk_457 hk (dkX5_take (54, .getfield 15, 3) (pgm 33 rfl)) ?_
          refine sf_getI X ff_8_8 lk_197 (fo (rk_5_0 this hk)) (dkX5_take (57, .getfield 30, 3) (pgm 34 rfl)) ?_
          refine so_i2l X (dkX5_take (60, .i2l, 1) (pgm 35 rfl)) ?_
          refine so_lcmp X (dkX5_take (61, .lcmp, 1) (pgm 36 rfl)) ?_
          refine so_if_le (tgt := 67) X (dkX5_take (62, .ifCond .le 5, 3) (pgm 37 rfl)) rfl (fun _ => ?_) (fun _ => ?_)
          · refine so_aload_n (i := 0) X 1 (dkX5_take (67, .aload_n 0, 1) (pgm 40 rfl)) rfl rfl ?_
            refine sf_getR X ff_5_1 lk_458 hk (dkX5_take (68, .getfield 11, 3) (pgm 41 rfl)) ?_
            refine so_iload_n (i := 2) X 3 (dkX5_take (71, .iload_n 2, 1) (pgm 42 rfl)) rfl rfl ?_
            refine so_lload_n (i := 3) X 0 (dkX5_take (72, .lload_n 3, 1) (pgm 43 rfl)) rfl rfl ?_
            refine so_l2i X (dkX5_take (73, .l2i, 1) (pgm 44 rfl)) ?_
            refine so_iast X (rk_5_1 this hk) (dkX5_take (74, .iastore, 1) (pgm 45 rfl)) (fun h7 => ?_)
            refine so_iinc (i := 2) X 3 (dkX5_take (75, .iinc 2 1, 3) (pgm 46 rfl)) rfl rfl (by decide) (Lf := fun x8 => [(2, .int x8), (3, .long x6), (0, .ref this), (1, .ref a1)]) (fun _ => rfl) (fun x8 => ?_)
            refine so_goto (tgt := 29) X (dkX5_take (78, .goto (-49), 3) (pgm 47 rfl)) rfl ?_
            exact so_pick X [2, 3, 0] rfl (hrec29 x8 h7)
          · exact so_pick X [] rfl (hj65 hh29)
    · exact so_pick X [] rfl (hj25 h1)
def pgX5_fits : List (Nat × Instr × Nat) := [(0, .iconst 0, 1), (1, .istore_n 3, 1), (2, .iload_n 3, 1), (3, .aload_n 0, 1), (4, .getfield 25, 3), (7, .if_icmp .ge 58, 3), (10, .aload_n 0, 1), (11, .getfield 11, 3), (14, .iload_n 3, 1), (15, .iaload, 1), (16, .iconst 1, 1), (17, .iand, 1), (18, .iconst 1, 1), (19, .if_icmp .ne 7, 3), (22, .iconst 1, 1), (23, .goto 4, 3), (26, .iconst 0, 1), (27, .istore 4, 2), (29, .aload_n 0, 1), (30, .getfield 11, 3), (33, .iload_n 3, 1), (34, .iaload, 1), (35, .iconst 1, 1), (36, .ishr, 1), (37, .iload_n 1, 1), (38, .iand, 1), (39, .iload_n 2, 1), (40, .if_icmp .ne 7, 3), (43, .iconst 1, 1), (44, .goto 4, 3), (47, .iconst 0, 1), (48, .istore 5, 2), (50, .iload 5, 2), (52, .iload 4, 2), (54, .if_icmp .eq 5, 3), (57, .iconst 0, 1), (58, .ireturn, 1), (59, .iinc 3 1, 3), (62, .goto (-60), 3), (65, .iconst 1, 1), (66, .ireturn, 1)]
theorem dkX5_fits : ∀ q ∈ pgX5_fits, decode cX5_fits q.1 = .ok q.2 := by decide +kernel
def b_X5_fits_2 (this : Nat) (a1 : Int32) (a2 : Int32) (rec2 : (Int32) → PH → Option (Int32 × PH)) (s2 : Int32) (hh2 : PH) : Option (Int32 × PH) :=
  if (hh2.1 this 2) ≤ s2 then (zr (1 : Int32) hh2) else (ldI hh2 (rt this 1) 12 s2 (fun (x2 : Int32) => lt (fun (t3 : Int32) (h4 : PH) => lt t3 (fun (x5 : Int32) => ldI h4 (rt this 1) 12 s2 (fun (x6 : Int32) => lt (fun (t7 : Int32) (h8 : PH) => lt t7 (fun (x9 : Int32) => if x9 = x5 then (lt (s2 + Int32.ofInt 1) (fun (x10 : Int32) => rec2 x10 h8)) else (zr (0 : Int32) h8))) (fun (j48 : Int32 → PH → Option (Int32 × PH)) => if ((x6 >>> ((1 : Int32) &&& 31)) &&& a1) = a2 then (j48 (1 : Int32) h4) else (j48 (0 : Int32) h4))))) (fun (j27 : Int32 → PH → Option (Int32 × PH)) => if (x2 &&& (1 : Int32)) = (1 : Int32) then (j27 (1 : Int32) hh2) else (j27 (0 : Int32) hh2))))
def f_X5_fits (this : Nat) (a1 : Int32) (a2 : Int32) (h0 : PH) : Option (Int32 × PH) :=
  lt (0 : Int32) (fun (x1 : Int32) => lp (b_X5_fits_2 this a1 a2) FU x1 h0)
set_option maxRecDepth 100000 in
set_option maxHeartbeats 4000000 in
theorem ct_X5_fits (l : Launch) (this : Nat) (a1 : Int32) (a2 : Int32) (h0 : PH) (hk : (kd this).1 = 5) : CT mkI l yX5_fits cX5_fits 6 (some .boolean) (rmd 0) [.ref this, .int a1, .int a2] h0 (f_X5_fits this a1 a2 h0) := by
  refine ct_of (by decide) (Nat.le_of_ble_eq_true rfl) ?_
  intro p e s m args below meth c D cA ad A X hr hlk
  have X : Cx p s m args c RX5 cX5_fits 6 D cA ad A := X
  unfold f_X5_fits
  refine so_pick (L' := [(0, .ref this), (1, .int a1), (2, .int a2)]) X [0, 1, 2] rfl ?_
  refine so_iconst (v := (0 : Int32)) X (dkX5_fits (0, .iconst 0, 1) (pgm 0 rfl)) ic_0 ?_
  refine so_istore_n (i := 3) X (dkX5_fits (1, .istore_n 3, 1) (pgm 1 rfl)) rfl (by decide) (Lf := fun x1 => [(3, .int x1), (0, .ref this), (1, .int a1), (2, .int a2)]) (fun _ => rfl) (fun x1 => ?_)
  refine so_pick (L' := [(0, .ref this), (1, .int a1), (2, .int a2), (3, .int x1)]) X [1, 2, 3, 0] rfl ?_
  refine so_loop (body := b_X5_fits_2 this a1 a2) (fun (s2 : Int32) => [(0, .ref this), (1, .int a1), (2, .int a2), (3, .int s2)]) (fun rec2 hrec2 s2 hh2 => ?_) FU x1 h0
  unfold b_X5_fits_2
  refine so_iload_n (i := 3) X 3 (dkX5_fits (2, .iload_n 3, 1) (pgm 2 rfl)) rfl rfl ?_
  refine so_aload_n (i := 0) X 0 (dkX5_fits (3, .aload_n 0, 1) (pgm 3 rfl)) rfl rfl ?_
  refine sf_getI X ff_5_2 lk_459 hk (dkX5_fits (4, .getfield 25, 3) (pgm 4 rfl)) ?_
  refine so_icmp_ge (tgt := 65) X (dkX5_fits (7, .if_icmp .ge 58, 3) (pgm 5 rfl)) rfl (fun _ => ?_) (fun _ => ?_)
  · refine so_iconst (v := (1 : Int32)) X (dkX5_fits (65, .iconst 1, 1) (pgm 39 rfl)) ic_1 ?_
    exact so_zret X hr hlk (dkX5_fits (66, .ireturn, 1) (pgm 40 rfl))
  · refine so_aload_n (i := 0) X 0 (dkX5_fits (10, .aload_n 0, 1) (pgm 6 rfl)) rfl rfl ?_
    refine sf_getR X ff_5_1 lk_458 hk (dkX5_fits (11, .getfield 11, 3) (pgm 7 rfl)) ?_
    refine so_iload_n (i := 3) X 3 (dkX5_fits (14, .iload_n 3, 1) (pgm 8 rfl)) rfl rfl ?_
    refine so_iald X (rk_5_1 this hk) (dkX5_fits (15, .iaload, 1) (pgm 9 rfl)) (fun x2 => ?_)
    refine so_iconst (v := (1 : Int32)) X (dkX5_fits (16, .iconst 1, 1) (pgm 10 rfl)) ic_1 ?_
    refine so_iand X (dkX5_fits (17, .iand, 1) (pgm 11 rfl)) ?_
    refine so_iconst (v := (1 : Int32)) X (dkX5_fits (18, .iconst 1, 1) (pgm 12 rfl)) ic_1 ?_
    refine so_join (jf := fun (t3 : Int32) (h4 : PH) => lt t3 (fun (x5 : Int32) => ldI h4 (rt this 1) 12 s2 (fun (x6 : Int32) => lt (fun (t7 : Int32) (h8 : PH) => lt t7 (fun (x9 : Int32) => if x9 = x5 then (lt (s2 + Int32.ofInt 1) (fun (x10 : Int32) => rec2 x10 h8)) else (zr (0 : Int32) h8))) (fun (j48 : Int32 → PH → Option (Int32 × PH)) => if ((x6 >>> ((1 : Int32) &&& 31)) &&& a1) = a2 then (j48 (1 : Int32) h4) else (j48 (0 : Int32) h4))))) (fun (j : Int32 → PH → Option (Int32 × PH)) => ∀ (t3 : Int32) (h4 : PH), SWo (QM mkI below args s D cA ad A) p l e (rmd 0) s m args below meth c 0 0 6 D cA ad A 27 [(0, .ref this), (1, .int a1), (2, .int a2), (3, .int s2)] [.int t3] h4 (j t3 h4)) ?_ (fun j27 hj27 => ?_)
    · intro t3 h4
      refine so_istore (i := 4) X (dkX5_fits (27, .istore 4, 2) (pgm 17 rfl)) (by decide) (Lf := fun x5 => [(4, .int x5), (0, .ref this), (1, .int a1), (2, .int a2), (3, .int s2)]) (fun _ => rfl) (fun x5 => ?_)
      refine so_aload_n (i := 0) X 1 (dkX5_fits (29, .aload_n 0, 1) (pgm 18 rfl)) rfl rfl ?_
      refine sf_getR X ff_5_1 lk_458 hk (dkX5_fits (30, .getfield 11, 3) (pgm 19 rfl)) ?_
      refine so_iload_n (i := 3) X 4 (dkX5_fits (33, .iload_n 3, 1) (pgm 20 rfl)) rfl rfl ?_
      refine so_iald X (rk_5_1 this hk) (dkX5_fits (34, .iaload, 1) (pgm 21 rfl)) (fun x6 => ?_)
      refine so_iconst (v := (1 : Int32)) X (dkX5_fits (35, .iconst 1, 1) (pgm 22 rfl)) ic_1 ?_
      refine so_ishr X (dkX5_fits (36, .ishr, 1) (pgm 23 rfl)) ?_
      refine so_iload_n (i := 1) X 2 (dkX5_fits (37, .iload_n 1, 1) (pgm 24 rfl)) rfl rfl ?_
      refine so_iand X (dkX5_fits (38, .iand, 1) (pgm 25 rfl)) ?_
      refine so_iload_n (i := 2) X 3 (dkX5_fits (39, .iload_n 2, 1) (pgm 26 rfl)) rfl rfl ?_
      refine so_join (jf := fun (t7 : Int32) (h8 : PH) => lt t7 (fun (x9 : Int32) => if x9 = x5 then (lt (s2 + Int32.ofInt 1) (fun (x10 : Int32) => rec2 x10 h8)) else (zr (0 : Int32) h8))) (fun (j : Int32 → PH → Option (Int32 × PH)) => ∀ (t7 : Int32) (h8 : PH), SWo (QM mkI below args s D cA ad A) p l e (rmd 0) s m args below meth c 0 0 6 D cA ad A 48 [(0, .ref this), (1, .int a1), (2, .int a2), (3, .int s2), (4, .int x5)] [.int t7] h8 (j t7 h8)) ?_ (fun j48 hj48 => ?_)
      · intro t7 h8
        refine so_istore (i := 5) X (dkX5_fits (48, .istore 5, 2) (pgm 31 rfl)) (by decide) (Lf := fun x9 => [(5, .int x9), (0, .ref this), (1, .int a1), (2, .int a2), (3, .int s2), (4, .int x5)]) (fun _ => rfl) (fun x9 => ?_)
        refine so_iload (i := 5) X 0 (dkX5_fits (50, .iload 5, 2) (pgm 32 rfl)) rfl ?_
        refine so_iload (i := 4) X 5 (dkX5_fits (52, .iload 4, 2) (pgm 33 rfl)) rfl ?_
        refine so_icmp_eq (tgt := 59) X (dkX5_fits (54, .if_icmp .eq 5, 3) (pgm 34 rfl)) rfl (fun _ => ?_) (fun _ => ?_)
        · refine so_iinc (i := 3) X 4 (dkX5_fits (59, .iinc 3 1, 3) (pgm 37 rfl)) rfl rfl (by decide) (Lf := fun x10 => [(3, .int x10), (5, .int x9), (0, .ref this), (1, .int a1), (2, .int a2), (4, .int x5)]) (fun _ => rfl) (fun x10 => ?_)
          refine so_goto (tgt := 2) X (dkX5_fits (62, .goto (-60), 3) (pgm 38 rfl)) rfl ?_
          exact so_pick X [2, 3, 4, 0] rfl (hrec2 x10 h8)
        · refine so_iconst (v := (0 : Int32)) X (dkX5_fits (57, .iconst 0, 1) (pgm 35 rfl)) ic_0 ?_
          exact so_zret X hr hlk (dkX5_fits (58, .ireturn, 1) (pgm 36 rfl))
      refine so_icmp_ne (tgt := 47) X (dkX5_fits (40, .if_icmp .ne 7, 3) (pgm 27 rfl)) rfl (fun _ => ?_) (fun _ => ?_)
      · refine so_iconst (v := (0 : Int32)) X (dkX5_fits (47, .iconst 0, 1) (pgm 30 rfl)) ic_0 ?_
        exact so_pick X [1, 2, 3, 4, 0] rfl (hj48 (0 : Int32) h4)
      · refine so_iconst (v := (1 : Int32)) X (dkX5_fits (43, .iconst 1, 1) (pgm 28 rfl)) ic_1 ?_
        refine so_goto (tgt := 48) X (dkX5_fits (44, .goto 4, 3) (pgm 29 rfl)) rfl ?_
        exact so_pick X [1, 2, 3, 4, 0] rfl (hj48 (1 : Int32) h4)
    refine so_icmp_ne (tgt := 26) X (dkX5_fits (19, .if_icmp .ne 7, 3) (pgm 13 rfl)) rfl (fun _ => ?_) (fun _ => ?_)
    · refine so_iconst (v := (0 : Int32)) X (dkX5_fits (26, .iconst 0, 1) (pgm 16 rfl)) ic_0 ?_
      exact so_pick X [0, 1, 2, 3] rfl (hj27 (0 : Int32) hh2)
    · refine so_iconst (v := (1 : Int32)) X (dkX5_fits (22, .iconst 1, 1) (pgm 14 rfl)) ic_1 ?_
      refine so_goto (tgt := 27) X (dkX5_fits (23, .goto 4, 3) (pgm 15 rfl)) rfl ?_
      exact so_pick X [0, 1, 2, 3] rfl (hj27 (1 : Int32) hh2)
def pgX5_keep : List (Nat × Instr × Nat) := [(0, .aload_n 0, 1), (1, .getfield 35, 3), (4, .ifCond .ne 13, 3), (7, .aload_n 0, 1), (8, .iload_n 1, 1), (9, .putfield 54, 3), (12, .aload_n 0, 1), (13, .iload_n 2, 1), (14, .putfield 57, 3), (17, .aload_n 0, 1), (18, .dup, 1), (19, .getfield 35, 3), (22, .iconst 1, 1), (23, .iadd, 1), (24, .putfield 35, 3), (27, .return_, 1)]
theorem dkX5_keep : ∀ q ∈ pgX5_keep, decode cX5_keep q.1 = .ok q.2 := by decide +kernel
def f_X5_keep (this : Nat) (a1 : Int32) (a2 : Int32) (h0 : PH) : Option (Unit × PH) :=
  lt (fun (h1 : PH) => lt (pI h1 this 6 ((h1.1 this 6) + (1 : Int32))) (fun (h2 : PH) => some ((), h2))) (fun (j17 : PH → Option (Unit × PH)) => if (h0.1 this 6) = 0 then (lt (pI h0 this 3 a1) (fun (h3 : PH) => lt (pI h3 this 4 a2) (fun (h4 : PH) => j17 h4))) else (j17 h0))
set_option maxRecDepth 100000 in
set_option maxHeartbeats 4000000 in
theorem ct_X5_keep (l : Launch) (this : Nat) (a1 : Int32) (a2 : Int32) (h0 : PH) (hk : (kd this).1 = 5) : CT mkV l yX5_keep cX5_keep 3 none (rmd 0) [.ref this, .int a1, .int a2] h0 (f_X5_keep this a1 a2 h0) := by
  refine ct_of (by decide) (Nat.le_of_ble_eq_true rfl) ?_
  intro p e s m args below meth c D cA ad A X hr hlk
  have X : Cx p s m args c RX5 cX5_keep 3 D cA ad A := X
  unfold f_X5_keep
  refine so_pick (L' := [(0, .ref this), (1, .int a1), (2, .int a2)]) X [0, 1, 2] rfl ?_
  refine so_aload_n (i := 0) X 0 (dkX5_keep (0, .aload_n 0, 1) (pgm 0 rfl)) rfl rfl ?_
  refine sf_getI X ff_5_6 lk_464 hk (dkX5_keep (1, .getfield 35, 3) (pgm 1 rfl)) ?_
  refine so_join (jf := fun (h1 : PH) => lt (pI h1 this 6 ((h1.1 this 6) + (1 : Int32))) (fun (h2 : PH) => some ((), h2))) (fun (j : PH → Option (Unit × PH)) => ∀  (h1 : PH), SWo (QM mkV below args s D cA ad A) p l e (rmd 0) s m args below meth c 0 0 3 D cA ad A 17 [(0, .ref this)] [] h1 (j h1)) ?_ (fun j17 hj17 => ?_)
  · intro h1
    refine so_aload_n (i := 0) X 0 (dkX5_keep (17, .aload_n 0, 1) (pgm 9 rfl)) rfl rfl ?_
    refine so_dup X (dkX5_keep (18, .dup, 1) (pgm 10 rfl)) rfl ?_
    refine sf_getI X ff_5_6 lk_464 hk (dkX5_keep (19, .getfield 35, 3) (pgm 11 rfl)) ?_
    refine so_iconst (v := (1 : Int32)) X (dkX5_keep (22, .iconst 1, 1) (pgm 12 rfl)) ic_1 ?_
    refine so_iadd X (dkX5_keep (23, .iadd, 1) (pgm 13 rfl)) ?_
    refine sf_putI X ff_5_6 ft_5 rfl lk_464 hk rfl rfl (dkX5_keep (24, .putfield 35, 3) (pgm 14 rfl)) (fun h2 => ?_)
    exact so_vret X hr hlk (dkX5_keep (27, .return_, 1) (pgm 15 rfl))
  refine so_if_ne (tgt := 17) X (dkX5_keep (4, .ifCond .ne 13, 3) (pgm 2 rfl)) rfl (fun _ => ?_) (fun _ => ?_)
  · exact so_pick X [0] rfl (hj17 h0)
  · refine so_aload_n (i := 0) X 0 (dkX5_keep (7, .aload_n 0, 1) (pgm 3 rfl)) rfl rfl ?_
    refine so_iload_n (i := 1) X 1 (dkX5_keep (8, .iload_n 1, 1) (pgm 4 rfl)) rfl rfl ?_
    refine sf_putI X ff_5_3 ft_5 rfl lk_460 hk rfl rfl (dkX5_keep (9, .putfield 54, 3) (pgm 5 rfl)) (fun h3 => ?_)
    refine so_aload_n (i := 0) X 0 (dkX5_keep (12, .aload_n 0, 1) (pgm 6 rfl)) rfl rfl ?_
    refine so_iload_n (i := 2) X 2 (dkX5_keep (13, .iload_n 2, 1) (pgm 7 rfl)) rfl rfl ?_
    refine sf_putI X ff_5_4 ft_5 rfl lk_461 hk rfl rfl (dkX5_keep (14, .putfield 57, 3) (pgm 8 rfl)) (fun h4 => ?_)
    exact so_pick X [0] rfl (hj17 h4)
def pgX5_numberAt : List (Nat × Instr × Nat) := [(0, .iload_n 1, 1), (1, .aload_n 0, 1), (2, .getfield 38, 3), (5, .if_icmp .lt 5, 3), (8, .iconst (-1), 1), (9, .ireturn, 1), (10, .iconst 0, 1), (11, .istore_n 2, 1), (12, .iconst 0, 1), (13, .istore_n 3, 1), (14, .iload_n 3, 1), (15, .aload_n 0, 1), (16, .getfield 15, 3), (19, .getfield 53, 3), (22, .if_icmp .ge 42, 3), (25, .aload_n 0, 1), (26, .getfield 54, 3), (29, .iload_n 3, 1), (30, .ishr, 1), (31, .iconst 1, 1), (32, .iand, 1), (33, .iconst 1, 1), (34, .if_icmp .ne 24, 3), (37, .iload_n 2, 1), (38, .iload_n 1, 1), (39, .if_icmp .ne 16, 3), (42, .iconst 2, 1), (43, .iload_n 3, 1), (44, .imul, 1), (45, .aload_n 0, 1), (46, .getfield 57, 3), (49, .iload_n 3, 1), (50, .ishr, 1), (51, .iconst 1, 1), (52, .iand, 1), (53, .iadd, 1), (54, .ireturn, 1), (55, .iinc 2 1, 3), (58, .iinc 3 1, 3), (61, .goto (-47), 3), (64, .iconst (-1), 1), (65, .ireturn, 1)]
theorem dkX5_numberAt : ∀ q ∈ pgX5_numberAt, decode cX5_numberAt q.1 = .ok q.2 := by decide +kernel
def b_X5_numberAt_14 (this : Nat) (a1 : Int32) (j42 : Int32 → PH → Option (Int32 × PH)) (rec14 : (Int32 × Int32) → PH → Option (Int32 × PH)) (s14 : Int32 × Int32) (hh14 : PH) : Option (Int32 × PH) :=
  if (hh14.1 (rt this 0) 7) ≤ s14.2 then (some ((-1 : Int32), hh14)) else (lt (fun (y5 : Int32) (h6 : PH) => lt (s14.2 + Int32.ofInt 1) (fun (x7 : Int32) => rec14 (y5, x7) h6)) (fun (j58 : Int32 → PH → Option (Int32 × PH)) => if (((hh14.1 this 3) >>> (s14.2 &&& 31)) &&& (1 : Int32)) = (1 : Int32) then (if s14.1 = a1 then (j42 s14.2 hh14) else (lt (s14.1 + Int32.ofInt 1) (fun (x8 : Int32) => j58 x8 hh14))) else (j58 s14.1 hh14)))
def f_X5_numberAt (this : Nat) (a1 : Int32) (h0 : PH) : Option (Int32 × PH) :=
  if a1 < (h0.1 this 5) then (lt (0 : Int32) (fun (x1 : Int32) => lt (0 : Int32) (fun (x2 : Int32) => lt (fun (y3 : Int32) (h4 : PH) => some ((((2 : Int32) * y3) + (((h4.1 this 4) >>> (y3 &&& 31)) &&& (1 : Int32))), h4)) (fun (j42 : Int32 → PH → Option (Int32 × PH)) => lp (b_X5_numberAt_14 this a1 j42) FU (x1, x2) h0)))) else (some ((-1 : Int32), h0))
set_option maxRecDepth 100000 in
set_option maxHeartbeats 4000000 in
theorem ct_X5_numberAt (l : Launch) (this : Nat) (a1 : Int32) (h0 : PH) (hk : (kd this).1 = 5) : CT mkI l yX5_numberAt cX5_numberAt 4 (some .int) (rmd 0) [.ref this, .int a1] h0 (f_X5_numberAt this a1 h0) := by
  refine ct_of (by decide) (Nat.le_of_ble_eq_true rfl) ?_
  intro p e s m args below meth c D cA ad A X hr hlk
  have X : Cx p s m args c RX5 cX5_numberAt 4 D cA ad A := X
  unfold f_X5_numberAt
  refine so_pick (L' := [(0, .ref this), (1, .int a1)]) X [0, 1] rfl ?_
  refine so_iload_n (i := 1) X 1 (dkX5_numberAt (0, .iload_n 1, 1) (pgm 0 rfl)) rfl rfl ?_
  refine so_aload_n (i := 0) X 0 (dkX5_numberAt (1, .aload_n 0, 1) (pgm 1 rfl)) rfl rfl ?_
  refine sf_getI X ff_5_5 lk_462 hk (dkX5_numberAt (2, .getfield 38, 3) (pgm 2 rfl)) ?_
  refine so_icmp_lt (tgt := 10) X (dkX5_numberAt (5, .if_icmp .lt 5, 3) (pgm 3 rfl)) rfl (fun _ => ?_) (fun _ => ?_)
  · refine so_iconst (v := (0 : Int32)) X (dkX5_numberAt (10, .iconst 0, 1) (pgm 6 rfl)) ic_0 ?_
    refine so_istore_n (i := 2) X (dkX5_numberAt (11, .istore_n 2, 1) (pgm 7 rfl)) rfl (by decide) (Lf := fun x1 => [(2, .int x1), (0, .ref this), (1, .int a1)]) (fun _ => rfl) (fun x1 => ?_)
    refine so_iconst (v := (0 : Int32)) X (dkX5_numberAt (12, .iconst 0, 1) (pgm 8 rfl)) ic_0 ?_
    refine so_istore_n (i := 3) X (dkX5_numberAt (13, .istore_n 3, 1) (pgm 9 rfl)) rfl (by decide) (Lf := fun x2 => [(3, .int x2), (2, .int x1), (0, .ref this), (1, .int a1)]) (fun _ => rfl) (fun x2 => ?_)
    refine so_join (jf := fun (y3 : Int32) (h4 : PH) => some ((((2 : Int32) * y3) + (((h4.1 this 4) >>> (y3 &&& 31)) &&& (1 : Int32))), h4)) (fun (j : Int32 → PH → Option (Int32 × PH)) => ∀ (y3 : Int32) (h4 : PH), SWo (QM mkI below args s D cA ad A) p l e (rmd 0) s m args below meth c 0 0 4 D cA ad A 42 [(0, .ref this), (3, .int y3)] [] h4 (j y3 h4)) ?_ (fun j42 hj42 => ?_)
    · intro y3 h4
      refine so_iconst (v := (2 : Int32)) X (dkX5_numberAt (42, .iconst 2, 1) (pgm 26 rfl)) ic_2 ?_
      refine so_iload_n (i := 3) X 1 (dkX5_numberAt (43, .iload_n 3, 1) (pgm 27 rfl)) rfl rfl ?_
      refine so_imul X (dkX5_numberAt (44, .imul, 1) (pgm 28 rfl)) ?_
      refine so_aload_n (i := 0) X 0 (dkX5_numberAt (45, .aload_n 0, 1) (pgm 29 rfl)) rfl rfl ?_
      refine sf_getI X ff_5_4 lk_461 hk (dkX5_numberAt (46, .getfield 57, 3) (pgm 30 rfl)) ?_
      refine so_iload_n (i := 3) X 1 (dkX5_numberAt (49, .iload_n 3, 1) (pgm 31 rfl)) rfl rfl ?_
      refine so_ishr X (dkX5_numberAt (50, .ishr, 1) (pgm 32 rfl)) ?_
      refine so_iconst (v := (1 : Int32)) X (dkX5_numberAt (51, .iconst 1, 1) (pgm 33 rfl)) ic_1 ?_
      refine so_iand X (dkX5_numberAt (52, .iand, 1) (pgm 34 rfl)) ?_
      refine so_iadd X (dkX5_numberAt (53, .iadd, 1) (pgm 35 rfl)) ?_
      exact so_iret X hr hlk (dkX5_numberAt (54, .ireturn, 1) (pgm 36 rfl))
    refine so_pick (L' := [(0, .ref this), (1, .int a1), (2, .int x1), (3, .int x2)]) X [2, 3, 1, 0] rfl ?_
    refine so_loop (body := b_X5_numberAt_14 this a1 j42) (fun (s14 : Int32 × Int32) => [(0, .ref this), (1, .int a1), (2, .int s14.1), (3, .int s14.2)]) (fun rec14 hrec14 s14 hh14 => ?_) FU (x1, x2) h0
    unfold b_X5_numberAt_14
    refine so_iload_n (i := 3) X 3 (dkX5_numberAt (14, .iload_n 3, 1) (pgm 10 rfl)) rfl rfl ?_
    refine so_aload_n (i := 0) X 0 (dkX5_numberAt (15, .aload_n 0, 1) (pgm 11 rfl)) rfl rfl ?_
    refine sf_getR X ff_5_0 lk_457 hk (dkX5_numberAt (16, .getfield 15, 3) (pgm 12 rfl)) ?_
    refine sf_getI X ff_8_7 lk_195 (fo (rk_5_0 this hk)) (dkX5_numberAt (19, .getfield 53, 3) (pgm 13 rfl)) ?_
    refine so_icmp_ge (tgt := 64) X (dkX5_numberAt (22, .if_icmp .ge 42, 3) (pgm 14 rfl)) rfl (fun _ => ?_) (fun _ => ?_)
    · refine so_iconst (v := (-1 : Int32)) X (dkX5_numberAt (64, .iconst (-1), 1) (pgm 40 rfl)) ic_m1 ?_
      exact so_iret X hr hlk (dkX5_numberAt (65, .ireturn, 1) (pgm 41 rfl))
    · refine so_aload_n (i := 0) X 0 (dkX5_numberAt (25, .aload_n 0, 1) (pgm 15 rfl)) rfl rfl ?_
      refine sf_getI X ff_5_3 lk_460 hk (dkX5_numberAt (26, .getfield 54, 3) (pgm 16 rfl)) ?_
      refine so_iload_n (i := 3) X 3 (dkX5_numberAt (29, .iload_n 3, 1) (pgm 17 rfl)) rfl rfl ?_
      refine so_ishr X (dkX5_numberAt (30, .ishr, 1) (pgm 18 rfl)) ?_
      refine so_iconst (v := (1 : Int32)) X (dkX5_numberAt (31, .iconst 1, 1) (pgm 19 rfl)) ic_1 ?_
      refine so_iand X (dkX5_numberAt (32, .iand, 1) (pgm 20 rfl)) ?_
      refine so_iconst (v := (1 : Int32)) X (dkX5_numberAt (33, .iconst 1, 1) (pgm 21 rfl)) ic_1 ?_
      refine so_join (jf := fun (y5 : Int32) (h6 : PH) => lt (s14.2 + Int32.ofInt 1) (fun (x7 : Int32) => rec14 (y5, x7) h6)) (fun (j : Int32 → PH → Option (Int32 × PH)) => ∀ (y5 : Int32) (h6 : PH), SWo (QM mkI below args s D cA ad A) p l e (rmd 0) s m args below meth c 0 0 4 D cA ad A 58 [(0, .ref this), (1, .int a1), (2, .int y5), (3, .int s14.2)] [] h6 (j y5 h6)) ?_ (fun j58 hj58 => ?_)
      · intro y5 h6
        refine so_iinc (i := 3) X 3 (dkX5_numberAt (58, .iinc 3 1, 3) (pgm 38 rfl)) rfl rfl (by decide) (Lf := fun x7 => [(3, .int x7), (0, .ref this), (1, .int a1), (2, .int y5)]) (fun _ => rfl) (fun x7 => ?_)
        refine so_goto (tgt := 14) X (dkX5_numberAt (61, .goto (-47), 3) (pgm 39 rfl)) rfl ?_
        exact so_pick X [1, 2, 3, 0] rfl (hrec14 (y5, x7) h6)
      refine so_icmp_ne (tgt := 58) X (dkX5_numberAt (34, .if_icmp .ne 24, 3) (pgm 22 rfl)) rfl (fun _ => ?_) (fun _ => ?_)
      · exact so_pick X [0, 1, 2, 3] rfl (hj58 s14.1 hh14)
      · refine so_iload_n (i := 2) X 2 (dkX5_numberAt (37, .iload_n 2, 1) (pgm 23 rfl)) rfl rfl ?_
        refine so_iload_n (i := 1) X 1 (dkX5_numberAt (38, .iload_n 1, 1) (pgm 24 rfl)) rfl rfl ?_
        refine so_icmp_ne (tgt := 55) X (dkX5_numberAt (39, .if_icmp .ne 16, 3) (pgm 25 rfl)) rfl (fun _ => ?_) (fun _ => ?_)
        · refine so_iinc (i := 2) X 2 (dkX5_numberAt (55, .iinc 2 1, 3) (pgm 37 rfl)) rfl rfl (by decide) (Lf := fun x8 => [(2, .int x8), (0, .ref this), (1, .int a1), (3, .int s14.2)]) (fun _ => rfl) (fun x8 => ?_)
          exact so_pick X [1, 2, 0, 3] rfl (hj58 x8 hh14)
        · exact so_pick X [0, 3] rfl (hj42 s14.2 hh14)
  · refine so_iconst (v := (-1 : Int32)) X (dkX5_numberAt (8, .iconst (-1), 1) (pgm 4 rfl)) ic_m1 ?_
    exact so_iret X hr hlk (dkX5_numberAt (9, .ireturn, 1) (pgm 5 rfl))
def pgX6_refuse : List (Nat × Instr × Nat) := [(0, .aload_n 0, 1), (1, .aload_n 0, 1), (2, .getfield 24, 3), (5, .getfield 51, 3), (8, .iconst 1, 1), (9, .if_icmp .ne 7, 3), (12, .iconst 1, 1), (13, .goto 4, 3), (16, .iload_n 1, 1), (17, .putfield 37, 3), (20, .aload_n 0, 1), (21, .aload_n 0, 1), (22, .getfield 24, 3), (25, .getfield 66, 3), (28, .putfield 15, 3), (31, .iconst 0, 1), (32, .ireturn, 1)]
theorem dkX6_refuse : ∀ q ∈ pgX6_refuse, decode cX6_refuse q.1 = .ok q.2 := by decide +kernel
def f_X6_refuse (this : Nat) (a1 : Int32) (h0 : PH) : Option (Int32 × PH) :=
  lt (fun (t1 : Int32) (h2 : PH) => lt (pI h2 this 10 t1) (fun (h3 : PH) => lt (pI h3 this 11 (h3.1 (rt this 0) 3)) (fun (h4 : PH) => zr (0 : Int32) h4))) (fun (j17 : Int32 → PH → Option (Int32 × PH)) => if (h0.1 (rt this 0) 4) = (1 : Int32) then (j17 (1 : Int32) h0) else (j17 a1 h0))
set_option maxRecDepth 100000 in
set_option maxHeartbeats 4000000 in
theorem ct_X6_refuse (l : Launch) (this : Nat) (a1 : Int32) (h0 : PH) (hk : (kd this).1 = 6) : CT mkI l yX6_refuse cX6_refuse 2 (some .boolean) (rmd 0) [.ref this, .int a1] h0 (f_X6_refuse this a1 h0) := by
  refine ct_of (by decide) (Nat.le_of_ble_eq_true rfl) ?_
  intro p e s m args below meth c D cA ad A X hr hlk
  have X : Cx p s m args c RX6 cX6_refuse 2 D cA ad A := X
  unfold f_X6_refuse
  refine so_pick (L' := [(0, .ref this), (1, .int a1)]) X [0, 1] rfl ?_
  refine so_aload_n (i := 0) X 0 (dkX6_refuse (0, .aload_n 0, 1) (pgm 0 rfl)) rfl rfl ?_
  refine so_aload_n (i := 0) X 0 (dkX6_refuse (1, .aload_n 0, 1) (pgm 1 rfl)) rfl rfl ?_
  refine sf_getR X ff_6_0 lk_288 hk (dkX6_refuse (2, .getfield 24, 3) (pgm 2 rfl)) ?_
  refine sf_getI X ff_9_4 lk_275 (fo (rk_6_0 this hk)) (dkX6_refuse (5, .getfield 51, 3) (pgm 3 rfl)) ?_
  refine so_iconst (v := (1 : Int32)) X (dkX6_refuse (8, .iconst 1, 1) (pgm 4 rfl)) ic_1 ?_
  refine so_join (jf := fun (t1 : Int32) (h2 : PH) => lt (pI h2 this 10 t1) (fun (h3 : PH) => lt (pI h3 this 11 (h3.1 (rt this 0) 3)) (fun (h4 : PH) => zr (0 : Int32) h4))) (fun (j : Int32 → PH → Option (Int32 × PH)) => ∀ (t1 : Int32) (h2 : PH), SWo (QM mkI below args s D cA ad A) p l e (rmd 0) s m args below meth c 0 0 2 D cA ad A 17 [(0, .ref this)] [.int t1, .ref this] h2 (j t1 h2)) ?_ (fun j17 hj17 => ?_)
  · intro t1 h2
    refine sf_putI X ff_6_10 ft_6 rfl lk_298 hk rfl rfl (dkX6_refuse (17, .putfield 37, 3) (pgm 9 rfl)) (fun h3 => ?_)
    refine so_aload_n (i := 0) X 0 (dkX6_refuse (20, .aload_n 0, 1) (pgm 10 rfl)) rfl rfl ?_
    refine so_aload_n (i := 0) X 0 (dkX6_refuse (21, .aload_n 0, 1) (pgm 11 rfl)) rfl rfl ?_
    refine sf_getR X ff_6_0 lk_288 hk (dkX6_refuse (22, .getfield 24, 3) (pgm 12 rfl)) ?_
    refine sf_getI X ff_9_3 lk_274 (fo (rk_6_0 this hk)) (dkX6_refuse (25, .getfield 66, 3) (pgm 13 rfl)) ?_
    refine sf_putI X ff_6_11 ft_6 rfl lk_300 hk rfl rfl (dkX6_refuse (28, .putfield 15, 3) (pgm 14 rfl)) (fun h4 => ?_)
    refine so_iconst (v := (0 : Int32)) X (dkX6_refuse (31, .iconst 0, 1) (pgm 15 rfl)) ic_0 ?_
    exact so_zret X hr hlk (dkX6_refuse (32, .ireturn, 1) (pgm 16 rfl))
  refine so_icmp_ne (tgt := 16) X (dkX6_refuse (9, .if_icmp .ne 7, 3) (pgm 5 rfl)) rfl (fun _ => ?_) (fun _ => ?_)
  · refine so_iload_n (i := 1) X 1 (dkX6_refuse (16, .iload_n 1, 1) (pgm 8 rfl)) rfl rfl ?_
    exact so_pick X [0] rfl (hj17 a1 h0)
  · refine so_iconst (v := (1 : Int32)) X (dkX6_refuse (12, .iconst 1, 1) (pgm 6 rfl)) ic_1 ?_
    refine so_goto (tgt := 17) X (dkX6_refuse (13, .goto 4, 3) (pgm 7 rfl)) rfl ?_
    exact so_pick X [0] rfl (hj17 (1 : Int32) h0)
def pgX7_sayAsItIs : List (Nat × Instr × Nat) := [(0, .aload_n 0, 1), (1, .getfield 18, 3), (4, .getfield 37, 3), (7, .iconst 0, 1), (8, .aload_n 0, 1), (9, .getfield 9, 3), (12, .iconst 0, 1), (13, .bipush 10, 2), (15, .invokestatic 42, 3), (18, .aload_n 0, 1), (19, .getfield 22, 3), (22, .getfield 48, 3), (25, .iconst 0, 1), (26, .aload_n 0, 1), (27, .getfield 15, 3), (30, .iconst 0, 1), (31, .bipush 10, 2), (33, .invokestatic 42, 3), (36, .aload_n 0, 1), (37, .aload_n 0, 1), (38, .getfield 22, 3), (41, .getfield 53, 3), (44, .putfield 57, 3), (47, .return_, 1)]
theorem dkX7_sayAsItIs : ∀ q ∈ pgX7_sayAsItIs, decode cX7_sayAsItIs q.1 = .ok q.2 := by decide +kernel
def f_X7_sayAsItIs (this : Nat) (h0 : PH) : Option (Unit × PH) :=
  cyI h0 (rt (rt this 0) 13) 10 (rt this 3) 10 (0 : Int32) (0 : Int32) (10 : Int32) (fun (h1 : PH) => cyI h1 (rt (rt this 1) 1) 10 (rt this 4) 10 (0 : Int32) (0 : Int32) (10 : Int32) (fun (h2 : PH) => lt (pI h2 this 5 (h2.1 (rt this 1) 0)) (fun (h3 : PH) => some ((), h3))))
set_option maxRecDepth 100000 in
set_option maxHeartbeats 4000000 in
theorem ct_X7_sayAsItIs (l : Launch) (this : Nat) (h0 : PH) (hk : (kd this).1 = 7) : CT mkV l yX7_sayAsItIs cX7_sayAsItIs 1 none (rmd 1) [.ref this] h0 (f_X7_sayAsItIs this h0) := by
  refine ct_of (by decide) (Nat.le_of_ble_eq_true rfl) ?_
  intro p e s m args below meth c D cA ad A X hr hlk
  have X : Cx p s m args c RX7 cX7_sayAsItIs 1 D cA ad A := X
  unfold f_X7_sayAsItIs
  refine so_pick (L' := [(0, .ref this)]) X [0] rfl ?_
  refine so_aload_n (i := 0) X 0 (dkX7_sayAsItIs (0, .aload_n 0, 1) (pgm 0 rfl)) rfl rfl ?_
  refine sf_getR X ff_7_0 lk_424 hk (dkX7_sayAsItIs (1, .getfield 18, 3) (pgm 1 rfl)) ?_
  refine sf_getR X ff_8_13 lk_213 (fo (rk_7_0 this hk)) (dkX7_sayAsItIs (4, .getfield 37, 3) (pgm 2 rfl)) ?_
  refine so_iconst (v := (0 : Int32)) X (dkX7_sayAsItIs (7, .iconst 0, 1) (pgm 3 rfl)) ic_0 ?_
  refine so_aload_n (i := 0) X 0 (dkX7_sayAsItIs (8, .aload_n 0, 1) (pgm 4 rfl)) rfl rfl ?_
  refine sf_getR X ff_7_3 lk_427 hk (dkX7_sayAsItIs (9, .getfield 9, 3) (pgm 5 rfl)) ?_
  refine so_iconst (v := (0 : Int32)) X (dkX7_sayAsItIs (12, .iconst 0, 1) (pgm 6 rfl)) ic_0 ?_
  refine so_bipush (v := (10 : Int32)) X (dkX7_sayAsItIs (13, .bipush 10, 2) (pgm 7 rfl)) bp_10 ?_
  refine so_copyI X (rk_8_13 (rt this 0) (fo (rk_7_0 this hk))) (rk_7_3 this hk) lk_716 lk_718 lk_717 lk_145 (Nat.le_of_ble_eq_true rfl) (Nat.le_of_ble_eq_true rfl) (dkX7_sayAsItIs (15, .invokestatic 42, 3) (pgm 8 rfl)) (fun h1 => ?_)
  refine so_aload_n (i := 0) X 0 (dkX7_sayAsItIs (18, .aload_n 0, 1) (pgm 9 rfl)) rfl rfl ?_
  refine sf_getR X ff_7_1 lk_425 hk (dkX7_sayAsItIs (19, .getfield 22, 3) (pgm 10 rfl)) ?_
  refine sf_getR X ff_0_1 lk_340 (fo (rk_7_1 this hk)) (dkX7_sayAsItIs (22, .getfield 48, 3) (pgm 11 rfl)) ?_
  refine so_iconst (v := (0 : Int32)) X (dkX7_sayAsItIs (25, .iconst 0, 1) (pgm 12 rfl)) ic_0 ?_
  refine so_aload_n (i := 0) X 0 (dkX7_sayAsItIs (26, .aload_n 0, 1) (pgm 13 rfl)) rfl rfl ?_
  refine sf_getR X ff_7_4 lk_428 hk (dkX7_sayAsItIs (27, .getfield 15, 3) (pgm 14 rfl)) ?_
  refine so_iconst (v := (0 : Int32)) X (dkX7_sayAsItIs (30, .iconst 0, 1) (pgm 15 rfl)) ic_0 ?_
  refine so_bipush (v := (10 : Int32)) X (dkX7_sayAsItIs (31, .bipush 10, 2) (pgm 16 rfl)) bp_10 ?_
  refine so_copyI X (rk_0_1 (rt this 1) (fo (rk_7_1 this hk))) (rk_7_4 this hk) lk_716 lk_718 lk_717 lk_145 (Nat.le_of_ble_eq_true rfl) (Nat.le_of_ble_eq_true rfl) (dkX7_sayAsItIs (33, .invokestatic 42, 3) (pgm 17 rfl)) (fun h2 => ?_)
  refine so_aload_n (i := 0) X 0 (dkX7_sayAsItIs (36, .aload_n 0, 1) (pgm 18 rfl)) rfl rfl ?_
  refine so_aload_n (i := 0) X 0 (dkX7_sayAsItIs (37, .aload_n 0, 1) (pgm 19 rfl)) rfl rfl ?_
  refine sf_getR X ff_7_1 lk_425 hk (dkX7_sayAsItIs (38, .getfield 22, 3) (pgm 20 rfl)) ?_
  refine sf_getI X ff_0_0 lk_337 (fo (rk_7_1 this hk)) (dkX7_sayAsItIs (41, .getfield 53, 3) (pgm 21 rfl)) ?_
  refine sf_putI X ff_7_5 ft_7 rfl lk_429 hk rfl rfl (dkX7_sayAsItIs (44, .putfield 57, 3) (pgm 22 rfl)) (fun h3 => ?_)
  exact so_vret X hr hlk (dkX7_sayAsItIs (47, .return_, 1) (pgm 23 rfl))
def pgX7_openOf : List (Nat × Instr × Nat) := [(0, .iconst 0, 1), (1, .istore_n 2, 1), (2, .iconst 0, 1), (3, .istore_n 3, 1), (4, .iload_n 3, 1), (5, .aload_n 0, 1), (6, .getfield 18, 3), (9, .getfield 60, 3), (12, .if_icmp .ge 33, 3), (15, .aload_n 0, 1), (16, .getfield 18, 3), (19, .getfield 75, 3), (22, .iload_n 3, 1), (23, .iaload, 1), (24, .iload_n 1, 1), (25, .if_icmp .ne 14, 3), (28, .iload_n 2, 1), (29, .aload_n 0, 1), (30, .getfield 57, 3), (33, .iload_n 3, 1), (34, .ishr, 1), (35, .iconst 1, 1), (36, .iand, 1), (37, .iadd, 1), (38, .istore_n 2, 1), (39, .iinc 3 1, 3), (42, .goto (-38), 3), (45, .iload_n 2, 1), (46, .ireturn, 1)]
theorem dkX7_openOf : ∀ q ∈ pgX7_openOf, decode cX7_openOf q.1 = .ok q.2 := by decide +kernel
def b_X7_openOf_4 (this : Nat) (a1 : Int32) (rec4 : (Int32 × Int32) → PH → Option (Int32 × PH)) (s4 : Int32 × Int32) (hh4 : PH) : Option (Int32 × PH) :=
  if (hh4.1 (rt this 0) 5) ≤ s4.2 then (some (s4.1, hh4)) else (ldI hh4 (rt (rt this 0) 12) 10 s4.2 (fun (x3 : Int32) => lt (fun (y4 : Int32) (h5 : PH) => lt (s4.2 + Int32.ofInt 1) (fun (x6 : Int32) => rec4 (y4, x6) h5)) (fun (j39 : Int32 → PH → Option (Int32 × PH)) => if x3 = a1 then (lt (s4.1 + (((hh4.1 this 5) >>> (s4.2 &&& 31)) &&& (1 : Int32))) (fun (x7 : Int32) => j39 x7 hh4)) else (j39 s4.1 hh4))))
def f_X7_openOf (this : Nat) (a1 : Int32) (h0 : PH) : Option (Int32 × PH) :=
  lt (0 : Int32) (fun (x1 : Int32) => lt (0 : Int32) (fun (x2 : Int32) => lp (b_X7_openOf_4 this a1) FU (x1, x2) h0))
set_option maxRecDepth 100000 in
set_option maxHeartbeats 4000000 in
theorem ct_X7_openOf (l : Launch) (this : Nat) (a1 : Int32) (h0 : PH) (hk : (kd this).1 = 7) : CT mkI l yX7_openOf cX7_openOf 4 (some .int) (rmd 0) [.ref this, .int a1] h0 (f_X7_openOf this a1 h0) := by
  refine ct_of (by decide) (Nat.le_of_ble_eq_true rfl) ?_
  intro p e s m args below meth c D cA ad A X hr hlk
  have X : Cx p s m args c RX7 cX7_openOf 4 D cA ad A := X
  unfold f_X7_openOf
  refine so_pick (L' := [(0, .ref this), (1, .int a1)]) X [0, 1] rfl ?_
  refine so_iconst (v := (0 : Int32)) X (dkX7_openOf (0, .iconst 0, 1) (pgm 0 rfl)) ic_0 ?_
  refine so_istore_n (i := 2) X (dkX7_openOf (1, .istore_n 2, 1) (pgm 1 rfl)) rfl (by decide) (Lf := fun x1 => [(2, .int x1), (0, .ref this), (1, .int a1)]) (fun _ => rfl) (fun x1 => ?_)
  refine so_iconst (v := (0 : Int32)) X (dkX7_openOf (2, .iconst 0, 1) (pgm 2 rfl)) ic_0 ?_
  refine so_istore_n (i := 3) X (dkX7_openOf (3, .istore_n 3, 1) (pgm 3 rfl)) rfl (by decide) (Lf := fun x2 => [(3, .int x2), (2, .int x1), (0, .ref this), (1, .int a1)]) (fun _ => rfl) (fun x2 => ?_)
  refine so_pick (L' := [(0, .ref this), (1, .int a1), (2, .int x1), (3, .int x2)]) X [2, 3, 1, 0] rfl ?_
  refine so_loop (body := b_X7_openOf_4 this a1) (fun (s4 : Int32 × Int32) => [(0, .ref this), (1, .int a1), (2, .int s4.1), (3, .int s4.2)]) (fun rec4 hrec4 s4 hh4 => ?_) FU (x1, x2) h0
  unfold b_X7_openOf_4
  refine so_iload_n (i := 3) X 3 (dkX7_openOf (4, .iload_n 3, 1) (pgm 4 rfl)) rfl rfl ?_
  refine so_aload_n (i := 0) X 0 (dkX7_openOf (5, .aload_n 0, 1) (pgm 5 rfl)) rfl rfl ?_
  refine sf_getR X ff_7_0 lk_424 hk (dkX7_openOf (6, .getfield 18, 3) (pgm 6 rfl)) ?_
  refine sf_getI X ff_8_5 lk_182 (fo (rk_7_0 this hk)) (dkX7_openOf (9, .getfield 60, 3) (pgm 7 rfl)) ?_
  refine so_icmp_ge (tgt := 45) X (dkX7_openOf (12, .if_icmp .ge 33, 3) (pgm 8 rfl)) rfl (fun _ => ?_) (fun _ => ?_)
  · refine so_iload_n (i := 2) X 2 (dkX7_openOf (45, .iload_n 2, 1) (pgm 27 rfl)) rfl rfl ?_
    exact so_iret X hr hlk (dkX7_openOf (46, .ireturn, 1) (pgm 28 rfl))
  · refine so_aload_n (i := 0) X 0 (dkX7_openOf (15, .aload_n 0, 1) (pgm 9 rfl)) rfl rfl ?_
    refine sf_getR X ff_7_0 lk_424 hk (dkX7_openOf (16, .getfield 18, 3) (pgm 10 rfl)) ?_
    refine sf_getR X ff_8_12 lk_208 (fo (rk_7_0 this hk)) (dkX7_openOf (19, .getfield 75, 3) (pgm 11 rfl)) ?_
    refine so_iload_n (i := 3) X 3 (dkX7_openOf (22, .iload_n 3, 1) (pgm 12 rfl)) rfl rfl ?_
    refine so_iald X (rk_8_12 (rt this 0) (fo (rk_7_0 this hk))) (dkX7_openOf (23, .iaload, 1) (pgm 13 rfl)) (fun x3 => ?_)
    refine so_iload_n (i := 1) X 1 (dkX7_openOf (24, .iload_n 1, 1) (pgm 14 rfl)) rfl rfl ?_
    refine so_join (jf := fun (y4 : Int32) (h5 : PH) => lt (s4.2 + Int32.ofInt 1) (fun (x6 : Int32) => rec4 (y4, x6) h5)) (fun (j : Int32 → PH → Option (Int32 × PH)) => ∀ (y4 : Int32) (h5 : PH), SWo (QM mkI below args s D cA ad A) p l e (rmd 0) s m args below meth c 0 0 4 D cA ad A 39 [(0, .ref this), (1, .int a1), (2, .int y4), (3, .int s4.2)] [] h5 (j y4 h5)) ?_ (fun j39 hj39 => ?_)
    · intro y4 h5
      refine so_iinc (i := 3) X 3 (dkX7_openOf (39, .iinc 3 1, 3) (pgm 25 rfl)) rfl rfl (by decide) (Lf := fun x6 => [(3, .int x6), (0, .ref this), (1, .int a1), (2, .int y4)]) (fun _ => rfl) (fun x6 => ?_)
      refine so_goto (tgt := 4) X (dkX7_openOf (42, .goto (-38), 3) (pgm 26 rfl)) rfl ?_
      exact so_pick X [1, 2, 3, 0] rfl (hrec4 (y4, x6) h5)
    refine so_icmp_ne (tgt := 39) X (dkX7_openOf (25, .if_icmp .ne 14, 3) (pgm 15 rfl)) rfl (fun _ => ?_) (fun _ => ?_)
    · exact so_pick X [0, 1, 2, 3] rfl (hj39 s4.1 hh4)
    · refine so_iload_n (i := 2) X 2 (dkX7_openOf (28, .iload_n 2, 1) (pgm 16 rfl)) rfl rfl ?_
      refine so_aload_n (i := 0) X 0 (dkX7_openOf (29, .aload_n 0, 1) (pgm 17 rfl)) rfl rfl ?_
      refine sf_getI X ff_7_5 lk_429 hk (dkX7_openOf (30, .getfield 57, 3) (pgm 18 rfl)) ?_
      refine so_iload_n (i := 3) X 3 (dkX7_openOf (33, .iload_n 3, 1) (pgm 19 rfl)) rfl rfl ?_
      refine so_ishr X (dkX7_openOf (34, .ishr, 1) (pgm 20 rfl)) ?_
      refine so_iconst (v := (1 : Int32)) X (dkX7_openOf (35, .iconst 1, 1) (pgm 21 rfl)) ic_1 ?_
      refine so_iand X (dkX7_openOf (36, .iand, 1) (pgm 22 rfl)) ?_
      refine so_iadd X (dkX7_openOf (37, .iadd, 1) (pgm 23 rfl)) ?_
      refine so_istore_n (i := 2) X (dkX7_openOf (38, .istore_n 2, 1) (pgm 24 rfl)) rfl (by decide) (Lf := fun x7 => [(2, .int x7), (0, .ref this), (1, .int a1), (3, .int s4.2)]) (fun _ => rfl) (fun x7 => ?_)
      exact so_pick X [1, 2, 0, 3] rfl (hj39 x7 hh4)
def pgX7_weightFor : List (Nat × Instr × Nat) := [(0, .iconst 0, 1), (1, .istore_n 3, 1), (2, .iconst 0, 1), (3, .istore 4, 2), (5, .iload 4, 2), (7, .aload_n 0, 1), (8, .getfield 18, 3), (11, .getfield 60, 3), (14, .if_icmp .ge 46, 3), (17, .aload_n 0, 1), (18, .getfield 18, 3), (21, .getfield 75, 3), (24, .iload 4, 2), (26, .iaload, 1), (27, .iload_n 1, 1), (28, .if_icmp .ne 26, 3), (31, .iload_n 2, 1), (32, .iload 4, 2), (34, .ishr, 1), (35, .iconst 1, 1), (36, .iand, 1), (37, .iconst 1, 1), (38, .if_icmp .ne 16, 3), (41, .iload_n 3, 1), (42, .aload_n 0, 1), (43, .getfield 18, 3), (46, .getfield 37, 3), (49, .iload 4, 2), (51, .iaload, 1), (52, .iadd, 1), (53, .istore_n 3, 1), (54, .iinc 4 1, 3), (57, .goto (-52), 3), (60, .iload_n 3, 1), (61, .ireturn, 1)]
theorem dkX7_weightFor : ∀ q ∈ pgX7_weightFor, decode cX7_weightFor q.1 = .ok q.2 := by decide +kernel
def b_X7_weightFor_5 (this : Nat) (a1 : Int32) (a2 : Int32) (rec5 : (Int32 × Int32) → PH → Option (Int32 × PH)) (s5 : Int32 × Int32) (hh5 : PH) : Option (Int32 × PH) :=
  if (hh5.1 (rt this 0) 5) ≤ s5.2 then (some (s5.1, hh5)) else (ldI hh5 (rt (rt this 0) 12) 10 s5.2 (fun (x3 : Int32) => lt (fun (y4 : Int32) (h5 : PH) => lt (s5.2 + Int32.ofInt 1) (fun (x6 : Int32) => rec5 (y4, x6) h5)) (fun (j54 : Int32 → PH → Option (Int32 × PH)) => if x3 = a1 then (if ((a2 >>> (s5.2 &&& 31)) &&& (1 : Int32)) = (1 : Int32) then (ldI hh5 (rt (rt this 0) 13) 10 s5.2 (fun (x7 : Int32) => lt (s5.1 + x7) (fun (x8 : Int32) => j54 x8 hh5))) else (j54 s5.1 hh5)) else (j54 s5.1 hh5))))
def f_X7_weightFor (this : Nat) (a1 : Int32) (a2 : Int32) (h0 : PH) : Option (Int32 × PH) :=
  lt (0 : Int32) (fun (x1 : Int32) => lt (0 : Int32) (fun (x2 : Int32) => lp (b_X7_weightFor_5 this a1 a2) FU (x1, x2) h0))
set_option maxRecDepth 100000 in
set_option maxHeartbeats 4000000 in
theorem ct_X7_weightFor (l : Launch) (this : Nat) (a1 : Int32) (a2 : Int32) (h0 : PH) (hk : (kd this).1 = 7) : CT mkI l yX7_weightFor cX7_weightFor 5 (some .int) (rmd 0) [.ref this, .int a1, .int a2] h0 (f_X7_weightFor this a1 a2 h0) := by
  refine ct_of (by decide) (Nat.le_of_ble_eq_true rfl) ?_
  intro p e s m args below meth c D cA ad A X hr hlk
  have X : Cx p s m args c RX7 cX7_weightFor 5 D cA ad A := X
  unfold f_X7_weightFor
  refine so_pick (L' := [(0, .ref this), (1, .int a1), (2, .int a2)]) X [0, 1, 2] rfl ?_
  refine so_iconst (v := (0 : Int32)) X (dkX7_weightFor (0, .iconst 0, 1) (pgm 0 rfl)) ic_0 ?_
  refine so_istore_n (i := 3) X (dkX7_weightFor (1, .istore_n 3, 1) (pgm 1 rfl)) rfl (by decide) (Lf := fun x1 => [(3, .int x1), (0, .ref this), (1, .int a1), (2, .int a2)]) (fun _ => rfl) (fun x1 => ?_)
  refine so_iconst (v := (0 : Int32)) X (dkX7_weightFor (2, .iconst 0, 1) (pgm 2 rfl)) ic_0 ?_
  refine so_istore (i := 4) X (dkX7_weightFor (3, .istore 4, 2) (pgm 3 rfl)) (by decide) (Lf := fun x2 => [(4, .int x2), (3, .int x1), (0, .ref this), (1, .int a1), (2, .int a2)]) (fun _ => rfl) (fun x2 => ?_)
  refine so_pick (L' := [(0, .ref this), (1, .int a1), (2, .int a2), (3, .int x1), (4, .int x2)]) X [2, 3, 4, 1, 0] rfl ?_
  refine so_loop (body := b_X7_weightFor_5 this a1 a2) (fun (s5 : Int32 × Int32) => [(0, .ref this), (1, .int a1), (2, .int a2), (3, .int s5.1), (4, .int s5.2)]) (fun rec5 hrec5 s5 hh5 => ?_) FU (x1, x2) h0
  unfold b_X7_weightFor_5
  refine so_iload (i := 4) X 4 (dkX7_weightFor (5, .iload 4, 2) (pgm 4 rfl)) rfl ?_
  refine so_aload_n (i := 0) X 0 (dkX7_weightFor (7, .aload_n 0, 1) (pgm 5 rfl)) rfl rfl ?_
  refine sf_getR X ff_7_0 lk_424 hk (dkX7_weightFor (8, .getfield 18, 3) (pgm 6 rfl)) ?_
  refine sf_getI X ff_8_5 lk_182 (fo (rk_7_0 this hk)) (dkX7_weightFor (11, .getfield 60, 3) (pgm 7 rfl)) ?_
  refine so_icmp_ge (tgt := 60) X (dkX7_weightFor (14, .if_icmp .ge 46, 3) (pgm 8 rfl)) rfl (fun _ => ?_) (fun _ => ?_)
  · refine so_iload_n (i := 3) X 3 (dkX7_weightFor (60, .iload_n 3, 1) (pgm 33 rfl)) rfl rfl ?_
    exact so_iret X hr hlk (dkX7_weightFor (61, .ireturn, 1) (pgm 34 rfl))
  · refine so_aload_n (i := 0) X 0 (dkX7_weightFor (17, .aload_n 0, 1) (pgm 9 rfl)) rfl rfl ?_
    refine sf_getR X ff_7_0 lk_424 hk (dkX7_weightFor (18, .getfield 18, 3) (pgm 10 rfl)) ?_
    refine sf_getR X ff_8_12 lk_208 (fo (rk_7_0 this hk)) (dkX7_weightFor (21, .getfield 75, 3) (pgm 11 rfl)) ?_
    refine so_iload (i := 4) X 4 (dkX7_weightFor (24, .iload 4, 2) (pgm 12 rfl)) rfl ?_
    refine so_iald X (rk_8_12 (rt this 0) (fo (rk_7_0 this hk))) (dkX7_weightFor (26, .iaload, 1) (pgm 13 rfl)) (fun x3 => ?_)
    refine so_iload_n (i := 1) X 1 (dkX7_weightFor (27, .iload_n 1, 1) (pgm 14 rfl)) rfl rfl ?_
    refine so_join (jf := fun (y4 : Int32) (h5 : PH) => lt (s5.2 + Int32.ofInt 1) (fun (x6 : Int32) => rec5 (y4, x6) h5)) (fun (j : Int32 → PH → Option (Int32 × PH)) => ∀ (y4 : Int32) (h5 : PH), SWo (QM mkI below args s D cA ad A) p l e (rmd 0) s m args below meth c 0 0 5 D cA ad A 54 [(0, .ref this), (1, .int a1), (2, .int a2), (3, .int y4), (4, .int s5.2)] [] h5 (j y4 h5)) ?_ (fun j54 hj54 => ?_)
    · intro y4 h5
      refine so_iinc (i := 4) X 4 (dkX7_weightFor (54, .iinc 4 1, 3) (pgm 31 rfl)) rfl rfl (by decide) (Lf := fun x6 => [(4, .int x6), (0, .ref this), (1, .int a1), (2, .int a2), (3, .int y4)]) (fun _ => rfl) (fun x6 => ?_)
      refine so_goto (tgt := 5) X (dkX7_weightFor (57, .goto (-52), 3) (pgm 32 rfl)) rfl ?_
      exact so_pick X [1, 2, 3, 4, 0] rfl (hrec5 (y4, x6) h5)
    refine so_icmp_ne (tgt := 54) X (dkX7_weightFor (28, .if_icmp .ne 26, 3) (pgm 15 rfl)) rfl (fun _ => ?_) (fun _ => ?_)
    · exact so_pick X [0, 1, 2, 3, 4] rfl (hj54 s5.1 hh5)
    · refine so_iload_n (i := 2) X 2 (dkX7_weightFor (31, .iload_n 2, 1) (pgm 16 rfl)) rfl rfl ?_
      refine so_iload (i := 4) X 4 (dkX7_weightFor (32, .iload 4, 2) (pgm 17 rfl)) rfl ?_
      refine so_ishr X (dkX7_weightFor (34, .ishr, 1) (pgm 18 rfl)) ?_
      refine so_iconst (v := (1 : Int32)) X (dkX7_weightFor (35, .iconst 1, 1) (pgm 19 rfl)) ic_1 ?_
      refine so_iand X (dkX7_weightFor (36, .iand, 1) (pgm 20 rfl)) ?_
      refine so_iconst (v := (1 : Int32)) X (dkX7_weightFor (37, .iconst 1, 1) (pgm 21 rfl)) ic_1 ?_
      refine so_icmp_ne (tgt := 54) X (dkX7_weightFor (38, .if_icmp .ne 16, 3) (pgm 22 rfl)) rfl (fun _ => ?_) (fun _ => ?_)
      · exact so_pick X [0, 1, 2, 3, 4] rfl (hj54 s5.1 hh5)
      · refine so_iload_n (i := 3) X 3 (dkX7_weightFor (41, .iload_n 3, 1) (pgm 23 rfl)) rfl rfl ?_
        refine so_aload_n (i := 0) X 0 (dkX7_weightFor (42, .aload_n 0, 1) (pgm 24 rfl)) rfl rfl ?_
        refine sf_getR X ff_7_0 lk_424 hk (dkX7_weightFor (43, .getfield 18, 3) (pgm 25 rfl)) ?_
        refine sf_getR X ff_8_13 lk_213 (fo (rk_7_0 this hk)) (dkX7_weightFor (46, .getfield 37, 3) (pgm 26 rfl)) ?_
        refine so_iload (i := 4) X 4 (dkX7_weightFor (49, .iload 4, 2) (pgm 27 rfl)) rfl ?_
        refine so_iald X (rk_8_13 (rt this 0) (fo (rk_7_0 this hk))) (dkX7_weightFor (51, .iaload, 1) (pgm 28 rfl)) (fun x7 => ?_)
        refine so_iadd X (dkX7_weightFor (52, .iadd, 1) (pgm 29 rfl)) ?_
        refine so_istore_n (i := 3) X (dkX7_weightFor (53, .istore_n 3, 1) (pgm 30 rfl)) rfl (by decide) (Lf := fun x8 => [(3, .int x8), (0, .ref this), (1, .int a1), (2, .int a2), (4, .int s5.2)]) (fun _ => rfl) (fun x8 => ?_)
        exact so_pick X [1, 2, 3, 0, 4] rfl (hj54 x8 hh5)
def pgX7_sayOtherwise : List (Nat × Instr × Nat) := [(0, .aload_n 0, 1), (1, .getfield 22, 3), (4, .getfield 53, 3), (7, .iload_n 1, 1), (8, .ishr, 1), (9, .iconst 1, 1), (10, .iand, 1), (11, .ifCond .eq 23, 3), (14, .iload_n 2, 1), (15, .iconst 1, 1), (16, .if_icmp .ne 20, 3), (19, .aload_n 0, 1), (20, .getfield 18, 3), (23, .getfield 102, 3), (26, .iload_n 1, 1), (27, .ishr, 1), (28, .iconst 1, 1), (29, .iand, 1), (30, .iconst 1, 1), (31, .if_icmp .ne 5, 3), (34, .iconst 0, 1), (35, .ireturn, 1), (36, .aload_n 0, 1), (37, .invokevirtual 30, 3), (40, .iload_n 2, 1), (41, .iconst 1, 1), (42, .if_icmp .ne 20, 3), (45, .aload_n 0, 1), (46, .dup, 1), (47, .getfield 57, 3), (50, .iconst 1, 1), (51, .iload_n 1, 1), (52, .ishl, 1), (53, .iconst (-1), 1), (54, .ixor, 1), (55, .iand, 1), (56, .putfield 57, 3), (59, .goto 30, 3), (62, .iload_n 2, 1), (63, .iconst 2, 1), (64, .if_icmp .ne 14, 3), (67, .aload_n 0, 1), (68, .getfield 9, 3), (71, .iload_n 1, 1), (72, .bipush 9, 2), (74, .iastore, 1), (75, .goto 14, 3), (78, .aload_n 0, 1), (79, .getfield 15, 3), (82, .iload_n 1, 1), (83, .dup2, 1), (84, .iaload, 1), (85, .bipush 9, 2), (87, .iadd, 1), (88, .iastore, 1), (89, .iconst 1, 1), (90, .ireturn, 1)]
theorem dkX7_sayOtherwise : ∀ q ∈ pgX7_sayOtherwise, decode cX7_sayOtherwise q.1 = .ok q.2 := by decide +kernel
def f_X7_sayOtherwise (this : Nat) (a1 : Int32) (a2 : Int32) (h0 : PH) : Option (Int32 × PH) :=
  lt (fun (h1 : PH) => zr (0 : Int32) h1) (fun (j34 : PH → Option (Int32 × PH)) => if (((h0.1 (rt this 1) 0) >>> (a1 &&& 31)) &&& (1 : Int32)) = 0 then (j34 h0) else (lt (fun (h2 : PH) => cb (f_X7_sayAsItIs this h2) (fun (r3 : Unit) (h4 : PH) => lt (fun (h5 : PH) => zr (1 : Int32) h5) (fun (j89 : PH → Option (Int32 × PH)) => if a2 = (1 : Int32) then (lt (pI h4 this 5 ((h4.1 this 5) &&& (((1 : Int32) <<< (a1 &&& 31)) ^^^ (-1 : Int32)))) (fun (h9 : PH) => j89 h9)) else (if a2 = (2 : Int32) then (stI h4 (rt this 3) 10 a1 (9 : Int32) (fun (h8 : PH) => j89 h8)) else (ldI h4 (rt this 4) 10 a1 (fun (x6 : Int32) => stI h4 (rt this 4) 10 a1 (x6 + (9 : Int32)) (fun (h7 : PH) => j89 h7))))))) (fun (j36 : PH → Option (Int32 × PH)) => if a2 = (1 : Int32) then (if (((h0.1 (rt this 0) 6) >>> (a1 &&& 31)) &&& (1 : Int32)) = (1 : Int32) then (j34 h0) else (j36 h0)) else (j36 h0))))
set_option maxRecDepth 100000 in
set_option maxHeartbeats 4000000 in
theorem ct_X7_sayOtherwise (l : Launch) (this : Nat) (a1 : Int32) (a2 : Int32) (h0 : PH) (hk : (kd this).1 = 7) : CT mkI l yX7_sayOtherwise cX7_sayOtherwise 3 (some .boolean) (rmd 2) [.ref this, .int a1, .int a2] h0 (f_X7_sayOtherwise this a1 a2 h0) := by
  refine ct_of (by decide) (Nat.le_of_ble_eq_true rfl) ?_
  intro p e s m args below meth c D cA ad A X hr hlk
  have X : Cx p s m args c RX7 cX7_sayOtherwise 3 D cA ad A := X
  unfold f_X7_sayOtherwise
  refine so_pick (L' := [(0, .ref this), (1, .int a1), (2, .int a2)]) X [0, 1, 2] rfl ?_
  refine so_aload_n (i := 0) X 0 (dkX7_sayOtherwise (0, .aload_n 0, 1) (pgm 0 rfl)) rfl rfl ?_
  refine sf_getR X ff_7_1 lk_425 hk (dkX7_sayOtherwise (1, .getfield 22, 3) (pgm 1 rfl)) ?_
  refine sf_getI X ff_0_0 lk_337 (fo (rk_7_1 this hk)) (dkX7_sayOtherwise (4, .getfield 53, 3) (pgm 2 rfl)) ?_
  refine so_iload_n (i := 1) X 1 (dkX7_sayOtherwise (7, .iload_n 1, 1) (pgm 3 rfl)) rfl rfl ?_
  refine so_ishr X (dkX7_sayOtherwise (8, .ishr, 1) (pgm 4 rfl)) ?_
  refine so_iconst (v := (1 : Int32)) X (dkX7_sayOtherwise (9, .iconst 1, 1) (pgm 5 rfl)) ic_1 ?_
  refine so_iand X (dkX7_sayOtherwise (10, .iand, 1) (pgm 6 rfl)) ?_
  refine so_join (jf := fun (h1 : PH) => zr (0 : Int32) h1) (fun (j : PH → Option (Int32 × PH)) => ∀  (h1 : PH), SWo (QM mkI below args s D cA ad A) p l e (rmd 2) s m args below meth c 0 0 3 D cA ad A 34 [] [] h1 (j h1)) ?_ (fun j34 hj34 => ?_)
  · intro h1
    refine so_iconst (v := (0 : Int32)) X (dkX7_sayOtherwise (34, .iconst 0, 1) (pgm 20 rfl)) ic_0 ?_
    exact so_zret X hr hlk (dkX7_sayOtherwise (35, .ireturn, 1) (pgm 21 rfl))
  refine so_if_eq (tgt := 34) X (dkX7_sayOtherwise (11, .ifCond .eq 23, 3) (pgm 7 rfl)) rfl (fun _ => ?_) (fun _ => ?_)
  · exact so_pick X [] rfl (hj34 h0)
  · refine so_iload_n (i := 2) X 2 (dkX7_sayOtherwise (14, .iload_n 2, 1) (pgm 8 rfl)) rfl rfl ?_
    refine so_iconst (v := (1 : Int32)) X (dkX7_sayOtherwise (15, .iconst 1, 1) (pgm 9 rfl)) ic_1 ?_
    refine so_join (jf := fun (h2 : PH) => cb (f_X7_sayAsItIs this h2) (fun (r3 : Unit) (h4 : PH) => lt (fun (h5 : PH) => zr (1 : Int32) h5) (fun (j89 : PH → Option (Int32 × PH)) => if a2 = (1 : Int32) then (lt (pI h4 this 5 ((h4.1 this 5) &&& (((1 : Int32) <<< (a1 &&& 31)) ^^^ (-1 : Int32)))) (fun (h9 : PH) => j89 h9)) else (if a2 = (2 : Int32) then (stI h4 (rt this 3) 10 a1 (9 : Int32) (fun (h8 : PH) => j89 h8)) else (ldI h4 (rt this 4) 10 a1 (fun (x6 : Int32) => stI h4 (rt this 4) 10 a1 (x6 + (9 : Int32)) (fun (h7 : PH) => j89 h7))))))) (fun (j : PH → Option (Int32 × PH)) => ∀  (h2 : PH), SWo (QM mkI below args s D cA ad A) p l e (rmd 2) s m args below meth c 0 0 3 D cA ad A 36 [(0, .ref this), (1, .int a1), (2, .int a2)] [] h2 (j h2)) ?_ (fun j36 hj36 => ?_)
    · intro h2
      refine so_aload_n (i := 0) X 0 (dkX7_sayOtherwise (36, .aload_n 0, 1) (pgm 22 rfl)) rfl rfl ?_
      refine so_callV (n := 0) (As := []) X (ct_X7_sayAsItIs l this h2 hk) hk (by decide) rfl lk_712 lk_714 lk_6 lk_129 lk_715 (by decide +kernel) rfl rfl rfl (rm_ok (by omega) (by decide)) ⟨Nat.zero_le _, Nat.zero_le _⟩ (Nat.le_of_ble_eq_true rfl) (dkX7_sayOtherwise (37, .invokevirtual 30, 3) (pgm 23 rfl)) (fun r3 h4 => ?_) rfl
      refine so_iload_n (i := 2) X 2 (dkX7_sayOtherwise (40, .iload_n 2, 1) (pgm 24 rfl)) rfl rfl ?_
      refine so_iconst (v := (1 : Int32)) X (dkX7_sayOtherwise (41, .iconst 1, 1) (pgm 25 rfl)) ic_1 ?_
      refine so_join (jf := fun (h5 : PH) => zr (1 : Int32) h5) (fun (j : PH → Option (Int32 × PH)) => ∀  (h5 : PH), SWo (QM mkI below args s D cA ad A) p l e (rmd 2) s m args below meth c 0 0 3 D cA ad A 89 [] [] h5 (j h5)) ?_ (fun j89 hj89 => ?_)
      · intro h5
        refine so_iconst (v := (1 : Int32)) X (dkX7_sayOtherwise (89, .iconst 1, 1) (pgm 55 rfl)) ic_1 ?_
        exact so_zret X hr hlk (dkX7_sayOtherwise (90, .ireturn, 1) (pgm 56 rfl))
      refine so_icmp_ne (tgt := 62) X (dkX7_sayOtherwise (42, .if_icmp .ne 20, 3) (pgm 26 rfl)) rfl (fun _ => ?_) (fun _ => ?_)
      · refine so_iload_n (i := 2) X 2 (dkX7_sayOtherwise (62, .iload_n 2, 1) (pgm 38 rfl)) rfl rfl ?_
        refine so_iconst (v := (2 : Int32)) X (dkX7_sayOtherwise (63, .iconst 2, 1) (pgm 39 rfl)) ic_2 ?_
        refine so_icmp_ne (tgt := 78) X (dkX7_sayOtherwise (64, .if_icmp .ne 14, 3) (pgm 40 rfl)) rfl (fun _ => ?_) (fun _ => ?_)
        · refine so_aload_n (i := 0) X 0 (dkX7_sayOtherwise (78, .aload_n 0, 1) (pgm 47 rfl)) rfl rfl ?_
          refine sf_getR X ff_7_4 lk_428 hk (dkX7_sayOtherwise (79, .getfield 15, 3) (pgm 48 rfl)) ?_
          refine so_iload_n (i := 1) X 1 (dkX7_sayOtherwise (82, .iload_n 1, 1) (pgm 49 rfl)) rfl rfl ?_
          refine so_dup2 X (dkX7_sayOtherwise (83, .dup2, 1) (pgm 50 rfl)) rfl rfl ?_
          refine so_iald X (rk_7_4 this hk) (dkX7_sayOtherwise (84, .iaload, 1) (pgm 51 rfl)) (fun x6 => ?_)
          refine so_bipush (v := (9 : Int32)) X (dkX7_sayOtherwise (85, .bipush 9, 2) (pgm 52 rfl)) bp_9 ?_
          refine so_iadd X (dkX7_sayOtherwise (87, .iadd, 1) (pgm 53 rfl)) ?_
          refine so_iast X (rk_7_4 this hk) (dkX7_sayOtherwise (88, .iastore, 1) (pgm 54 rfl)) (fun h7 => ?_)
          exact so_pick X [] rfl (hj89 h7)
        · refine so_aload_n (i := 0) X 0 (dkX7_sayOtherwise (67, .aload_n 0, 1) (pgm 41 rfl)) rfl rfl ?_
          refine sf_getR X ff_7_3 lk_427 hk (dkX7_sayOtherwise (68, .getfield 9, 3) (pgm 42 rfl)) ?_
          refine so_iload_n (i := 1) X 1 (dkX7_sayOtherwise (71, .iload_n 1, 1) (pgm 43 rfl)) rfl rfl ?_
          refine so_bipush (v := (9 : Int32)) X (dkX7_sayOtherwise (72, .bipush 9, 2) (pgm 44 rfl)) bp_9 ?_
          refine so_iast X (rk_7_3 this hk) (dkX7_sayOtherwise (74, .iastore, 1) (pgm 45 rfl)) (fun h8 => ?_)
          refine so_goto (tgt := 89) X (dkX7_sayOtherwise (75, .goto 14, 3) (pgm 46 rfl)) rfl ?_
          exact so_pick X [] rfl (hj89 h8)
      · refine so_aload_n (i := 0) X 0 (dkX7_sayOtherwise (45, .aload_n 0, 1) (pgm 27 rfl)) rfl rfl ?_
        refine so_dup X (dkX7_sayOtherwise (46, .dup, 1) (pgm 28 rfl)) rfl ?_
        refine sf_getI X ff_7_5 lk_429 hk (dkX7_sayOtherwise (47, .getfield 57, 3) (pgm 29 rfl)) ?_
        refine so_iconst (v := (1 : Int32)) X (dkX7_sayOtherwise (50, .iconst 1, 1) (pgm 30 rfl)) ic_1 ?_
        refine so_iload_n (i := 1) X 1 (dkX7_sayOtherwise (51, .iload_n 1, 1) (pgm 31 rfl)) rfl rfl ?_
        refine so_ishl X (dkX7_sayOtherwise (52, .ishl, 1) (pgm 32 rfl)) ?_
        refine so_iconst (v := (-1 : Int32)) X (dkX7_sayOtherwise (53, .iconst (-1), 1) (pgm 33 rfl)) ic_m1 ?_
        refine so_ixor X (dkX7_sayOtherwise (54, .ixor, 1) (pgm 34 rfl)) ?_
        refine so_iand X (dkX7_sayOtherwise (55, .iand, 1) (pgm 35 rfl)) ?_
        refine sf_putI X ff_7_5 ft_7 rfl lk_429 hk rfl rfl (dkX7_sayOtherwise (56, .putfield 57, 3) (pgm 36 rfl)) (fun h9 => ?_)
        refine so_goto (tgt := 89) X (dkX7_sayOtherwise (59, .goto 30, 3) (pgm 37 rfl)) rfl ?_
        exact so_pick X [] rfl (hj89 h9)
    refine so_icmp_ne (tgt := 36) X (dkX7_sayOtherwise (16, .if_icmp .ne 20, 3) (pgm 10 rfl)) rfl (fun _ => ?_) (fun _ => ?_)
    · exact so_pick X [0, 1, 2] rfl (hj36 h0)
    · refine so_aload_n (i := 0) X 0 (dkX7_sayOtherwise (19, .aload_n 0, 1) (pgm 11 rfl)) rfl rfl ?_
      refine sf_getR X ff_7_0 lk_424 hk (dkX7_sayOtherwise (20, .getfield 18, 3) (pgm 12 rfl)) ?_
      refine sf_getI X ff_8_6 lk_191 (fo (rk_7_0 this hk)) (dkX7_sayOtherwise (23, .getfield 102, 3) (pgm 13 rfl)) ?_
      refine so_iload_n (i := 1) X 1 (dkX7_sayOtherwise (26, .iload_n 1, 1) (pgm 14 rfl)) rfl rfl ?_
      refine so_ishr X (dkX7_sayOtherwise (27, .ishr, 1) (pgm 15 rfl)) ?_
      refine so_iconst (v := (1 : Int32)) X (dkX7_sayOtherwise (28, .iconst 1, 1) (pgm 16 rfl)) ic_1 ?_
      refine so_iand X (dkX7_sayOtherwise (29, .iand, 1) (pgm 17 rfl)) ?_
      refine so_iconst (v := (1 : Int32)) X (dkX7_sayOtherwise (30, .iconst 1, 1) (pgm 18 rfl)) ic_1 ?_
      refine so_icmp_ne (tgt := 36) X (dkX7_sayOtherwise (31, .if_icmp .ne 5, 3) (pgm 19 rfl)) rfl (fun _ => ?_) (fun _ => ?_)
      · exact so_pick X [0, 1, 2] rfl (hj36 h0)
      · exact so_pick X [] rfl (hj34 h0)
def pgX8_measure : List (Nat × Instr × Nat) := [(0, .aload_n 0, 1), (1, .aload_n 0, 1), (2, .getfield 31, 3), (5, .aload_n 0, 1), (6, .getfield 34, 3), (9, .imul, 1), (10, .putfield 52, 3), (13, .aload_n 0, 1), (14, .iconst 1, 1), (15, .aload_n 0, 1), (16, .getfield 52, 3), (19, .ishl, 1), (20, .iconst 1, 1), (21, .isub, 1), (22, .putfield 55, 3), (25, .aload_n 0, 1), (26, .iconst 0, 1), (27, .putfield 58, 3), (30, .aload_n 0, 1), (31, .aload_n 0, 1), (32, .getfield 34, 3), (35, .aload_n 0, 1), (36, .getfield 37, 3), (39, .imul, 1), (40, .iconst 1, 1), (41, .iadd, 1), (42, .putfield 61, 3), (45, .iconst 0, 1), (46, .istore_n 1, 1), (47, .aload_n 0, 1), (48, .getfield 37, 3), (51, .ifCond .le 59, 3), (54, .iload_n 1, 1), (55, .aload_n 0, 1), (56, .getfield 37, 3), (59, .iadd, 1), (60, .aload_n 0, 1), (61, .getfield 31, 3), (64, .if_icmp .ge 46, 3), (67, .iconst 0, 1), (68, .istore_n 2, 1), (69, .iload_n 2, 1), (70, .iconst 1, 1), (71, .iadd, 1), (72, .aload_n 0, 1), (73, .getfield 34, 3), (76, .if_icmp .ge 28, 3), (79, .aload_n 0, 1), (80, .dup, 1), (81, .getfield 58, 3), (84, .iconst 1, 1), (85, .aload_n 0, 1), (86, .getfield 34, 3), (89, .iload_n 1, 1), (90, .imul, 1), (91, .iload_n 2, 1), (92, .iadd, 1), (93, .ishl, 1), (94, .ior, 1), (95, .putfield 58, 3), (98, .iinc 2 1, 3), (101, .goto (-32), 3), (104, .iinc 1 1, 3), (107, .goto (-60), 3), (110, .return_, 1)]
theorem dkX8_measure : ∀ q ∈ pgX8_measure, decode cX8_measure q.1 = .ok q.2 := by decide +kernel
def b_X8_measure_69 (this : Nat) (s47 : Int32) (j104 : PH → Option (Unit × PH)) (rec69 : (Int32) → PH → Option (Unit × PH)) (s69 : Int32) (hh69 : PH) : Option (Unit × PH) :=
  if (hh69.1 this 2) ≤ (s69 + (1 : Int32)) then (j104 hh69) else (lt (pI hh69 this 10 ((hh69.1 this 10) ||| ((1 : Int32) <<< ((((hh69.1 this 2) * s47) + s69) &&& 31)))) (fun (h10 : PH) => lt (s69 + Int32.ofInt 1) (fun (x11 : Int32) => rec69 x11 h10)))
def b_X8_measure_47 (this : Nat) (j110 : PH → Option (Unit × PH)) (rec47 : (Int32) → PH → Option (Unit × PH)) (s47 : Int32) (hh47 : PH) : Option (Unit × PH) :=
  if (hh47.1 this 4) ≤ 0 then (j110 hh47) else (if (hh47.1 this 1) ≤ (s47 + (hh47.1 this 4)) then (j110 hh47) else (lt (0 : Int32) (fun (x7 : Int32) => lt (fun (h8 : PH) => lt (s47 + Int32.ofInt 1) (fun (x9 : Int32) => rec47 x9 h8)) (fun (j104 : PH → Option (Unit × PH)) => lp (b_X8_measure_69 this s47 j104) FU x7 hh47))))
def f_X8_measure (this : Nat) (h0 : PH) : Option (Unit × PH) :=
  lt (pI h0 this 7 ((h0.1 this 1) * (h0.1 this 2))) (fun (h1 : PH) => lt (pI h1 this 8 (((1 : Int32) <<< ((h1.1 this 7) &&& 31)) - (1 : Int32))) (fun (h2 : PH) => lt (pI h2 this 10 (0 : Int32)) (fun (h3 : PH) => lt (pI h3 this 11 (((h3.1 this 2) * (h3.1 this 4)) + (1 : Int32))) (fun (h4 : PH) => lt (0 : Int32) (fun (x5 : Int32) => lt (fun (h6 : PH) => some ((), h6)) (fun (j110 : PH → Option (Unit × PH)) => lp (b_X8_measure_47 this j110) FU x5 h4))))))
set_option maxRecDepth 100000 in
set_option maxHeartbeats 4000000 in
theorem ct_X8_measure (l : Launch) (this : Nat) (h0 : PH) (hk : (kd this).1 = 8) : CT mkV l yX8_measure cX8_measure 3 none (rmd 0) [.ref this] h0 (f_X8_measure this h0) := by
  refine ct_of (by decide) (Nat.le_of_ble_eq_true rfl) ?_
  intro p e s m args below meth c D cA ad A X hr hlk
  have X : Cx p s m args c RX8 cX8_measure 3 D cA ad A := X
  unfold f_X8_measure
  refine so_pick (L' := [(0, .ref this)]) X [0] rfl ?_
  refine so_aload_n (i := 0) X 0 (dkX8_measure (0, .aload_n 0, 1) (pgm 0 rfl)) rfl rfl ?_
  refine so_aload_n (i := 0) X 0 (dkX8_measure (1, .aload_n 0, 1) (pgm 1 rfl)) rfl rfl ?_
  refine sf_getI X ff_8_1 lk_167 hk (dkX8_measure (2, .getfield 31, 3) (pgm 2 rfl)) ?_
  refine so_aload_n (i := 0) X 0 (dkX8_measure (5, .aload_n 0, 1) (pgm 3 rfl)) rfl rfl ?_
  refine sf_getI X ff_8_2 lk_170 hk (dkX8_measure (6, .getfield 34, 3) (pgm 4 rfl)) ?_
  refine so_imul X (dkX8_measure (9, .imul, 1) (pgm 5 rfl)) ?_
  refine sf_putI X ff_8_7 ft_8 rfl lk_194 hk rfl rfl (dkX8_measure (10, .putfield 52, 3) (pgm 6 rfl)) (fun h1 => ?_)
  refine so_aload_n (i := 0) X 0 (dkX8_measure (13, .aload_n 0, 1) (pgm 7 rfl)) rfl rfl ?_
  refine so_iconst (v := (1 : Int32)) X (dkX8_measure (14, .iconst 1, 1) (pgm 8 rfl)) ic_1 ?_
  refine so_aload_n (i := 0) X 0 (dkX8_measure (15, .aload_n 0, 1) (pgm 9 rfl)) rfl rfl ?_
  refine sf_getI X ff_8_7 lk_194 hk (dkX8_measure (16, .getfield 52, 3) (pgm 10 rfl)) ?_
  refine so_ishl X (dkX8_measure (19, .ishl, 1) (pgm 11 rfl)) ?_
  refine so_iconst (v := (1 : Int32)) X (dkX8_measure (20, .iconst 1, 1) (pgm 12 rfl)) ic_1 ?_
  refine so_isub X (dkX8_measure (21, .isub, 1) (pgm 13 rfl)) ?_
  refine sf_putI X ff_8_8 ft_8 rfl lk_198 hk rfl rfl (dkX8_measure (22, .putfield 55, 3) (pgm 14 rfl)) (fun h2 => ?_)
  refine so_aload_n (i := 0) X 0 (dkX8_measure (25, .aload_n 0, 1) (pgm 15 rfl)) rfl rfl ?_
  refine so_iconst (v := (0 : Int32)) X (dkX8_measure (26, .iconst 0, 1) (pgm 16 rfl)) ic_0 ?_
  refine sf_putI X ff_8_10 ft_8 rfl lk_205 hk rfl rfl (dkX8_measure (27, .putfield 58, 3) (pgm 17 rfl)) (fun h3 => ?_)
  refine so_aload_n (i := 0) X 0 (dkX8_measure (30, .aload_n 0, 1) (pgm 18 rfl)) rfl rfl ?_
  refine so_aload_n (i := 0) X 0 (dkX8_measure (31, .aload_n 0, 1) (pgm 19 rfl)) rfl rfl ?_
  refine sf_getI X ff_8_2 lk_170 hk (dkX8_measure (32, .getfield 34, 3) (pgm 20 rfl)) ?_
  refine so_aload_n (i := 0) X 0 (dkX8_measure (35, .aload_n 0, 1) (pgm 21 rfl)) rfl rfl ?_
  refine sf_getI X ff_8_4 lk_177 hk (dkX8_measure (36, .getfield 37, 3) (pgm 22 rfl)) ?_
  refine so_imul X (dkX8_measure (39, .imul, 1) (pgm 23 rfl)) ?_
  refine so_iconst (v := (1 : Int32)) X (dkX8_measure (40, .iconst 1, 1) (pgm 24 rfl)) ic_1 ?_
  refine so_iadd X (dkX8_measure (41, .iadd, 1) (pgm 25 rfl)) ?_
  refine sf_putI X ff_8_11 ft_8 rfl lk_206 hk rfl rfl (dkX8_measure (42, .putfield 61, 3) (pgm 26 rfl)) (fun h4 => ?_)
  refine so_iconst (v := (0 : Int32)) X (dkX8_measure (45, .iconst 0, 1) (pgm 27 rfl)) ic_0 ?_
  refine so_istore_n (i := 1) X (dkX8_measure (46, .istore_n 1, 1) (pgm 28 rfl)) rfl (by decide) (Lf := fun x5 => [(1, .int x5), (0, .ref this)]) (fun _ => rfl) (fun x5 => ?_)
  refine so_join (jf := fun (h6 : PH) => some ((), h6)) (fun (j : PH → Option (Unit × PH)) => ∀  (h6 : PH), SWo (QM mkV below args s D cA ad A) p l e (rmd 0) s m args below meth c 0 0 3 D cA ad A 110 [] [] h6 (j h6)) ?_ (fun j110 hj110 => ?_)
  · intro h6
    exact so_vret X hr hlk (dkX8_measure (110, .return_, 1) (pgm 64 rfl))
  refine so_pick (L' := [(0, .ref this), (1, .int x5)]) X [1, 0] rfl ?_
  refine so_loop (body := b_X8_measure_47 this j110) (fun (s47 : Int32) => [(0, .ref this), (1, .int s47)]) (fun rec47 hrec47 s47 hh47 => ?_) FU x5 h4
  unfold b_X8_measure_47
  refine so_aload_n (i := 0) X 0 (dkX8_measure (47, .aload_n 0, 1) (pgm 29 rfl)) rfl rfl ?_
  refine sf_getI X ff_8_4 lk_177 hk (dkX8_measure (48, .getfield 37, 3) (pgm 30 rfl)) ?_
  refine so_if_le (tgt := 110) X (dkX8_measure (51, .ifCond .le 59, 3) (pgm 31 rfl)) rfl (fun _ => ?_) (fun _ => ?_)
  · exact so_pick X [] rfl (hj110 hh47)
  · refine so_iload_n (i := 1) X 1 (dkX8_measure (54, .iload_n 1, 1) (pgm 32 rfl)) rfl rfl ?_
    refine so_aload_n (i := 0) X 0 (dkX8_measure (55, .aload_n 0, 1) (pgm 33 rfl)) rfl rfl ?_
    refine sf_getI X ff_8_4 lk_177 hk (dkX8_measure (56, .getfield 37, 3) (pgm 34 rfl)) ?_
    refine so_iadd X (dkX8_measure (59, .iadd, 1) (pgm 35 rfl)) ?_
    refine so_aload_n (i := 0) X 0 (dkX8_measure (60, .aload_n 0, 1) (pgm 36 rfl)) rfl rfl ?_
    refine sf_getI X ff_8_1 lk_167 hk (dkX8_measure (61, .getfield 31, 3) (pgm 37 rfl)) ?_
    refine so_icmp_ge (tgt := 110) X (dkX8_measure (64, .if_icmp .ge 46, 3) (pgm 38 rfl)) rfl (fun _ => ?_) (fun _ => ?_)
    · exact so_pick X [] rfl (hj110 hh47)
    · refine so_iconst (v := (0 : Int32)) X (dkX8_measure (67, .iconst 0, 1) (pgm 39 rfl)) ic_0 ?_
      refine so_istore_n (i := 2) X (dkX8_measure (68, .istore_n 2, 1) (pgm 40 rfl)) rfl (by decide) (Lf := fun x7 => [(2, .int x7), (0, .ref this), (1, .int s47)]) (fun _ => rfl) (fun x7 => ?_)
      refine so_join (jf := fun (h8 : PH) => lt (s47 + Int32.ofInt 1) (fun (x9 : Int32) => rec47 x9 h8)) (fun (j : PH → Option (Unit × PH)) => ∀  (h8 : PH), SWo (QM mkV below args s D cA ad A) p l e (rmd 0) s m args below meth c 0 0 3 D cA ad A 104 [(0, .ref this), (1, .int s47)] [] h8 (j h8)) ?_ (fun j104 hj104 => ?_)
      · intro h8
        refine so_iinc (i := 1) X 1 (dkX8_measure (104, .iinc 1 1, 3) (pgm 62 rfl)) rfl rfl (by decide) (Lf := fun x9 => [(1, .int x9), (0, .ref this)]) (fun _ => rfl) (fun x9 => ?_)
        refine so_goto (tgt := 47) X (dkX8_measure (107, .goto (-60), 3) (pgm 63 rfl)) rfl ?_
        exact so_pick X [1, 0] rfl (hrec47 x9 h8)
      refine so_pick (L' := [(0, .ref this), (1, .int s47), (2, .int x7)]) X [1, 2, 0] rfl ?_
      refine so_loop (body := b_X8_measure_69 this s47 j104) (fun (s69 : Int32) => [(0, .ref this), (1, .int s47), (2, .int s69)]) (fun rec69 hrec69 s69 hh69 => ?_) FU x7 hh47
      unfold b_X8_measure_69
      refine so_iload_n (i := 2) X 2 (dkX8_measure (69, .iload_n 2, 1) (pgm 41 rfl)) rfl rfl ?_
      refine so_iconst (v := (1 : Int32)) X (dkX8_measure (70, .iconst 1, 1) (pgm 42 rfl)) ic_1 ?_
      refine so_iadd X (dkX8_measure (71, .iadd, 1) (pgm 43 rfl)) ?_
      refine so_aload_n (i := 0) X 0 (dkX8_measure (72, .aload_n 0, 1) (pgm 44 rfl)) rfl rfl ?_
      refine sf_getI X ff_8_2 lk_170 hk (dkX8_measure (73, .getfield 34, 3) (pgm 45 rfl)) ?_
      refine so_icmp_ge (tgt := 104) X (dkX8_measure (76, .if_icmp .ge 28, 3) (pgm 46 rfl)) rfl (fun _ => ?_) (fun _ => ?_)
      · exact so_pick X [0, 1] rfl (hj104 hh69)
      · refine so_aload_n (i := 0) X 0 (dkX8_measure (79, .aload_n 0, 1) (pgm 47 rfl)) rfl rfl ?_
        refine so_dup X (dkX8_measure (80, .dup, 1) (pgm 48 rfl)) rfl ?_
        refine sf_getI X ff_8_10 lk_205 hk (dkX8_measure (81, .getfield 58, 3) (pgm 49 rfl)) ?_
        refine so_iconst (v := (1 : Int32)) X (dkX8_measure (84, .iconst 1, 1) (pgm 50 rfl)) ic_1 ?_
        refine so_aload_n (i := 0) X 0 (dkX8_measure (85, .aload_n 0, 1) (pgm 51 rfl)) rfl rfl ?_
        refine sf_getI X ff_8_2 lk_170 hk (dkX8_measure (86, .getfield 34, 3) (pgm 52 rfl)) ?_
        refine so_iload_n (i := 1) X 1 (dkX8_measure (89, .iload_n 1, 1) (pgm 53 rfl)) rfl rfl ?_
        refine so_imul X (dkX8_measure (90, .imul, 1) (pgm 54 rfl)) ?_
        refine so_iload_n (i := 2) X 2 (dkX8_measure (91, .iload_n 2, 1) (pgm 55 rfl)) rfl rfl ?_
        refine so_iadd X (dkX8_measure (92, .iadd, 1) (pgm 56 rfl)) ?_
        refine so_ishl X (dkX8_measure (93, .ishl, 1) (pgm 57 rfl)) ?_
        refine so_ior X (dkX8_measure (94, .ior, 1) (pgm 58 rfl)) ?_
        refine sf_putI X ff_8_10 ft_8 rfl lk_205 hk rfl rfl (dkX8_measure (95, .putfield 58, 3) (pgm 59 rfl)) (fun h10 => ?_)
        refine so_iinc (i := 2) X 2 (dkX8_measure (98, .iinc 2 1, 3) (pgm 60 rfl)) rfl rfl (by decide) (Lf := fun x11 => [(2, .int x11), (0, .ref this), (1, .int s47)]) (fun _ => rfl) (fun x11 => ?_)
        refine so_goto (tgt := 69) X (dkX8_measure (101, .goto (-32), 3) (pgm 61 rfl)) rfl ?_
        exact so_pick X [1, 2, 0] rfl (hrec69 x11 h10)
def pgX8_copyFrom : List (Nat × Instr × Nat) := [(0, .aload_n 0, 1), (1, .aload_n 1, 1), (2, .getfield 28, 3), (5, .putfield 28, 3), (8, .aload_n 0, 1), (9, .aload_n 1, 1), (10, .getfield 31, 3), (13, .putfield 31, 3), (16, .aload_n 0, 1), (17, .aload_n 1, 1), (18, .getfield 34, 3), (21, .putfield 34, 3), (24, .aload_n 0, 1), (25, .aload_n 1, 1), (26, .getfield 9, 3), (29, .putfield 9, 3), (32, .aload_n 0, 1), (33, .aload_n 1, 1), (34, .getfield 37, 3), (37, .putfield 37, 3), (40, .aload_n 0, 1), (41, .aload_n 1, 1), (42, .getfield 40, 3), (45, .putfield 40, 3), (48, .aload_n 0, 1), (49, .aload_n 1, 1), (50, .getfield 43, 3), (53, .putfield 43, 3), (56, .aload_n 0, 1), (57, .aload_n 1, 1), (58, .getfield 46, 3), (61, .putfield 46, 3), (64, .aload_n 1, 1), (65, .getfield 15, 3), (68, .iconst 0, 1), (69, .aload_n 0, 1), (70, .getfield 15, 3), (73, .iconst 0, 1), (74, .bipush 10, 2), (76, .invokestatic 64, 3), (79, .aload_n 1, 1), (80, .getfield 19, 3), (83, .iconst 0, 1), (84, .aload_n 0, 1), (85, .getfield 19, 3), (88, .iconst 0, 1), (89, .bipush 10, 2), (91, .invokestatic 64, 3), (94, .aload_n 1, 1), (95, .getfield 22, 3), (98, .iconst 0, 1), (99, .aload_n 0, 1), (100, .getfield 22, 3), (103, .iconst 0, 1), (104, .bipush 11, 2), (106, .invokestatic 64, 3), (109, .aload_n 1, 1), (110, .getfield 25, 3), (113, .iconst 0, 1), (114, .aload_n 0, 1), (115, .getfield 25, 3), (118, .iconst 0, 1), (119, .aload_n 0, 1), (120, .getfield 46, 3), (123, .invokestatic 64, 3), (126, .aload_n 0, 1), (127, .invokevirtual 49, 3), (130, .return_, 1)]
theorem dkX8_copyFrom : ∀ q ∈ pgX8_copyFrom, decode cX8_copyFrom q.1 = .ok q.2 := by decide +kernel
def f_X8_copyFrom (this : Nat) (a1 : Nat) (h0 : PH) : Option (Unit × PH) :=
  lt (pI h0 this 0 (h0.1 a1 0)) (fun (h1 : PH) => lt (pI h1 this 1 (h1.1 a1 1)) (fun (h2 : PH) => lt (pI h2 this 2 (h2.1 a1 2)) (fun (h3 : PH) => lt (pI h3 this 3 (h3.1 a1 3)) (fun (h4 : PH) => lt (pI h4 this 4 (h4.1 a1 4)) (fun (h5 : PH) => lt (pI h5 this 5 (h5.1 a1 5)) (fun (h6 : PH) => lt (pI h6 this 6 (h6.1 a1 6)) (fun (h7 : PH) => lt (pI h7 this 9 (h7.1 a1 9)) (fun (h8 : PH) => cyI h8 (rt a1 12) 10 (rt this 12) 10 (0 : Int32) (0 : Int32) (10 : Int32) (fun (h9 : PH) => cyI h9 (rt a1 13) 10 (rt this 13) 10 (0 : Int32) (0 : Int32) (10 : Int32) (fun (h10 : PH) => cyI h10 (rt a1 14) 11 (rt this 14) 11 (0 : Int32) (0 : Int32) (11 : Int32) (fun (h11 : PH) => cyI h11 (rt a1 15) 900 (rt this 15) 900 (0 : Int32) (0 : Int32) (h11.1 this 9) (fun (h12 : PH) => cb (f_X8_measure this h12) (fun (r13 : Unit) (h14 : PH) => some ((), h14))))))))))))))
set_option maxRecDepth 100000 in
set_option maxHeartbeats 4000000 in
theorem ct_X8_copyFrom (l : Launch) (this : Nat) (a1 : Nat) (h0 : PH) (hk : (kd this).1 = 8) (hk1 : (kd a1).1 = 8) : CT mkV l yX8_copyFrom cX8_copyFrom 2 none (rmd 1) [.ref this, .ref a1] h0 (f_X8_copyFrom this a1 h0) := by
  refine ct_of (by decide) (Nat.le_of_ble_eq_true rfl) ?_
  intro p e s m args below meth c D cA ad A X hr hlk
  have X : Cx p s m args c RX8 cX8_copyFrom 2 D cA ad A := X
  unfold f_X8_copyFrom
  refine so_pick (L' := [(0, .ref this), (1, .ref a1)]) X [0, 1] rfl ?_
  refine so_aload_n (i := 0) X 0 (dkX8_copyFrom (0, .aload_n 0, 1) (pgm 0 rfl)) rfl rfl ?_
  refine so_aload_n (i := 1) X 1 (dkX8_copyFrom (1, .aload_n 1, 1) (pgm 1 rfl)) rfl rfl ?_
  refine sf_getI X ff_8_0 lk_164 hk1 (dkX8_copyFrom (2, .getfield 28, 3) (pgm 2 rfl)) ?_
  refine sf_putI X ff_8_0 ft_8 rfl lk_164 hk rfl rfl (dkX8_copyFrom (5, .putfield 28, 3) (pgm 3 rfl)) (fun h1 => ?_)
  refine so_aload_n (i := 0) X 0 (dkX8_copyFrom (8, .aload_n 0, 1) (pgm 4 rfl)) rfl rfl ?_
  refine so_aload_n (i := 1) X 1 (dkX8_copyFrom (9, .aload_n 1, 1) (pgm 5 rfl)) rfl rfl ?_
  refine sf_getI X ff_8_1 lk_167 hk1 (dkX8_copyFrom (10, .getfield 31, 3) (pgm 6 rfl)) ?_
  refine sf_putI X ff_8_1 ft_8 rfl lk_167 hk rfl rfl (dkX8_copyFrom (13, .putfield 31, 3) (pgm 7 rfl)) (fun h2 => ?_)
  refine so_aload_n (i := 0) X 0 (dkX8_copyFrom (16, .aload_n 0, 1) (pgm 8 rfl)) rfl rfl ?_
  refine so_aload_n (i := 1) X 1 (dkX8_copyFrom (17, .aload_n 1, 1) (pgm 9 rfl)) rfl rfl ?_
  refine sf_getI X ff_8_2 lk_170 hk1 (dkX8_copyFrom (18, .getfield 34, 3) (pgm 10 rfl)) ?_
  refine sf_putI X ff_8_2 ft_8 rfl lk_170 hk rfl rfl (dkX8_copyFrom (21, .putfield 34, 3) (pgm 11 rfl)) (fun h3 => ?_)
  refine so_aload_n (i := 0) X 0 (dkX8_copyFrom (24, .aload_n 0, 1) (pgm 12 rfl)) rfl rfl ?_
  refine so_aload_n (i := 1) X 1 (dkX8_copyFrom (25, .aload_n 1, 1) (pgm 13 rfl)) rfl rfl ?_
  refine sf_getI X ff_8_3 lk_173 hk1 (dkX8_copyFrom (26, .getfield 9, 3) (pgm 14 rfl)) ?_
  refine sf_putI X ff_8_3 ft_8 rfl lk_173 hk rfl rfl (dkX8_copyFrom (29, .putfield 9, 3) (pgm 15 rfl)) (fun h4 => ?_)
  refine so_aload_n (i := 0) X 0 (dkX8_copyFrom (32, .aload_n 0, 1) (pgm 16 rfl)) rfl rfl ?_
  refine so_aload_n (i := 1) X 1 (dkX8_copyFrom (33, .aload_n 1, 1) (pgm 17 rfl)) rfl rfl ?_
  refine sf_getI X ff_8_4 lk_177 hk1 (dkX8_copyFrom (34, .getfield 37, 3) (pgm 18 rfl)) ?_
  refine sf_putI X ff_8_4 ft_8 rfl lk_177 hk rfl rfl (dkX8_copyFrom (37, .putfield 37, 3) (pgm 19 rfl)) (fun h5 => ?_)
  refine so_aload_n (i := 0) X 0 (dkX8_copyFrom (40, .aload_n 0, 1) (pgm 20 rfl)) rfl rfl ?_
  refine so_aload_n (i := 1) X 1 (dkX8_copyFrom (41, .aload_n 1, 1) (pgm 21 rfl)) rfl rfl ?_
  refine sf_getI X ff_8_5 lk_180 hk1 (dkX8_copyFrom (42, .getfield 40, 3) (pgm 22 rfl)) ?_
  refine sf_putI X ff_8_5 ft_8 rfl lk_180 hk rfl rfl (dkX8_copyFrom (45, .putfield 40, 3) (pgm 23 rfl)) (fun h6 => ?_)
  refine so_aload_n (i := 0) X 0 (dkX8_copyFrom (48, .aload_n 0, 1) (pgm 24 rfl)) rfl rfl ?_
  refine so_aload_n (i := 1) X 1 (dkX8_copyFrom (49, .aload_n 1, 1) (pgm 25 rfl)) rfl rfl ?_
  refine sf_getI X ff_8_6 lk_187 hk1 (dkX8_copyFrom (50, .getfield 43, 3) (pgm 26 rfl)) ?_
  refine sf_putI X ff_8_6 ft_8 rfl lk_187 hk rfl rfl (dkX8_copyFrom (53, .putfield 43, 3) (pgm 27 rfl)) (fun h7 => ?_)
  refine so_aload_n (i := 0) X 0 (dkX8_copyFrom (56, .aload_n 0, 1) (pgm 28 rfl)) rfl rfl ?_
  refine so_aload_n (i := 1) X 1 (dkX8_copyFrom (57, .aload_n 1, 1) (pgm 29 rfl)) rfl rfl ?_
  refine sf_getI X ff_8_9 lk_203 hk1 (dkX8_copyFrom (58, .getfield 46, 3) (pgm 30 rfl)) ?_
  refine sf_putI X ff_8_9 ft_8 rfl lk_203 hk rfl rfl (dkX8_copyFrom (61, .putfield 46, 3) (pgm 31 rfl)) (fun h8 => ?_)
  refine so_aload_n (i := 1) X 1 (dkX8_copyFrom (64, .aload_n 1, 1) (pgm 32 rfl)) rfl rfl ?_
  refine sf_getR X ff_8_12 lk_207 hk1 (dkX8_copyFrom (65, .getfield 15, 3) (pgm 33 rfl)) ?_
  refine so_iconst (v := (0 : Int32)) X (dkX8_copyFrom (68, .iconst 0, 1) (pgm 34 rfl)) ic_0 ?_
  refine so_aload_n (i := 0) X 0 (dkX8_copyFrom (69, .aload_n 0, 1) (pgm 35 rfl)) rfl rfl ?_
  refine sf_getR X ff_8_12 lk_207 hk (dkX8_copyFrom (70, .getfield 15, 3) (pgm 36 rfl)) ?_
  refine so_iconst (v := (0 : Int32)) X (dkX8_copyFrom (73, .iconst 0, 1) (pgm 37 rfl)) ic_0 ?_
  refine so_bipush (v := (10 : Int32)) X (dkX8_copyFrom (74, .bipush 10, 2) (pgm 38 rfl)) bp_10 ?_
  refine so_copyI X (rk_8_12 a1 hk1) (rk_8_12 this hk) lk_1106 lk_718 lk_717 lk_145 (Nat.le_of_ble_eq_true rfl) (Nat.le_of_ble_eq_true rfl) (dkX8_copyFrom (76, .invokestatic 64, 3) (pgm 39 rfl)) (fun h9 => ?_)
  refine so_aload_n (i := 1) X 1 (dkX8_copyFrom (79, .aload_n 1, 1) (pgm 40 rfl)) rfl rfl ?_
  refine sf_getR X ff_8_13 lk_212 hk1 (dkX8_copyFrom (80, .getfield 19, 3) (pgm 41 rfl)) ?_
  refine so_iconst (v := (0 : Int32)) X (dkX8_copyFrom (83, .iconst 0, 1) (pgm 42 rfl)) ic_0 ?_
  refine so_aload_n (i := 0) X 0 (dkX8_copyFrom (84, .aload_n 0, 1) (pgm 43 rfl)) rfl rfl ?_
  refine sf_getR X ff_8_13 lk_212 hk (dkX8_copyFrom (85, .getfield 19, 3) (pgm 44 rfl)) ?_
  refine so_iconst (v := (0 : Int32)) X (dkX8_copyFrom (88, .iconst 0, 1) (pgm 45 rfl)) ic_0 ?_
  refine so_bipush (v := (10 : Int32)) X (dkX8_copyFrom (89, .bipush 10, 2) (pgm 46 rfl)) bp_10 ?_
  refine so_copyI X (rk_8_13 a1 hk1) (rk_8_13 this hk) lk_1106 lk_718 lk_717 lk_145 (Nat.le_of_ble_eq_true rfl) (Nat.le_of_ble_eq_true rfl) (dkX8_copyFrom (91, .invokestatic 64, 3) (pgm 47 rfl)) (fun h10 => ?_)
  refine so_aload_n (i := 1) X 1 (dkX8_copyFrom (94, .aload_n 1, 1) (pgm 48 rfl)) rfl rfl ?_
  refine sf_getR X ff_8_14 lk_217 hk1 (dkX8_copyFrom (95, .getfield 22, 3) (pgm 49 rfl)) ?_
  refine so_iconst (v := (0 : Int32)) X (dkX8_copyFrom (98, .iconst 0, 1) (pgm 50 rfl)) ic_0 ?_
  refine so_aload_n (i := 0) X 0 (dkX8_copyFrom (99, .aload_n 0, 1) (pgm 51 rfl)) rfl rfl ?_
  refine sf_getR X ff_8_14 lk_217 hk (dkX8_copyFrom (100, .getfield 22, 3) (pgm 52 rfl)) ?_
  refine so_iconst (v := (0 : Int32)) X (dkX8_copyFrom (103, .iconst 0, 1) (pgm 53 rfl)) ic_0 ?_
  refine so_bipush (v := (11 : Int32)) X (dkX8_copyFrom (104, .bipush 11, 2) (pgm 54 rfl)) bp_11 ?_
  refine so_copyI X (rk_8_14 a1 hk1) (rk_8_14 this hk) lk_1106 lk_718 lk_717 lk_145 (Nat.le_of_ble_eq_true rfl) (Nat.le_of_ble_eq_true rfl) (dkX8_copyFrom (106, .invokestatic 64, 3) (pgm 55 rfl)) (fun h11 => ?_)
  refine so_aload_n (i := 1) X 1 (dkX8_copyFrom (109, .aload_n 1, 1) (pgm 56 rfl)) rfl rfl ?_
  refine sf_getR X ff_8_15 lk_220 hk1 (dkX8_copyFrom (110, .getfield 25, 3) (pgm 57 rfl)) ?_
  refine so_iconst (v := (0 : Int32)) X (dkX8_copyFrom (113, .iconst 0, 1) (pgm 58 rfl)) ic_0 ?_
  refine so_aload_n (i := 0) X 0 (dkX8_copyFrom (114, .aload_n 0, 1) (pgm 59 rfl)) rfl rfl ?_
  refine sf_getR X ff_8_15 lk_220 hk (dkX8_copyFrom (115, .getfield 25, 3) (pgm 60 rfl)) ?_
  refine so_iconst (v := (0 : Int32)) X (dkX8_copyFrom (118, .iconst 0, 1) (pgm 61 rfl)) ic_0 ?_
  refine so_aload_n (i := 0) X 0 (dkX8_copyFrom (119, .aload_n 0, 1) (pgm 62 rfl)) rfl rfl ?_
  refine sf_getI X ff_8_9 lk_203 hk (dkX8_copyFrom (120, .getfield 46, 3) (pgm 63 rfl)) ?_
  refine so_copyI X (rk_8_15 a1 hk1) (rk_8_15 this hk) lk_1106 lk_718 lk_717 lk_145 (Nat.le_of_ble_eq_true rfl) (Nat.le_of_ble_eq_true rfl) (dkX8_copyFrom (123, .invokestatic 64, 3) (pgm 64 rfl)) (fun h12 => ?_)
  refine so_aload_n (i := 0) X 0 (dkX8_copyFrom (126, .aload_n 0, 1) (pgm 65 rfl)) rfl rfl ?_
  refine so_callV (n := 0) (As := []) X (ct_X8_measure l this h12 hk) hk (by decide) rfl lk_855 lk_856 lk_857 lk_122 lk_858 (by decide +kernel) rfl rfl rfl (rm_ok (by omega) (by decide)) ⟨Nat.zero_le _, Nat.zero_le _⟩ (Nat.le_of_ble_eq_true rfl) (dkX8_copyFrom (127, .invokevirtual 49, 3) (pgm 66 rfl)) (fun r13 h14 => ?_) rfl
  exact so_vret X hr hlk (dkX8_copyFrom (130, .return_, 1) (pgm 67 rfl))
def pgX8_emit : List (Nat × Instr × Nat) := [(0, .aload_n 0, 1), (1, .getfield 46, 3), (4, .sipush 900, 3), (7, .if_icmp .ge 28, 3), (10, .aload_n 0, 1), (11, .getfield 25, 3), (14, .aload_n 0, 1), (15, .getfield 46, 3), (18, .iload_n 1, 1), (19, .bipush 12, 2), (21, .ishl, 1), (22, .iload_n 2, 1), (23, .ior, 1), (24, .iastore, 1), (25, .aload_n 0, 1), (26, .dup, 1), (27, .getfield 46, 3), (30, .iconst 1, 1), (31, .iadd, 1), (32, .putfield 46, 3), (35, .return_, 1)]
theorem dkX8_emit : ∀ q ∈ pgX8_emit, decode cX8_emit q.1 = .ok q.2 := by decide +kernel
def f_X8_emit (this : Nat) (a1 : Int32) (a2 : Int32) (h0 : PH) : Option (Unit × PH) :=
  lt (fun (h1 : PH) => some ((), h1)) (fun (j35 : PH → Option (Unit × PH)) => if (900 : Int32) ≤ (h0.1 this 9) then (j35 h0) else (stI h0 (rt this 15) 900 (h0.1 this 9) ((a1 <<< ((12 : Int32) &&& 31)) ||| a2) (fun (h2 : PH) => lt (pI h2 this 9 ((h2.1 this 9) + (1 : Int32))) (fun (h3 : PH) => j35 h3))))
set_option maxRecDepth 100000 in
set_option maxHeartbeats 4000000 in
theorem ct_X8_emit (l : Launch) (this : Nat) (a1 : Int32) (a2 : Int32) (h0 : PH) (hk : (kd this).1 = 8) : CT mkV l yX8_emit cX8_emit 3 none (rmd 0) [.ref this, .int a1, .int a2] h0 (f_X8_emit this a1 a2 h0) := by
  refine ct_of (by decide) (Nat.le_of_ble_eq_true rfl) ?_
  intro p e s m args below meth c D cA ad A X hr hlk
  have X : Cx p s m args c RX8 cX8_emit 3 D cA ad A := X
  unfold f_X8_emit
  refine so_pick (L' := [(0, .ref this), (1, .int a1), (2, .int a2)]) X [0, 1, 2] rfl ?_
  refine so_aload_n (i := 0) X 0 (dkX8_emit (0, .aload_n 0, 1) (pgm 0 rfl)) rfl rfl ?_
  refine sf_getI X ff_8_9 lk_203 hk (dkX8_emit (1, .getfield 46, 3) (pgm 1 rfl)) ?_
  refine so_sipush (v := (900 : Int32)) X (dkX8_emit (4, .sipush 900, 3) (pgm 2 rfl)) sp_900 ?_
  refine so_join (jf := fun (h1 : PH) => some ((), h1)) (fun (j : PH → Option (Unit × PH)) => ∀  (h1 : PH), SWo (QM mkV below args s D cA ad A) p l e (rmd 0) s m args below meth c 0 0 3 D cA ad A 35 [] [] h1 (j h1)) ?_ (fun j35 hj35 => ?_)
  · intro h1
    exact so_vret X hr hlk (dkX8_emit (35, .return_, 1) (pgm 20 rfl))
  refine so_icmp_ge (tgt := 35) X (dkX8_emit (7, .if_icmp .ge 28, 3) (pgm 3 rfl)) rfl (fun _ => ?_) (fun _ => ?_)
  · exact so_pick X [] rfl (hj35 h0)
  · refine so_aload_n (i := 0) X 0 (dkX8_emit (10, .aload_n 0, 1) (pgm 4 rfl)) rfl rfl ?_
    refine sf_getR X ff_8_15 lk_220 hk (dkX8_emit (11, .getfield 25, 3) (pgm 5 rfl)) ?_
    refine so_aload_n (i := 0) X 0 (dkX8_emit (14, .aload_n 0, 1) (pgm 6 rfl)) rfl rfl ?_
    refine sf_getI X ff_8_9 lk_203 hk (dkX8_emit (15, .getfield 46, 3) (pgm 7 rfl)) ?_
    refine so_iload_n (i := 1) X 1 (dkX8_emit (18, .iload_n 1, 1) (pgm 8 rfl)) rfl rfl ?_
    refine so_bipush (v := (12 : Int32)) X (dkX8_emit (19, .bipush 12, 2) (pgm 9 rfl)) bp_12 ?_
    refine so_ishl X (dkX8_emit (21, .ishl, 1) (pgm 10 rfl)) ?_
    refine so_iload_n (i := 2) X 2 (dkX8_emit (22, .iload_n 2, 1) (pgm 11 rfl)) rfl rfl ?_
    refine so_ior X (dkX8_emit (23, .ior, 1) (pgm 12 rfl)) ?_
    refine so_iast X (rk_8_15 this hk) (dkX8_emit (24, .iastore, 1) (pgm 13 rfl)) (fun h2 => ?_)
    refine so_aload_n (i := 0) X 0 (dkX8_emit (25, .aload_n 0, 1) (pgm 14 rfl)) rfl rfl ?_
    refine so_dup X (dkX8_emit (26, .dup, 1) (pgm 15 rfl)) rfl ?_
    refine sf_getI X ff_8_9 lk_203 hk (dkX8_emit (27, .getfield 46, 3) (pgm 16 rfl)) ?_
    refine so_iconst (v := (1 : Int32)) X (dkX8_emit (30, .iconst 1, 1) (pgm 17 rfl)) ic_1 ?_
    refine so_iadd X (dkX8_emit (31, .iadd, 1) (pgm 18 rfl)) ?_
    refine sf_putI X ff_8_9 ft_8 rfl lk_203 hk rfl rfl (dkX8_emit (32, .putfield 46, 3) (pgm 19 rfl)) (fun h3 => ?_)
    exact so_pick X [] rfl (hj35 h3)
def pgX8_weatherOf : List (Nat × Instr × Nat) := [(0, .iload_n 1, 1), (1, .iload_n 1, 1), (2, .aload_n 0, 1), (3, .getfield 58, 3), (6, .iand, 1), (7, .aload_n 0, 1), (8, .getfield 61, 3), (11, .ishl, 1), (12, .ior, 1), (13, .ireturn, 1)]
theorem dkX8_weatherOf : ∀ q ∈ pgX8_weatherOf, decode cX8_weatherOf q.1 = .ok q.2 := by decide +kernel
def f_X8_weatherOf (this : Nat) (a1 : Int32) (h0 : PH) : Option (Int32 × PH) :=
  some ((a1 ||| ((a1 &&& (h0.1 this 10)) <<< ((h0.1 this 11) &&& 31))), h0)
set_option maxRecDepth 100000 in
set_option maxHeartbeats 4000000 in
theorem ct_X8_weatherOf (l : Launch) (this : Nat) (a1 : Int32) (h0 : PH) (hk : (kd this).1 = 8) : CT mkI l yX8_weatherOf cX8_weatherOf 2 (some .int) (rmd 0) [.ref this, .int a1] h0 (f_X8_weatherOf this a1 h0) := by
  refine ct_of (by decide) (Nat.le_of_ble_eq_true rfl) ?_
  intro p e s m args below meth c D cA ad A X hr hlk
  have X : Cx p s m args c RX8 cX8_weatherOf 2 D cA ad A := X
  unfold f_X8_weatherOf
  refine so_pick (L' := [(0, .ref this), (1, .int a1)]) X [0, 1] rfl ?_
  refine so_iload_n (i := 1) X 1 (dkX8_weatherOf (0, .iload_n 1, 1) (pgm 0 rfl)) rfl rfl ?_
  refine so_iload_n (i := 1) X 1 (dkX8_weatherOf (1, .iload_n 1, 1) (pgm 1 rfl)) rfl rfl ?_
  refine so_aload_n (i := 0) X 0 (dkX8_weatherOf (2, .aload_n 0, 1) (pgm 2 rfl)) rfl rfl ?_
  refine sf_getI X ff_8_10 lk_205 hk (dkX8_weatherOf (3, .getfield 58, 3) (pgm 3 rfl)) ?_
  refine so_iand X (dkX8_weatherOf (6, .iand, 1) (pgm 4 rfl)) ?_
  refine so_aload_n (i := 0) X 0 (dkX8_weatherOf (7, .aload_n 0, 1) (pgm 5 rfl)) rfl rfl ?_
  refine sf_getI X ff_8_11 lk_206 hk (dkX8_weatherOf (8, .getfield 61, 3) (pgm 6 rfl)) ?_
  refine so_ishl X (dkX8_weatherOf (11, .ishl, 1) (pgm 7 rfl)) ?_
  refine so_ior X (dkX8_weatherOf (12, .ior, 1) (pgm 8 rfl)) ?_
  exact so_iret X hr hlk (dkX8_weatherOf (13, .ireturn, 1) (pgm 9 rfl))
def pgX8_weightOf : List (Nat × Instr × Nat) := [(0, .iconst 0, 1), (1, .istore_n 2, 1), (2, .iconst 0, 1), (3, .istore_n 3, 1), (4, .iload_n 3, 1), (5, .aload_n 0, 1), (6, .getfield 40, 3), (9, .if_icmp .ge 27, 3), (12, .iload_n 1, 1), (13, .iload_n 3, 1), (14, .ishr, 1), (15, .iconst 1, 1), (16, .iand, 1), (17, .iconst 1, 1), (18, .if_icmp .ne 12, 3), (21, .iload_n 2, 1), (22, .aload_n 0, 1), (23, .getfield 19, 3), (26, .iload_n 3, 1), (27, .iaload, 1), (28, .iadd, 1), (29, .istore_n 2, 1), (30, .iinc 3 1, 3), (33, .goto (-29), 3), (36, .iload_n 2, 1), (37, .ireturn, 1)]
theorem dkX8_weightOf : ∀ q ∈ pgX8_weightOf, decode cX8_weightOf q.1 = .ok q.2 := by decide +kernel
def b_X8_weightOf_4 (this : Nat) (a1 : Int32) (rec4 : (Int32 × Int32) → PH → Option (Int32 × PH)) (s4 : Int32 × Int32) (hh4 : PH) : Option (Int32 × PH) :=
  if (hh4.1 this 5) ≤ s4.2 then (some (s4.1, hh4)) else (lt (fun (y3 : Int32) (h4 : PH) => lt (s4.2 + Int32.ofInt 1) (fun (x5 : Int32) => rec4 (y3, x5) h4)) (fun (j30 : Int32 → PH → Option (Int32 × PH)) => if ((a1 >>> (s4.2 &&& 31)) &&& (1 : Int32)) = (1 : Int32) then (ldI hh4 (rt this 13) 10 s4.2 (fun (x6 : Int32) => lt (s4.1 + x6) (fun (x7 : Int32) => j30 x7 hh4))) else (j30 s4.1 hh4)))
def f_X8_weightOf (this : Nat) (a1 : Int32) (h0 : PH) : Option (Int32 × PH) :=
  lt (0 : Int32) (fun (x1 : Int32) => lt (0 : Int32) (fun (x2 : Int32) => lp (b_X8_weightOf_4 this a1) FU (x1, x2) h0))
set_option maxRecDepth 100000 in
set_option maxHeartbeats 4000000 in
theorem ct_X8_weightOf (l : Launch) (this : Nat) (a1 : Int32) (h0 : PH) (hk : (kd this).1 = 8) : CT mkI l yX8_weightOf cX8_weightOf 4 (some .int) (rmd 0) [.ref this, .int a1] h0 (f_X8_weightOf this a1 h0) := by
  refine ct_of (by decide) (Nat.le_of_ble_eq_true rfl) ?_
  intro p e s m args below meth c D cA ad A X hr hlk
  have X : Cx p s m args c RX8 cX8_weightOf 4 D cA ad A := X
  unfold f_X8_weightOf
  refine so_pick (L' := [(0, .ref this), (1, .int a1)]) X [0, 1] rfl ?_
  refine so_iconst (v := (0 : Int32)) X (dkX8_weightOf (0, .iconst 0, 1) (pgm 0 rfl)) ic_0 ?_
  refine so_istore_n (i := 2) X (dkX8_weightOf (1, .istore_n 2, 1) (pgm 1 rfl)) rfl (by decide) (Lf := fun x1 => [(2, .int x1), (0, .ref this), (1, .int a1)]) (fun _ => rfl) (fun x1 => ?_)
  refine so_iconst (v := (0 : Int32)) X (dkX8_weightOf (2, .iconst 0, 1) (pgm 2 rfl)) ic_0 ?_
  refine so_istore_n (i := 3) X (dkX8_weightOf (3, .istore_n 3, 1) (pgm 3 rfl)) rfl (by decide) (Lf := fun x2 => [(3, .int x2), (2, .int x1), (0, .ref this), (1, .int a1)]) (fun _ => rfl) (fun x2 => ?_)
  refine so_pick (L' := [(0, .ref this), (1, .int a1), (2, .int x1), (3, .int x2)]) X [2, 3, 1, 0] rfl ?_
  refine so_loop (body := b_X8_weightOf_4 this a1) (fun (s4 : Int32 × Int32) => [(0, .ref this), (1, .int a1), (2, .int s4.1), (3, .int s4.2)]) (fun rec4 hrec4 s4 hh4 => ?_) FU (x1, x2) h0
  unfold b_X8_weightOf_4
  refine so_iload_n (i := 3) X 3 (dkX8_weightOf (4, .iload_n 3, 1) (pgm 4 rfl)) rfl rfl ?_
  refine so_aload_n (i := 0) X 0 (dkX8_weightOf (5, .aload_n 0, 1) (pgm 5 rfl)) rfl rfl ?_
  refine sf_getI X ff_8_5 lk_180 hk (dkX8_weightOf (6, .getfield 40, 3) (pgm 6 rfl)) ?_
  refine so_icmp_ge (tgt := 36) X (dkX8_weightOf (9, .if_icmp .ge 27, 3) (pgm 7 rfl)) rfl (fun _ => ?_) (fun _ => ?_)
  · refine so_iload_n (i := 2) X 2 (dkX8_weightOf (36, .iload_n 2, 1) (pgm 24 rfl)) rfl rfl ?_
    exact so_iret X hr hlk (dkX8_weightOf (37, .ireturn, 1) (pgm 25 rfl))
  · refine so_iload_n (i := 1) X 1 (dkX8_weightOf (12, .iload_n 1, 1) (pgm 8 rfl)) rfl rfl ?_
    refine so_iload_n (i := 3) X 3 (dkX8_weightOf (13, .iload_n 3, 1) (pgm 9 rfl)) rfl rfl ?_
    refine so_ishr X (dkX8_weightOf (14, .ishr, 1) (pgm 10 rfl)) ?_
    refine so_iconst (v := (1 : Int32)) X (dkX8_weightOf (15, .iconst 1, 1) (pgm 11 rfl)) ic_1 ?_
    refine so_iand X (dkX8_weightOf (16, .iand, 1) (pgm 12 rfl)) ?_
    refine so_iconst (v := (1 : Int32)) X (dkX8_weightOf (17, .iconst 1, 1) (pgm 13 rfl)) ic_1 ?_
    refine so_join (jf := fun (y3 : Int32) (h4 : PH) => lt (s4.2 + Int32.ofInt 1) (fun (x5 : Int32) => rec4 (y3, x5) h4)) (fun (j : Int32 → PH → Option (Int32 × PH)) => ∀ (y3 : Int32) (h4 : PH), SWo (QM mkI below args s D cA ad A) p l e (rmd 0) s m args below meth c 0 0 4 D cA ad A 30 [(0, .ref this), (1, .int a1), (2, .int y3), (3, .int s4.2)] [] h4 (j y3 h4)) ?_ (fun j30 hj30 => ?_)
    · intro y3 h4
      refine so_iinc (i := 3) X 3 (dkX8_weightOf (30, .iinc 3 1, 3) (pgm 22 rfl)) rfl rfl (by decide) (Lf := fun x5 => [(3, .int x5), (0, .ref this), (1, .int a1), (2, .int y3)]) (fun _ => rfl) (fun x5 => ?_)
      refine so_goto (tgt := 4) X (dkX8_weightOf (33, .goto (-29), 3) (pgm 23 rfl)) rfl ?_
      exact so_pick X [1, 2, 3, 0] rfl (hrec4 (y3, x5) h4)
    refine so_icmp_ne (tgt := 30) X (dkX8_weightOf (18, .if_icmp .ne 12, 3) (pgm 14 rfl)) rfl (fun _ => ?_) (fun _ => ?_)
    · exact so_pick X [0, 1, 2, 3] rfl (hj30 s4.1 hh4)
    · refine so_iload_n (i := 2) X 2 (dkX8_weightOf (21, .iload_n 2, 1) (pgm 15 rfl)) rfl rfl ?_
      refine so_aload_n (i := 0) X 0 (dkX8_weightOf (22, .aload_n 0, 1) (pgm 16 rfl)) rfl rfl ?_
      refine sf_getR X ff_8_13 lk_212 hk (dkX8_weightOf (23, .getfield 19, 3) (pgm 17 rfl)) ?_
      refine so_iload_n (i := 3) X 3 (dkX8_weightOf (26, .iload_n 3, 1) (pgm 18 rfl)) rfl rfl ?_
      refine so_iald X (rk_8_13 this hk) (dkX8_weightOf (27, .iaload, 1) (pgm 19 rfl)) (fun x6 => ?_)
      refine so_iadd X (dkX8_weightOf (28, .iadd, 1) (pgm 20 rfl)) ?_
      refine so_istore_n (i := 2) X (dkX8_weightOf (29, .istore_n 2, 1) (pgm 21 rfl)) rfl (by decide) (Lf := fun x7 => [(2, .int x7), (0, .ref this), (1, .int a1), (3, .int s4.2)]) (fun _ => rfl) (fun x7 => ?_)
      exact so_pick X [1, 2, 0, 3] rfl (hj30 x7 hh4)
def pgX8_cellsOfParish : List (Nat × Instr × Nat) := [(0, .iconst 1, 1), (1, .aload_n 0, 1), (2, .getfield 34, 3), (5, .ishl, 1), (6, .iconst 1, 1), (7, .isub, 1), (8, .aload_n 0, 1), (9, .getfield 34, 3), (12, .iload_n 1, 1), (13, .imul, 1), (14, .ishl, 1), (15, .ireturn, 1)]
theorem dkX8_cellsOfParish : ∀ q ∈ pgX8_cellsOfParish, decode cX8_cellsOfParish q.1 = .ok q.2 := by decide +kernel
def f_X8_cellsOfParish (this : Nat) (a1 : Int32) (h0 : PH) : Option (Int32 × PH) :=
  some (((((1 : Int32) <<< ((h0.1 this 2) &&& 31)) - (1 : Int32)) <<< (((h0.1 this 2) * a1) &&& 31)), h0)
set_option maxRecDepth 100000 in
set_option maxHeartbeats 4000000 in
theorem ct_X8_cellsOfParish (l : Launch) (this : Nat) (a1 : Int32) (h0 : PH) (hk : (kd this).1 = 8) : CT mkI l yX8_cellsOfParish cX8_cellsOfParish 2 (some .int) (rmd 0) [.ref this, .int a1] h0 (f_X8_cellsOfParish this a1 h0) := by
  refine ct_of (by decide) (Nat.le_of_ble_eq_true rfl) ?_
  intro p e s m args below meth c D cA ad A X hr hlk
  have X : Cx p s m args c RX8 cX8_cellsOfParish 2 D cA ad A := X
  unfold f_X8_cellsOfParish
  refine so_pick (L' := [(0, .ref this), (1, .int a1)]) X [0, 1] rfl ?_
  refine so_iconst (v := (1 : Int32)) X (dkX8_cellsOfParish (0, .iconst 1, 1) (pgm 0 rfl)) ic_1 ?_
  refine so_aload_n (i := 0) X 0 (dkX8_cellsOfParish (1, .aload_n 0, 1) (pgm 1 rfl)) rfl rfl ?_
  refine sf_getI X ff_8_2 lk_170 hk (dkX8_cellsOfParish (2, .getfield 34, 3) (pgm 2 rfl)) ?_
  refine so_ishl X (dkX8_cellsOfParish (5, .ishl, 1) (pgm 3 rfl)) ?_
  refine so_iconst (v := (1 : Int32)) X (dkX8_cellsOfParish (6, .iconst 1, 1) (pgm 4 rfl)) ic_1 ?_
  refine so_isub X (dkX8_cellsOfParish (7, .isub, 1) (pgm 5 rfl)) ?_
  refine so_aload_n (i := 0) X 0 (dkX8_cellsOfParish (8, .aload_n 0, 1) (pgm 6 rfl)) rfl rfl ?_
  refine sf_getI X ff_8_2 lk_170 hk (dkX8_cellsOfParish (9, .getfield 34, 3) (pgm 7 rfl)) ?_
  refine so_iload_n (i := 1) X 1 (dkX8_cellsOfParish (12, .iload_n 1, 1) (pgm 8 rfl)) rfl rfl ?_
  refine so_imul X (dkX8_cellsOfParish (13, .imul, 1) (pgm 9 rfl)) ?_
  refine so_ishl X (dkX8_cellsOfParish (14, .ishl, 1) (pgm 10 rfl)) ?_
  exact so_iret X hr hlk (dkX8_cellsOfParish (15, .ireturn, 1) (pgm 11 rfl))
def pgX8_cellsOnDay : List (Nat × Instr × Nat) := [(0, .iconst 0, 1), (1, .istore_n 2, 1), (2, .iconst 0, 1), (3, .istore_n 3, 1), (4, .iload_n 3, 1), (5, .aload_n 0, 1), (6, .getfield 31, 3), (9, .if_icmp .ge 22, 3), (12, .iload_n 2, 1), (13, .iconst 1, 1), (14, .aload_n 0, 1), (15, .getfield 34, 3), (18, .iload_n 3, 1), (19, .imul, 1), (20, .iload_n 1, 1), (21, .iadd, 1), (22, .ishl, 1), (23, .ior, 1), (24, .istore_n 2, 1), (25, .iinc 3 1, 3), (28, .goto (-24), 3), (31, .iload_n 2, 1), (32, .ireturn, 1)]
theorem dkX8_cellsOnDay : ∀ q ∈ pgX8_cellsOnDay, decode cX8_cellsOnDay q.1 = .ok q.2 := by decide +kernel
def b_X8_cellsOnDay_4 (this : Nat) (a1 : Int32) (rec4 : (Int32 × Int32) → PH → Option (Int32 × PH)) (s4 : Int32 × Int32) (hh4 : PH) : Option (Int32 × PH) :=
  if (hh4.1 this 1) ≤ s4.2 then (some (s4.1, hh4)) else (lt (s4.1 ||| ((1 : Int32) <<< ((((hh4.1 this 2) * s4.2) + a1) &&& 31))) (fun (x3 : Int32) => lt (s4.2 + Int32.ofInt 1) (fun (x4 : Int32) => rec4 (x3, x4) hh4)))
def f_X8_cellsOnDay (this : Nat) (a1 : Int32) (h0 : PH) : Option (Int32 × PH) :=
  lt (0 : Int32) (fun (x1 : Int32) => lt (0 : Int32) (fun (x2 : Int32) => lp (b_X8_cellsOnDay_4 this a1) FU (x1, x2) h0))
set_option maxRecDepth 100000 in
set_option maxHeartbeats 4000000 in
theorem ct_X8_cellsOnDay (l : Launch) (this : Nat) (a1 : Int32) (h0 : PH) (hk : (kd this).1 = 8) : CT mkI l yX8_cellsOnDay cX8_cellsOnDay 4 (some .int) (rmd 0) [.ref this, .int a1] h0 (f_X8_cellsOnDay this a1 h0) := by
  refine ct_of (by decide) (Nat.le_of_ble_eq_true rfl) ?_
  intro p e s m args below meth c D cA ad A X hr hlk
  have X : Cx p s m args c RX8 cX8_cellsOnDay 4 D cA ad A := X
  unfold f_X8_cellsOnDay
  refine so_pick (L' := [(0, .ref this), (1, .int a1)]) X [0, 1] rfl ?_
  refine so_iconst (v := (0 : Int32)) X (dkX8_cellsOnDay (0, .iconst 0, 1) (pgm 0 rfl)) ic_0 ?_
  refine so_istore_n (i := 2) X (dkX8_cellsOnDay (1, .istore_n 2, 1) (pgm 1 rfl)) rfl (by decide) (Lf := fun x1 => [(2, .int x1), (0, .ref this), (1, .int a1)]) (fun _ => rfl) (fun x1 => ?_)
  refine so_iconst (v := (0 : Int32)) X (dkX8_cellsOnDay (2, .iconst 0, 1) (pgm 2 rfl)) ic_0 ?_
  refine so_istore_n (i := 3) X (dkX8_cellsOnDay (3, .istore_n 3, 1) (pgm 3 rfl)) rfl (by decide) (Lf := fun x2 => [(3, .int x2), (2, .int x1), (0, .ref this), (1, .int a1)]) (fun _ => rfl) (fun x2 => ?_)
  refine so_pick (L' := [(0, .ref this), (1, .int a1), (2, .int x1), (3, .int x2)]) X [2, 3, 1, 0] rfl ?_
  refine so_loop (body := b_X8_cellsOnDay_4 this a1) (fun (s4 : Int32 × Int32) => [(0, .ref this), (1, .int a1), (2, .int s4.1), (3, .int s4.2)]) (fun rec4 hrec4 s4 hh4 => ?_) FU (x1, x2) h0
  unfold b_X8_cellsOnDay_4
  refine so_iload_n (i := 3) X 3 (dkX8_cellsOnDay (4, .iload_n 3, 1) (pgm 4 rfl)) rfl rfl ?_
  refine so_aload_n (i := 0) X 0 (dkX8_cellsOnDay (5, .aload_n 0, 1) (pgm 5 rfl)) rfl rfl ?_
  refine sf_getI X ff_8_1 lk_167 hk (dkX8_cellsOnDay (6, .getfield 31, 3) (pgm 6 rfl)) ?_
  refine so_icmp_ge (tgt := 31) X (dkX8_cellsOnDay (9, .if_icmp .ge 22, 3) (pgm 7 rfl)) rfl (fun _ => ?_) (fun _ => ?_)
  · refine so_iload_n (i := 2) X 2 (dkX8_cellsOnDay (31, .iload_n 2, 1) (pgm 21 rfl)) rfl rfl ?_
    exact so_iret X hr hlk (dkX8_cellsOnDay (32, .ireturn, 1) (pgm 22 rfl))
  · refine so_iload_n (i := 2) X 2 (dkX8_cellsOnDay (12, .iload_n 2, 1) (pgm 8 rfl)) rfl rfl ?_
    refine so_iconst (v := (1 : Int32)) X (dkX8_cellsOnDay (13, .iconst 1, 1) (pgm 9 rfl)) ic_1 ?_
    refine so_aload_n (i := 0) X 0 (dkX8_cellsOnDay (14, .aload_n 0, 1) (pgm 10 rfl)) rfl rfl ?_
    refine sf_getI X ff_8_2 lk_170 hk (dkX8_cellsOnDay (15, .getfield 34, 3) (pgm 11 rfl)) ?_
    refine so_iload_n (i := 3) X 3 (dkX8_cellsOnDay (18, .iload_n 3, 1) (pgm 12 rfl)) rfl rfl ?_
    refine so_imul X (dkX8_cellsOnDay (19, .imul, 1) (pgm 13 rfl)) ?_
    refine so_iload_n (i := 1) X 1 (dkX8_cellsOnDay (20, .iload_n 1, 1) (pgm 14 rfl)) rfl rfl ?_
    refine so_iadd X (dkX8_cellsOnDay (21, .iadd, 1) (pgm 15 rfl)) ?_
    refine so_ishl X (dkX8_cellsOnDay (22, .ishl, 1) (pgm 16 rfl)) ?_
    refine so_ior X (dkX8_cellsOnDay (23, .ior, 1) (pgm 17 rfl)) ?_
    refine so_istore_n (i := 2) X (dkX8_cellsOnDay (24, .istore_n 2, 1) (pgm 18 rfl)) rfl (by decide) (Lf := fun x3 => [(2, .int x3), (0, .ref this), (1, .int a1), (3, .int s4.2)]) (fun _ => rfl) (fun x3 => ?_)
    refine so_iinc (i := 3) X 3 (dkX8_cellsOnDay (25, .iinc 3 1, 3) (pgm 19 rfl)) rfl rfl (by decide) (Lf := fun x4 => [(3, .int x4), (2, .int x3), (0, .ref this), (1, .int a1)]) (fun _ => rfl) (fun x4 => ?_)
    refine so_goto (tgt := 4) X (dkX8_cellsOnDay (28, .goto (-24), 3) (pgm 20 rfl)) rfl ?_
    exact so_pick X [2, 3, 1, 0] rfl (hrec4 (x3, x4) hh4)
def pgX9_runEnd : List (Nat × Instr × Nat) := [(0, .aload_n 0, 1), (1, .getfield 23, 3), (4, .istore_n 3, 1), (5, .iload_n 3, 1), (6, .aload_n 0, 1), (7, .getfield 13, 3), (10, .if_icmp .ge 29, 3), (13, .aload_n 0, 1), (14, .getfield 7, 3), (17, .iload_n 3, 1), (18, .baload, 1), (19, .iload_n 1, 1), (20, .if_icmp .lt 19, 3), (23, .aload_n 0, 1), (24, .getfield 7, 3), (27, .iload_n 3, 1), (28, .baload, 1), (29, .iload_n 2, 1), (30, .if_icmp .gt 9, 3), (33, .iinc 3 1, 3), (36, .goto (-31), 3), (39, .iload_n 3, 1), (40, .ireturn, 1)]
theorem dkX9_runEnd : ∀ q ∈ pgX9_runEnd, decode cX9_runEnd q.1 = .ok q.2 := by decide +kernel
def b_X9_runEnd_5 (this : Nat) (a1 : Int32) (a2 : Int32) (j39 : Int32 → PH → Option (Int32 × PH)) (rec5 : (Int32) → PH → Option (Int32 × PH)) (s5 : Int32) (hh5 : PH) : Option (Int32 × PH) :=
  if (hh5.1 this 1) ≤ s5 then (j39 s5 hh5) else (ldI hh5 (rt this 0) 900 s5 (fun (x4 : Int32) => if x4 < a1 then (j39 s5 hh5) else (ldI hh5 (rt this 0) 900 s5 (fun (x5 : Int32) => if a2 < x5 then (j39 s5 hh5) else (lt (s5 + Int32.ofInt 1) (fun (x6 : Int32) => rec5 x6 hh5))))))
def f_X9_runEnd (this : Nat) (a1 : Int32) (a2 : Int32) (h0 : PH) : Option (Int32 × PH) :=
  lt (h0.1 this 3) (fun (x1 : Int32) => lt (fun (y2 : Int32) (h3 : PH) => some (y2, h3)) (fun (j39 : Int32 → PH → Option (Int32 × PH)) => lp (b_X9_runEnd_5 this a1 a2 j39) FU x1 h0))
set_option maxRecDepth 100000 in
set_option maxHeartbeats 4000000 in
theorem ct_X9_runEnd (l : Launch) (this : Nat) (a1 : Int32) (a2 : Int32) (h0 : PH) (hk : (kd this).1 = 9) : CT mkI l yX9_runEnd cX9_runEnd 4 (some .int) (rmd 0) [.ref this, .int a1, .int a2] h0 (f_X9_runEnd this a1 a2 h0) := by
  refine ct_of (by decide) (Nat.le_of_ble_eq_true rfl) ?_
  intro p e s m args below meth c D cA ad A X hr hlk
  have X : Cx p s m args c RX9 cX9_runEnd 4 D cA ad A := X
  unfold f_X9_runEnd
  refine so_pick (L' := [(0, .ref this), (1, .int a1), (2, .int a2)]) X [0, 1, 2] rfl ?_
  refine so_aload_n (i := 0) X 0 (dkX9_runEnd (0, .aload_n 0, 1) (pgm 0 rfl)) rfl rfl ?_
  refine sf_getI X ff_9_3 lk_273 hk (dkX9_runEnd (1, .getfield 23, 3) (pgm 1 rfl)) ?_
  refine so_istore_n (i := 3) X (dkX9_runEnd (4, .istore_n 3, 1) (pgm 2 rfl)) rfl (by decide) (Lf := fun x1 => [(3, .int x1), (0, .ref this), (1, .int a1), (2, .int a2)]) (fun _ => rfl) (fun x1 => ?_)
  refine so_join (jf := fun (y2 : Int32) (h3 : PH) => some (y2, h3)) (fun (j : Int32 → PH → Option (Int32 × PH)) => ∀ (y2 : Int32) (h3 : PH), SWo (QM mkI below args s D cA ad A) p l e (rmd 0) s m args below meth c 0 0 4 D cA ad A 39 [(3, .int y2)] [] h3 (j y2 h3)) ?_ (fun j39 hj39 => ?_)
  · intro y2 h3
    refine so_iload_n (i := 3) X 0 (dkX9_runEnd (39, .iload_n 3, 1) (pgm 21 rfl)) rfl rfl ?_
    exact so_iret X hr hlk (dkX9_runEnd (40, .ireturn, 1) (pgm 22 rfl))
  refine so_pick (L' := [(0, .ref this), (1, .int a1), (2, .int a2), (3, .int x1)]) X [1, 2, 3, 0] rfl ?_
  refine so_loop (body := b_X9_runEnd_5 this a1 a2 j39) (fun (s5 : Int32) => [(0, .ref this), (1, .int a1), (2, .int a2), (3, .int s5)]) (fun rec5 hrec5 s5 hh5 => ?_) FU x1 h0
  unfold b_X9_runEnd_5
  refine so_iload_n (i := 3) X 3 (dkX9_runEnd (5, .iload_n 3, 1) (pgm 3 rfl)) rfl rfl ?_
  refine so_aload_n (i := 0) X 0 (dkX9_runEnd (6, .aload_n 0, 1) (pgm 4 rfl)) rfl rfl ?_
  refine sf_getI X ff_9_1 lk_271 hk (dkX9_runEnd (7, .getfield 13, 3) (pgm 5 rfl)) ?_
  refine so_icmp_ge (tgt := 39) X (dkX9_runEnd (10, .if_icmp .ge 29, 3) (pgm 6 rfl)) rfl (fun _ => ?_) (fun _ => ?_)
  · exact so_pick X [3] rfl (hj39 s5 hh5)
  · refine so_aload_n (i := 0) X 0 (dkX9_runEnd (13, .aload_n 0, 1) (pgm 7 rfl)) rfl rfl ?_
    refine sf_getR X ff_9_0 lk_270 hk (dkX9_runEnd (14, .getfield 7, 3) (pgm 8 rfl)) ?_
    refine so_iload_n (i := 3) X 3 (dkX9_runEnd (17, .iload_n 3, 1) (pgm 9 rfl)) rfl rfl ?_
    refine so_bald X (rk_9_0 this hk) (dkX9_runEnd (18, .baload, 1) (pgm 10 rfl)) (fun x4 => ?_)
    refine so_iload_n (i := 1) X 1 (dkX9_runEnd (19, .iload_n 1, 1) (pgm 11 rfl)) rfl rfl ?_
    refine so_icmp_lt (tgt := 39) X (dkX9_runEnd (20, .if_icmp .lt 19, 3) (pgm 12 rfl)) rfl (fun _ => ?_) (fun _ => ?_)
    · exact so_pick X [3] rfl (hj39 s5 hh5)
    · refine so_aload_n (i := 0) X 0 (dkX9_runEnd (23, .aload_n 0, 1) (pgm 13 rfl)) rfl rfl ?_
      refine sf_getR X ff_9_0 lk_270 hk (dkX9_runEnd (24, .getfield 7, 3) (pgm 14 rfl)) ?_
      refine so_iload_n (i := 3) X 3 (dkX9_runEnd (27, .iload_n 3, 1) (pgm 15 rfl)) rfl rfl ?_
      refine so_bald X (rk_9_0 this hk) (dkX9_runEnd (28, .baload, 1) (pgm 16 rfl)) (fun x5 => ?_)
      refine so_iload_n (i := 2) X 2 (dkX9_runEnd (29, .iload_n 2, 1) (pgm 17 rfl)) rfl rfl ?_
      refine so_icmp_gt (tgt := 39) X (dkX9_runEnd (30, .if_icmp .gt 9, 3) (pgm 18 rfl)) rfl (fun _ => ?_) (fun _ => ?_)
      · exact so_pick X [3] rfl (hj39 s5 hh5)
      · refine so_iinc (i := 3) X 3 (dkX9_runEnd (33, .iinc 3 1, 3) (pgm 19 rfl)) rfl rfl (by decide) (Lf := fun x6 => [(3, .int x6), (0, .ref this), (1, .int a1), (2, .int a2)]) (fun _ => rfl) (fun x6 => ?_)
        refine so_goto (tgt := 5) X (dkX9_runEnd (36, .goto (-31), 3) (pgm 20 rfl)) rfl ?_
        exact so_pick X [1, 2, 3, 0] rfl (hrec5 x6 hh5)
def pgX9_at : List (Nat × Instr × Nat) := [(0, .aload_n 0, 1), (1, .getfield 17, 3), (4, .aload_n 0, 1), (5, .getfield 23, 3), (8, .isub, 1), (9, .aload_n 1, 1), (10, .invokevirtual 41, 3), (13, .if_icmp .eq 5, 3), (16, .iconst 0, 1), (17, .ireturn, 1), (18, .iconst 0, 1), (19, .istore_n 2, 1), (20, .iload_n 2, 1), (21, .aload_n 1, 1), (22, .invokevirtual 41, 3), (25, .if_icmp .ge 30, 3), (28, .aload_n 0, 1), (29, .getfield 7, 3), (32, .aload_n 0, 1), (33, .getfield 23, 3), (36, .iload_n 2, 1), (37, .iadd, 1), (38, .baload, 1), (39, .aload_n 1, 1), (40, .iload_n 2, 1), (41, .invokevirtual 44, 3), (44, .if_icmp .eq 5, 3), (47, .iconst 0, 1), (48, .ireturn, 1), (49, .iinc 2 1, 3), (52, .goto (-32), 3), (55, .iconst 1, 1), (56, .ireturn, 1)]
theorem dkX9_at : ∀ q ∈ pgX9_at, decode cX9_at q.1 = .ok q.2 := by decide +kernel
def b_X9_at_20 (this : Nat) (a1 : Nat) (rec20 : (Int32) → PH → Option (Int32 × PH)) (s20 : Int32) (hh20 : PH) : Option (Int32 × PH) :=
  cb (f_J0_length_8abf5 a1 hh20) (fun (r4 : Int32) (h5 : PH) => if r4 ≤ s20 then (zr (1 : Int32) h5) else (ldI h5 (rt this 0) 900 ((h5.1 this 3) + s20) (fun (x6 : Int32) => cb (f_J0_charAt_5068e a1 s20 h5) (fun (r7 : Int32) (h8 : PH) => if x6 = r7 then (lt (s20 + Int32.ofInt 1) (fun (x9 : Int32) => rec20 x9 h8)) else (zr (0 : Int32) h8)))))
def f_X9_at (this : Nat) (a1 : Nat) (h0 : PH) : Option (Int32 × PH) :=
  cb (f_J0_length_8abf5 a1 h0) (fun (r1 : Int32) (h2 : PH) => if ((h0.1 this 2) - (h0.1 this 3)) = r1 then (lt (0 : Int32) (fun (x3 : Int32) => lp (b_X9_at_20 this a1) FU x3 h2)) else (zr (0 : Int32) h2))
set_option maxRecDepth 100000 in
set_option maxHeartbeats 4000000 in
theorem ct_X9_at (l : Launch) (this : Nat) (a1 : Nat) (h0 : PH) (hk : (kd this).1 = 9) (hk1 : a1 < NS) : CT mkI l yX9_at cX9_at 3 (some .boolean) (rmd 4) [.ref this, .ref (200 + a1)] h0 (f_X9_at this a1 h0) := by
  refine ct_of (by decide) (Nat.le_of_ble_eq_true rfl) ?_
  intro p e s m args below meth c D cA ad A X hr hlk
  have X : Cx p s m args c RX9 cX9_at 3 D cA ad A := X
  unfold f_X9_at
  refine so_pick (L' := [(0, .ref this), (1, .ref (200 + a1))]) X [0, 1] rfl ?_
  refine so_aload_n (i := 0) X 0 (dkX9_at (0, .aload_n 0, 1) (pgm 0 rfl)) rfl rfl ?_
  refine sf_getI X ff_9_2 lk_272 hk (dkX9_at (1, .getfield 17, 3) (pgm 1 rfl)) ?_
  refine so_aload_n (i := 0) X 0 (dkX9_at (4, .aload_n 0, 1) (pgm 2 rfl)) rfl rfl ?_
  refine sf_getI X ff_9_3 lk_273 hk (dkX9_at (5, .getfield 23, 3) (pgm 3 rfl)) ?_
  refine so_isub X (dkX9_at (8, .isub, 1) (pgm 4 rfl)) ?_
  refine so_aload_n (i := 1) X 1 (dkX9_at (9, .aload_n 1, 1) (pgm 5 rfl)) rfl rfl ?_
  refine so_callT (n := 0) (As := []) (i := a1) X (ct_J0_length_8abf5 l a1 h0 hk1) hk1 lk_971 lk_887 lk_888 lk_140 lk_889 (by decide +kernel) rfl rfl rfl (rm_ok (by omega) (by decide)) ⟨Nat.zero_le _, Nat.zero_le _⟩ (Nat.le_of_ble_eq_true rfl) (dkX9_at (10, .invokevirtual 41, 3) (pgm 6 rfl)) (fun r1 h2 => ?_) rfl
  refine so_icmp_eq (tgt := 18) X (dkX9_at (13, .if_icmp .eq 5, 3) (pgm 7 rfl)) rfl (fun _ => ?_) (fun _ => ?_)
  · refine so_iconst (v := (0 : Int32)) X (dkX9_at (18, .iconst 0, 1) (pgm 10 rfl)) ic_0 ?_
    refine so_istore_n (i := 2) X (dkX9_at (19, .istore_n 2, 1) (pgm 11 rfl)) rfl (by decide) (Lf := fun x3 => [(2, .int x3), (0, .ref this), (1, .ref (200 + a1))]) (fun _ => rfl) (fun x3 => ?_)
    refine so_pick (L' := [(0, .ref this), (1, .ref (200 + a1)), (2, .int x3)]) X [1, 2, 0] rfl ?_
    refine so_loop (body := b_X9_at_20 this a1) (fun (s20 : Int32) => [(0, .ref this), (1, .ref (200 + a1)), (2, .int s20)]) (fun rec20 hrec20 s20 hh20 => ?_) FU x3 h2
    unfold b_X9_at_20
    refine so_iload_n (i := 2) X 2 (dkX9_at (20, .iload_n 2, 1) (pgm 12 rfl)) rfl rfl ?_
    refine so_aload_n (i := 1) X 1 (dkX9_at (21, .aload_n 1, 1) (pgm 13 rfl)) rfl rfl ?_
    refine so_callT (n := 0) (As := []) (i := a1) X (ct_J0_length_8abf5 l a1 hh20 hk1) hk1 lk_971 lk_887 lk_888 lk_140 lk_889 (by decide +kernel) rfl rfl rfl (rm_ok (by omega) (by decide)) ⟨Nat.zero_le _, Nat.zero_le _⟩ (Nat.le_of_ble_eq_true rfl) (dkX9_at (22, .invokevirtual 41, 3) (pgm 14 rfl)) (fun r4 h5 => ?_) rfl
    refine so_icmp_ge (tgt := 55) X (dkX9_at (25, .if_icmp .ge 30, 3) (pgm 15 rfl)) rfl (fun _ => ?_) (fun _ => ?_)
    · refine so_iconst (v := (1 : Int32)) X (dkX9_at (55, .iconst 1, 1) (pgm 31 rfl)) ic_1 ?_
      exact so_zret X hr hlk (dkX9_at (56, .ireturn, 1) (pgm 32 rfl))
    · refine so_aload_n (i := 0) X 0 (dkX9_at (28, .aload_n 0, 1) (pgm 16 rfl)) rfl rfl ?_
      refine sf_getR X ff_9_0 lk_270 hk (dkX9_at (29, .getfield 7, 3) (pgm 17 rfl)) ?_
      refine so_aload_n (i := 0) X 0 (dkX9_at (32, .aload_n 0, 1) (pgm 18 rfl)) rfl rfl ?_
      refine sf_getI X ff_9_3 lk_273 hk (dkX9_at (33, .getfield 23, 3) (pgm 19 rfl)) ?_
      refine so_iload_n (i := 2) X 2 (dkX9_at (36, .iload_n 2, 1) (pgm 20 rfl)) rfl rfl ?_
      refine so_iadd X (dkX9_at (37, .iadd, 1) (pgm 21 rfl)) ?_
      refine so_bald X (rk_9_0 this hk) (dkX9_at (38, .baload, 1) (pgm 22 rfl)) (fun x6 => ?_)
      refine so_aload_n (i := 1) X 1 (dkX9_at (39, .aload_n 1, 1) (pgm 23 rfl)) rfl rfl ?_
      refine so_iload_n (i := 2) X 2 (dkX9_at (40, .iload_n 2, 1) (pgm 24 rfl)) rfl rfl ?_
      refine so_callT (n := 1) (As := [.int s20]) (i := a1) X (ct_J0_charAt_5068e l a1 s20 h5 hk1) hk1 lk_972 lk_973 lk_974 lk_140 lk_975 (by decide +kernel) rfl rfl rfl (rm_ok (by omega) (by decide)) ⟨Nat.zero_le _, Nat.zero_le _⟩ (Nat.le_of_ble_eq_true rfl) (dkX9_at (41, .invokevirtual 44, 3) (pgm 25 rfl)) (fun r7 h8 => ?_) rfl
      refine so_icmp_eq (tgt := 49) X (dkX9_at (44, .if_icmp .eq 5, 3) (pgm 26 rfl)) rfl (fun _ => ?_) (fun _ => ?_)
      · refine so_iinc (i := 2) X 2 (dkX9_at (49, .iinc 2 1, 3) (pgm 29 rfl)) rfl rfl (by decide) (Lf := fun x9 => [(2, .int x9), (0, .ref this), (1, .ref (200 + a1))]) (fun _ => rfl) (fun x9 => ?_)
        refine so_goto (tgt := 20) X (dkX9_at (52, .goto (-32), 3) (pgm 30 rfl)) rfl ?_
        exact so_pick X [1, 2, 0] rfl (hrec20 x9 h8)
      · refine so_iconst (v := (0 : Int32)) X (dkX9_at (47, .iconst 0, 1) (pgm 27 rfl)) ic_0 ?_
        exact so_zret X hr hlk (dkX9_at (48, .ireturn, 1) (pgm 28 rfl))
  · refine so_iconst (v := (0 : Int32)) X (dkX9_at (16, .iconst 0, 1) (pgm 8 rfl)) ic_0 ?_
    exact so_zret X hr hlk (dkX9_at (17, .ireturn, 1) (pgm 9 rfl))
def pgX9_value : List (Nat × Instr × Nat) := [(0, .iconst 0, 1), (1, .istore_n 1, 1), (2, .aload_n 0, 1), (3, .getfield 23, 3), (6, .istore_n 2, 1), (7, .iload_n 2, 1), (8, .aload_n 0, 1), (9, .getfield 17, 3), (12, .if_icmp .ge 24, 3), (15, .bipush 10, 2), (17, .iload_n 1, 1), (18, .imul, 1), (19, .aload_n 0, 1), (20, .getfield 7, 3), (23, .iload_n 2, 1), (24, .baload, 1), (25, .iadd, 1), (26, .bipush 48, 2), (28, .isub, 1), (29, .istore_n 1, 1), (30, .iinc 2 1, 3), (33, .goto (-26), 3), (36, .iload_n 1, 1), (37, .ireturn, 1)]
theorem dkX9_value : ∀ q ∈ pgX9_value, decode cX9_value q.1 = .ok q.2 := by decide +kernel
def b_X9_value_7 (this : Nat) (rec7 : (Int32 × Int32) → PH → Option (Int32 × PH)) (s7 : Int32 × Int32) (hh7 : PH) : Option (Int32 × PH) :=
  if (hh7.1 this 2) ≤ s7.2 then (some (s7.1, hh7)) else (ldI hh7 (rt this 0) 900 s7.2 (fun (x3 : Int32) => lt ((((10 : Int32) * s7.1) + x3) - (48 : Int32)) (fun (x4 : Int32) => lt (s7.2 + Int32.ofInt 1) (fun (x5 : Int32) => rec7 (x4, x5) hh7))))
def f_X9_value (this : Nat) (h0 : PH) : Option (Int32 × PH) :=
  lt (0 : Int32) (fun (x1 : Int32) => lt (h0.1 this 3) (fun (x2 : Int32) => lp (b_X9_value_7 this) FU (x1, x2) h0))
set_option maxRecDepth 100000 in
set_option maxHeartbeats 4000000 in
theorem ct_X9_value (l : Launch) (this : Nat) (h0 : PH) (hk : (kd this).1 = 9) : CT mkI l yX9_value cX9_value 3 (some .int) (rmd 0) [.ref this] h0 (f_X9_value this h0) := by
  refine ct_of (by decide) (Nat.le_of_ble_eq_true rfl) ?_
  intro p e s m args below meth c D cA ad A X hr hlk
  have X : Cx p s m args c RX9 cX9_value 3 D cA ad A := X
  unfold f_X9_value
  refine so_pick (L' := [(0, .ref this)]) X [0] rfl ?_
  refine so_iconst (v := (0 : Int32)) X (dkX9_value (0, .iconst 0, 1) (pgm 0 rfl)) ic_0 ?_
  refine so_istore_n (i := 1) X (dkX9_value (1, .istore_n 1, 1) (pgm 1 rfl)) rfl (by decide) (Lf := fun x1 => [(1, .int x1), (0, .ref this)]) (fun _ => rfl) (fun x1 => ?_)
  refine so_aload_n (i := 0) X 1 (dkX9_value (2, .aload_n 0, 1) (pgm 2 rfl)) rfl rfl ?_
  refine sf_getI X ff_9_3 lk_273 hk (dkX9_value (3, .getfield 23, 3) (pgm 3 rfl)) ?_
  refine so_istore_n (i := 2) X (dkX9_value (6, .istore_n 2, 1) (pgm 4 rfl)) rfl (by decide) (Lf := fun x2 => [(2, .int x2), (1, .int x1), (0, .ref this)]) (fun _ => rfl) (fun x2 => ?_)
  refine so_pick (L' := [(0, .ref this), (1, .int x1), (2, .int x2)]) X [2, 1, 0] rfl ?_
  refine so_loop (body := b_X9_value_7 this) (fun (s7 : Int32 × Int32) => [(0, .ref this), (1, .int s7.1), (2, .int s7.2)]) (fun rec7 hrec7 s7 hh7 => ?_) FU (x1, x2) h0
  unfold b_X9_value_7
  refine so_iload_n (i := 2) X 2 (dkX9_value (7, .iload_n 2, 1) (pgm 5 rfl)) rfl rfl ?_
  refine so_aload_n (i := 0) X 0 (dkX9_value (8, .aload_n 0, 1) (pgm 6 rfl)) rfl rfl ?_
  refine sf_getI X ff_9_2 lk_272 hk (dkX9_value (9, .getfield 17, 3) (pgm 7 rfl)) ?_
  refine so_icmp_ge (tgt := 36) X (dkX9_value (12, .if_icmp .ge 24, 3) (pgm 8 rfl)) rfl (fun _ => ?_) (fun _ => ?_)
  · refine so_iload_n (i := 1) X 1 (dkX9_value (36, .iload_n 1, 1) (pgm 22 rfl)) rfl rfl ?_
    exact so_iret X hr hlk (dkX9_value (37, .ireturn, 1) (pgm 23 rfl))
  · refine so_bipush (v := (10 : Int32)) X (dkX9_value (15, .bipush 10, 2) (pgm 9 rfl)) bp_10 ?_
    refine so_iload_n (i := 1) X 1 (dkX9_value (17, .iload_n 1, 1) (pgm 10 rfl)) rfl rfl ?_
    refine so_imul X (dkX9_value (18, .imul, 1) (pgm 11 rfl)) ?_
    refine so_aload_n (i := 0) X 0 (dkX9_value (19, .aload_n 0, 1) (pgm 12 rfl)) rfl rfl ?_
    refine sf_getR X ff_9_0 lk_270 hk (dkX9_value (20, .getfield 7, 3) (pgm 13 rfl)) ?_
    refine so_iload_n (i := 2) X 2 (dkX9_value (23, .iload_n 2, 1) (pgm 14 rfl)) rfl rfl ?_
    refine so_bald X (rk_9_0 this hk) (dkX9_value (24, .baload, 1) (pgm 15 rfl)) (fun x3 => ?_)
    refine so_iadd X (dkX9_value (25, .iadd, 1) (pgm 16 rfl)) ?_
    refine so_bipush (v := (48 : Int32)) X (dkX9_value (26, .bipush 48, 2) (pgm 17 rfl)) bp_48 ?_
    refine so_isub X (dkX9_value (28, .isub, 1) (pgm 18 rfl)) ?_
    refine so_istore_n (i := 1) X (dkX9_value (29, .istore_n 1, 1) (pgm 19 rfl)) rfl (by decide) (Lf := fun x4 => [(1, .int x4), (0, .ref this), (2, .int s7.2)]) (fun _ => rfl) (fun x4 => ?_)
    refine so_iinc (i := 2) X 2 (dkX9_value (30, .iinc 2 1, 3) (pgm 20 rfl)) rfl rfl (by decide) (Lf := fun x5 => [(2, .int x5), (1, .int x4), (0, .ref this)]) (fun _ => rfl) (fun x5 => ?_)
    refine so_goto (tgt := 7) X (dkX9_value (33, .goto (-26), 3) (pgm 21 rfl)) rfl ?_
    exact so_pick X [2, 1, 0] rfl (hrec7 (x4, x5) hh7)
def pgX10_lay : List (Nat × Instr × Nat) := [(0, .aload_n 0, 1), (1, .iload_n 1, 1), (2, .putfield 19, 3), (5, .aload_n 0, 1), (6, .iload_n 2, 1), (7, .putfield 9, 3), (10, .aload_n 0, 1), (11, .getfield 15, 3), (14, .lconst 0, 1), (15, .invokestatic 22, 3), (18, .return_, 1)]
theorem dkX10_lay : ∀ q ∈ pgX10_lay, decode cX10_lay q.1 = .ok q.2 := by decide +kernel
def f_X10_lay (this : Nat) (a1 : Int32) (a2 : Int32) (h0 : PH) : Option (Unit × PH) :=
  lt (pI h0 this 0 a1) (fun (h1 : PH) => lt (pI h1 this 1 a2) (fun (h2 : PH) => cb (f_J7_fill_d0a16 (rt this 2) 30 (0 : Int64) h2) (fun (r3 : Unit) (h4 : PH) => some ((), h4))))
set_option maxRecDepth 100000 in
set_option maxHeartbeats 4000000 in
theorem ct_X10_lay (l : Launch) (this : Nat) (a1 : Int32) (a2 : Int32) (h0 : PH) (hk : (kd this).1 = 10) : CT mkV l yX10_lay cX10_lay 3 none (rmd 1) [.ref this, .int a1, .int a2] h0 (f_X10_lay this a1 a2 h0) := by
  refine ct_of (by decide) (Nat.le_of_ble_eq_true rfl) ?_
  intro p e s m args below meth c D cA ad A X hr hlk
  have X : Cx p s m args c RX10 cX10_lay 3 D cA ad A := X
  unfold f_X10_lay
  refine so_pick (L' := [(0, .ref this), (1, .int a1), (2, .int a2)]) X [0, 1, 2] rfl ?_
  refine so_aload_n (i := 0) X 0 (dkX10_lay (0, .aload_n 0, 1) (pgm 0 rfl)) rfl rfl ?_
  refine so_iload_n (i := 1) X 1 (dkX10_lay (1, .iload_n 1, 1) (pgm 1 rfl)) rfl rfl ?_
  refine sf_putI X ff_10_0 ft_10 rfl lk_545 hk rfl rfl (dkX10_lay (2, .putfield 19, 3) (pgm 2 rfl)) (fun h1 => ?_)
  refine so_aload_n (i := 0) X 0 (dkX10_lay (5, .aload_n 0, 1) (pgm 3 rfl)) rfl rfl ?_
  refine so_iload_n (i := 2) X 2 (dkX10_lay (6, .iload_n 2, 1) (pgm 4 rfl)) rfl rfl ?_
  refine sf_putI X ff_10_1 ft_10 rfl lk_546 hk rfl rfl (dkX10_lay (7, .putfield 9, 3) (pgm 5 rfl)) (fun h2 => ?_)
  refine so_aload_n (i := 0) X 0 (dkX10_lay (10, .aload_n 0, 1) (pgm 6 rfl)) rfl rfl ?_
  refine sf_getR X ff_10_2 lk_551 hk (dkX10_lay (11, .getfield 15, 3) (pgm 7 rfl)) ?_
  refine so_lconst (v := (0 : Int64)) X (dkX10_lay (14, .lconst 0, 1) (pgm 8 rfl)) lc_0 ?_
  refine so_callS (n := 2) (As := [.ref (rt this 2), .long (0 : Int64)]) X (ct_J7_fill_d0a16 l (rt this 2) 30 (0 : Int64) h2 (rk_10_2 this hk)) lk_1590 lk_1591 lk_127 lk_1592 (by decide +kernel) rfl rfl rfl (rm_ok (by omega) (by decide)) ⟨Nat.zero_le _, Nat.zero_le _⟩ (Nat.le_of_ble_eq_true rfl) (dkX10_lay (15, .invokestatic 22, 3) (pgm 9 rfl)) (fun r3 h4 => ?_) rfl
  exact so_vret X hr hlk (dkX10_lay (18, .return_, 1) (pgm 10 rfl))
def pgX10_put : List (Nat × Instr × Nat) := [(0, .lload_n 2, 1), (1, .lstore 4, 2), (3, .aload_n 0, 1), (4, .getfield 19, 3), (7, .ifCond .ne 12, 3), (10, .lload_n 2, 1), (11, .l2i, 1), (12, .i2b, 1), (13, .i2l, 1), (14, .lstore 4, 2), (16, .goto 33, 3), (19, .aload_n 0, 1), (20, .getfield 19, 3), (23, .iconst 1, 1), (24, .if_icmp .ne 12, 3), (27, .lload_n 2, 1), (28, .l2i, 1), (29, .i2s, 1), (30, .i2l, 1), (31, .lstore 4, 2), (33, .goto 16, 3), (36, .aload_n 0, 1), (37, .getfield 19, 3), (40, .iconst 2, 1), (41, .if_icmp .ne 8, 3), (44, .lload_n 2, 1), (45, .l2i, 1), (46, .i2l, 1), (47, .lstore 4, 2), (49, .aload_n 0, 1), (50, .getfield 15, 3), (53, .iload_n 1, 1), (54, .lload 4, 2), (56, .lastore, 1), (57, .lload 4, 2), (59, .lreturn, 1)]
theorem dkX10_put : ∀ q ∈ pgX10_put, decode cX10_put q.1 = .ok q.2 := by decide +kernel
def f_X10_put (this : Nat) (a1 : Int32) (a2 : Int64) (h0 : PH) : Option (Int64 × PH) :=
  lt a2 (fun (x1 : Int64) => lt (fun (y2 : Int64) (h3 : PH) => stL h3 (rt this 2) 30 a1 y2 (fun (h4 : PH) => some (y2, h4))) (fun (j49 : Int64 → PH → Option (Int64 × PH)) => if (h0.1 this 0) = 0 then (lt a2.toInt32.toInt8.toInt32.toInt64 (fun (x7 : Int64) => j49 x7 h0)) else (if (h0.1 this 0) = (1 : Int32) then (lt a2.toInt32.toInt16.toInt32.toInt64 (fun (x6 : Int64) => j49 x6 h0)) else (if (h0.1 this 0) = (2 : Int32) then (lt a2.toInt32.toInt64 (fun (x5 : Int64) => j49 x5 h0)) else (j49 x1 h0)))))
set_option maxRecDepth 100000 in
set_option maxHeartbeats 4000000 in
theorem ct_X10_put (l : Launch) (this : Nat) (a1 : Int32) (a2 : Int64) (h0 : PH) (hk : (kd this).1 = 10) : CT mkL l yX10_put cX10_put 6 (some .long) (rmd 0) [.ref this, .int a1, .long a2] h0 (f_X10_put this a1 a2 h0) := by
  refine ct_of (by decide) (Nat.le_of_ble_eq_true rfl) ?_
  intro p e s m args below meth c D cA ad A X hr hlk
  have X : Cx p s m args c RX10 cX10_put 6 D cA ad A := X
  unfold f_X10_put
  refine so_pick (L' := [(0, .ref this), (1, .int a1), (2, .long a2)]) X [0, 1, 2] rfl ?_
  refine so_lload_n (i := 2) X 2 (dkX10_put (0, .lload_n 2, 1) (pgm 0 rfl)) rfl rfl ?_
  refine so_lstore (i := 4) X (dkX10_put (1, .lstore 4, 2) (pgm 1 rfl)) (by decide) (Lf := fun x1 => [(4, .long x1), (0, .ref this), (1, .int a1), (2, .long a2)]) (fun _ => rfl) (fun x1 => ?_)
  refine so_aload_n (i := 0) X 1 (dkX10_put (3, .aload_n 0, 1) (pgm 2 rfl)) rfl rfl ?_
  refine sf_getI X ff_10_0 lk_545 hk (dkX10_put (4, .getfield 19, 3) (pgm 3 rfl)) ?_
  refine so_join (jf := fun (y2 : Int64) (h3 : PH) => stL h3 (rt this 2) 30 a1 y2 (fun (h4 : PH) => some (y2, h4))) (fun (j : Int64 → PH → Option (Int64 × PH)) => ∀ (y2 : Int64) (h3 : PH), SWo (QM mkL below args s D cA ad A) p l e (rmd 0) s m args below meth c 0 0 6 D cA ad A 49 [(0, .ref this), (1, .int a1), (4, .long y2)] [] h3 (j y2 h3)) ?_ (fun j49 hj49 => ?_)
  · intro y2 h3
    refine so_aload_n (i := 0) X 0 (dkX10_put (49, .aload_n 0, 1) (pgm 29 rfl)) rfl rfl ?_
    refine sf_getR X ff_10_2 lk_551 hk (dkX10_put (50, .getfield 15, 3) (pgm 30 rfl)) ?_
    refine so_iload_n (i := 1) X 1 (dkX10_put (53, .iload_n 1, 1) (pgm 31 rfl)) rfl rfl ?_
    refine so_lload (i := 4) X 2 (dkX10_put (54, .lload 4, 2) (pgm 32 rfl)) rfl ?_
    refine so_last X (rk_10_2 this hk) (dkX10_put (56, .lastore, 1) (pgm 33 rfl)) (fun h4 => ?_)
    refine so_lload (i := 4) X 2 (dkX10_put (57, .lload 4, 2) (pgm 34 rfl)) rfl ?_
    exact so_lret X hr hlk (dkX10_put (59, .lreturn, 1) (pgm 35 rfl))
  refine so_if_ne (tgt := 19) X (dkX10_put (7, .ifCond .ne 12, 3) (pgm 4 rfl)) rfl (fun _ => ?_) (fun _ => ?_)
  · refine so_aload_n (i := 0) X 1 (dkX10_put (19, .aload_n 0, 1) (pgm 11 rfl)) rfl rfl ?_
    refine sf_getI X ff_10_0 lk_545 hk (dkX10_put (20, .getfield 19, 3) (pgm 12 rfl)) ?_
    refine so_iconst (v := (1 : Int32)) X (dkX10_put (23, .iconst 1, 1) (pgm 13 rfl)) ic_1 ?_
    refine so_icmp_ne (tgt := 36) X (dkX10_put (24, .if_icmp .ne 12, 3) (pgm 14 rfl)) rfl (fun _ => ?_) (fun _ => ?_)
    · refine so_aload_n (i := 0) X 1 (dkX10_put (36, .aload_n 0, 1) (pgm 21 rfl)) rfl rfl ?_
      refine sf_getI X ff_10_0 lk_545 hk (dkX10_put (37, .getfield 19, 3) (pgm 22 rfl)) ?_
      refine so_iconst (v := (2 : Int32)) X (dkX10_put (40, .iconst 2, 1) (pgm 23 rfl)) ic_2 ?_
      refine so_icmp_ne (tgt := 49) X (dkX10_put (41, .if_icmp .ne 8, 3) (pgm 24 rfl)) rfl (fun _ => ?_) (fun _ => ?_)
      · exact so_pick X [1, 2, 0] rfl (hj49 x1 h0)
      · refine so_lload_n (i := 2) X 3 (dkX10_put (44, .lload_n 2, 1) (pgm 25 rfl)) rfl rfl ?_
        refine so_l2i X (dkX10_put (45, .l2i, 1) (pgm 26 rfl)) ?_
        refine so_i2l X (dkX10_put (46, .i2l, 1) (pgm 27 rfl)) ?_
        refine so_lstore (i := 4) X (dkX10_put (47, .lstore 4, 2) (pgm 28 rfl)) (by decide) (Lf := fun x5 => [(4, .long x5), (0, .ref this), (1, .int a1), (2, .long a2)]) (fun _ => rfl) (fun x5 => ?_)
        exact so_pick X [1, 2, 0] rfl (hj49 x5 h0)
    · refine so_lload_n (i := 2) X 3 (dkX10_put (27, .lload_n 2, 1) (pgm 15 rfl)) rfl rfl ?_
      refine so_l2i X (dkX10_put (28, .l2i, 1) (pgm 16 rfl)) ?_
      refine so_i2s X (dkX10_put (29, .i2s, 1) (pgm 17 rfl)) ?_
      refine so_i2l X (dkX10_put (30, .i2l, 1) (pgm 18 rfl)) ?_
      refine so_lstore (i := 4) X (dkX10_put (31, .lstore 4, 2) (pgm 19 rfl)) (by decide) (Lf := fun x6 => [(4, .long x6), (0, .ref this), (1, .int a1), (2, .long a2)]) (fun _ => rfl) (fun x6 => ?_)
      refine so_goto (tgt := 49) X (dkX10_put (33, .goto 16, 3) (pgm 20 rfl)) rfl ?_
      exact so_pick X [1, 2, 0] rfl (hj49 x6 h0)
  · refine so_lload_n (i := 2) X 3 (dkX10_put (10, .lload_n 2, 1) (pgm 5 rfl)) rfl rfl ?_
    refine so_l2i X (dkX10_put (11, .l2i, 1) (pgm 6 rfl)) ?_
    refine so_i2b X (dkX10_put (12, .i2b, 1) (pgm 7 rfl)) ?_
    refine so_i2l X (dkX10_put (13, .i2l, 1) (pgm 8 rfl)) ?_
    refine so_lstore (i := 4) X (dkX10_put (14, .lstore 4, 2) (pgm 9 rfl)) (by decide) (Lf := fun x7 => [(4, .long x7), (0, .ref this), (1, .int a1), (2, .long a2)]) (fun _ => rfl) (fun x7 => ?_)
    refine so_goto (tgt := 49) X (dkX10_put (16, .goto 33, 3) (pgm 10 rfl)) rfl ?_
    exact so_pick X [1, 2, 0] rfl (hj49 x7 h0)
def pgX11_lay : List (Nat × Instr × Nat) := [(0, .bipush 24, 2), (2, .istore_n 2, 1), (3, .iload_n 2, 1), (4, .ifCond .lt 42, 3), (7, .aload_n 0, 1), (8, .getfield 108, 3), (11, .sipush 900, 3), (14, .if_icmp .ge 32, 3), (17, .aload_n 0, 1), (18, .getfield 9, 3), (21, .aload_n 0, 1), (22, .getfield 108, 3), (25, .iload_n 1, 1), (26, .iload_n 2, 1), (27, .ishr, 1), (28, .i2b, 1), (29, .bastore, 1), (30, .aload_n 0, 1), (31, .dup, 1), (32, .getfield 108, 3), (35, .iconst 1, 1), (36, .iadd, 1), (37, .putfield 108, 3), (40, .iinc 2 (-8), 3), (43, .goto (-40), 3), (46, .return_, 1)]
theorem dkX11_lay : ∀ q ∈ pgX11_lay, decode cX11_lay q.1 = .ok q.2 := by decide +kernel
def b_X11_lay_3 (this : Nat) (a1 : Int32) (j46 : PH → Option (Unit × PH)) (rec3 : (Int32) → PH → Option (Unit × PH)) (s3 : Int32) (hh3 : PH) : Option (Unit × PH) :=
  if s3 < 0 then (j46 hh3) else (if (900 : Int32) ≤ (hh3.1 this 1) then (j46 hh3) else (stI hh3 (rt this 0) 900 (hh3.1 this 1) (vp_nar .byte ((a1 >>> (s3 &&& 31)).toInt8.toInt32)) (fun (h3 : PH) => lt (pI h3 this 1 ((h3.1 this 1) + (1 : Int32))) (fun (h4 : PH) => lt (s3 + Int32.ofInt (-8)) (fun (x5 : Int32) => rec3 x5 h4)))))
def f_X11_lay (this : Nat) (a1 : Int32) (h0 : PH) : Option (Unit × PH) :=
  lt (24 : Int32) (fun (x1 : Int32) => lt (fun (h2 : PH) => some ((), h2)) (fun (j46 : PH → Option (Unit × PH)) => lp (b_X11_lay_3 this a1 j46) FU x1 h0))
set_option maxRecDepth 100000 in
set_option maxHeartbeats 4000000 in
theorem ct_X11_lay (l : Launch) (this : Nat) (a1 : Int32) (h0 : PH) (hk : (kd this).1 = 11) : CT mkV l yX11_lay cX11_lay 3 none (rmd 0) [.ref this, .int a1] h0 (f_X11_lay this a1 h0) := by
  refine ct_of (by decide) (Nat.le_of_ble_eq_true rfl) ?_
  intro p e s m args below meth c D cA ad A X hr hlk
  have X : Cx p s m args c RX11 cX11_lay 3 D cA ad A := X
  unfold f_X11_lay
  refine so_pick (L' := [(0, .ref this), (1, .int a1)]) X [0, 1] rfl ?_
  refine so_bipush (v := (24 : Int32)) X (dkX11_lay (0, .bipush 24, 2) (pgm 0 rfl)) bp_24 ?_
  refine so_istore_n (i := 2) X (dkX11_lay (2, .istore_n 2, 1) (pgm 1 rfl)) rfl (by decide) (Lf := fun x1 => [(2, .int x1), (0, .ref this), (1, .int a1)]) (fun _ => rfl) (fun x1 => ?_)
  refine so_join (jf := fun (h2 : PH) => some ((), h2)) (fun (j : PH → Option (Unit × PH)) => ∀  (h2 : PH), SWo (QM mkV below args s D cA ad A) p l e (rmd 0) s m args below meth c 0 0 3 D cA ad A 46 [] [] h2 (j h2)) ?_ (fun j46 hj46 => ?_)
  · intro h2
    exact so_vret X hr hlk (dkX11_lay (46, .return_, 1) (pgm 25 rfl))
  refine so_pick (L' := [(0, .ref this), (1, .int a1), (2, .int x1)]) X [1, 2, 0] rfl ?_
  refine so_loop (body := b_X11_lay_3 this a1 j46) (fun (s3 : Int32) => [(0, .ref this), (1, .int a1), (2, .int s3)]) (fun rec3 hrec3 s3 hh3 => ?_) FU x1 h0
  unfold b_X11_lay_3
  refine so_iload_n (i := 2) X 2 (dkX11_lay (3, .iload_n 2, 1) (pgm 2 rfl)) rfl rfl ?_
  refine so_if_lt (tgt := 46) X (dkX11_lay (4, .ifCond .lt 42, 3) (pgm 3 rfl)) rfl (fun _ => ?_) (fun _ => ?_)
  · exact so_pick X [] rfl (hj46 hh3)
  · refine so_aload_n (i := 0) X 0 (dkX11_lay (7, .aload_n 0, 1) (pgm 4 rfl)) rfl rfl ?_
    refine sf_getI X ff_11_1 lk_566 hk (dkX11_lay (8, .getfield 108, 3) (pgm 5 rfl)) ?_
    refine so_sipush (v := (900 : Int32)) X (dkX11_lay (11, .sipush 900, 3) (pgm 6 rfl)) sp_900 ?_
    refine so_icmp_ge (tgt := 46) X (dkX11_lay (14, .if_icmp .ge 32, 3) (pgm 7 rfl)) rfl (fun _ => ?_) (fun _ => ?_)
    · exact so_pick X [] rfl (hj46 hh3)
    · refine so_aload_n (i := 0) X 0 (dkX11_lay (17, .aload_n 0, 1) (pgm 8 rfl)) rfl rfl ?_
      refine sf_getR X ff_11_0 lk_565 hk (dkX11_lay (18, .getfield 9, 3) (pgm 9 rfl)) ?_
      refine so_aload_n (i := 0) X 0 (dkX11_lay (21, .aload_n 0, 1) (pgm 10 rfl)) rfl rfl ?_
      refine sf_getI X ff_11_1 lk_566 hk (dkX11_lay (22, .getfield 108, 3) (pgm 11 rfl)) ?_
      refine so_iload_n (i := 1) X 1 (dkX11_lay (25, .iload_n 1, 1) (pgm 12 rfl)) rfl rfl ?_
      refine so_iload_n (i := 2) X 2 (dkX11_lay (26, .iload_n 2, 1) (pgm 13 rfl)) rfl rfl ?_
      refine so_ishr X (dkX11_lay (27, .ishr, 1) (pgm 14 rfl)) ?_
      refine so_i2b X (dkX11_lay (28, .i2b, 1) (pgm 15 rfl)) ?_
      refine so_bast X (rk_11_0 this hk) (dkX11_lay (29, .bastore, 1) (pgm 16 rfl)) (fun h3 => ?_)
      refine so_aload_n (i := 0) X 0 (dkX11_lay (30, .aload_n 0, 1) (pgm 17 rfl)) rfl rfl ?_
      refine so_dup X (dkX11_lay (31, .dup, 1) (pgm 18 rfl)) rfl ?_
      refine sf_getI X ff_11_1 lk_566 hk (dkX11_lay (32, .getfield 108, 3) (pgm 19 rfl)) ?_
      refine so_iconst (v := (1 : Int32)) X (dkX11_lay (35, .iconst 1, 1) (pgm 20 rfl)) ic_1 ?_
      refine so_iadd X (dkX11_lay (36, .iadd, 1) (pgm 21 rfl)) ?_
      refine sf_putI X ff_11_1 ft_11 rfl lk_566 hk rfl rfl (dkX11_lay (37, .putfield 108, 3) (pgm 22 rfl)) (fun h4 => ?_)
      refine so_iinc (i := 2) X 2 (dkX11_lay (40, .iinc 2 (-8), 3) (pgm 23 rfl)) rfl rfl (by decide) (Lf := fun x5 => [(2, .int x5), (0, .ref this), (1, .int a1)]) (fun _ => rfl) (fun x5 => ?_)
      refine so_goto (tgt := 3) X (dkX11_lay (43, .goto (-40), 3) (pgm 24 rfl)) rfl ?_
      exact so_pick X [1, 2, 0] rfl (hrec3 x5 h4)
def pgX11_forgetWhatWasFound : List (Nat × Instr × Nat) := [(0, .aload_n 0, 1), (1, .getfield 48, 3), (4, .invokevirtual 145, 3), (7, .aload_n 0, 1), (8, .getfield 57, 3), (11, .invokevirtual 148, 3), (14, .return_, 1)]
theorem dkX11_forgetWhatWasFound : ∀ q ∈ pgX11_forgetWhatWasFound, decode cX11_forgetWhatWasFound q.1 = .ok q.2 := by decide +kernel
def f_X11_forgetWhatWasFound (this : Nat) (h0 : PH) : Option (Unit × PH) :=
  cb (f_X3_forget (rt this 6) h0) (fun (r1 : Unit) (h2 : PH) => cb (f_X2_forget (rt this 7) h2) (fun (r3 : Unit) (h4 : PH) => some ((), h4)))
set_option maxRecDepth 100000 in
set_option maxHeartbeats 4000000 in
theorem ct_X11_forgetWhatWasFound (l : Launch) (this : Nat) (h0 : PH) (hk : (kd this).1 = 11) : CT mkV l yX11_forgetWhatWasFound cX11_forgetWhatWasFound 1 none (rmd 2) [.ref this] h0 (f_X11_forgetWhatWasFound this h0) := by
  refine ct_of (by decide) (Nat.le_of_ble_eq_true rfl) ?_
  intro p e s m args below meth c D cA ad A X hr hlk
  have X : Cx p s m args c RX11 cX11_forgetWhatWasFound 1 D cA ad A := X
  unfold f_X11_forgetWhatWasFound
  refine so_pick (L' := [(0, .ref this)]) X [0] rfl ?_
  refine so_aload_n (i := 0) X 0 (dkX11_forgetWhatWasFound (0, .aload_n 0, 1) (pgm 0 rfl)) rfl rfl ?_
  refine sf_getR X ff_11_6 lk_571 hk (dkX11_forgetWhatWasFound (1, .getfield 48, 3) (pgm 1 rfl)) ?_
  refine so_callV (n := 0) (As := []) X (ct_X3_forget l (rt this 6) h0 (fo (rk_11_6 this hk))) (fo (rk_11_6 this hk)) (by decide) rfl lk_1116 lk_1117 lk_1118 lk_126 lk_1119 (by decide +kernel) rfl rfl rfl (rm_ok (by omega) (by decide)) ⟨Nat.zero_le _, Nat.zero_le _⟩ (Nat.le_of_ble_eq_true rfl) (dkX11_forgetWhatWasFound (4, .invokevirtual 145, 3) (pgm 2 rfl)) (fun r1 h2 => ?_) rfl
  refine so_aload_n (i := 0) X 0 (dkX11_forgetWhatWasFound (7, .aload_n 0, 1) (pgm 3 rfl)) rfl rfl ?_
  refine sf_getR X ff_11_7 lk_572 hk (dkX11_forgetWhatWasFound (8, .getfield 57, 3) (pgm 4 rfl)) ?_
  refine so_callV (n := 0) (As := []) X (ct_X2_forget l (rt this 7) h2 (fo (rk_11_7 this hk))) (fo (rk_11_7 this hk)) (by decide) rfl lk_1120 lk_1121 lk_1122 lk_128 lk_1123 (by decide +kernel) rfl rfl rfl (rm_ok (by omega) (by decide)) ⟨Nat.zero_le _, Nat.zero_le _⟩ (Nat.le_of_ble_eq_true rfl) (dkX11_forgetWhatWasFound (11, .invokevirtual 148, 3) (pgm 5 rfl)) (fun r3 h4 => ?_) rfl
  exact so_vret X hr hlk (dkX11_forgetWhatWasFound (14, .return_, 1) (pgm 6 rfl))
def pgX11_fault : List (Nat × Instr × Nat) := [(0, .iload_n 1, 1), (1, .ifCond .ne 11, 3), (4, .aload_n 0, 1), (5, .getfield 32, 3), (8, .getfield 127, 3), (11, .ireturn, 1), (12, .iload_n 1, 1), (13, .iconst 1, 1), (14, .if_icmp .ne 13, 3), (17, .aload_n 0, 1), (18, .getfield 32, 3), (21, .getfield 149, 3), (24, .goto 4, 3), (27, .iconst (-1), 1), (28, .ireturn, 1)]
theorem dkX11_fault : ∀ q ∈ pgX11_fault, decode cX11_fault q.1 = .ok q.2 := by decide +kernel
def f_X11_fault (this : Nat) (a1 : Int32) (h0 : PH) : Option (Int32 × PH) :=
  if a1 = 0 then (some ((h0.1 (rt this 4) 10), h0)) else (lt (fun (t1 : Int32) (h2 : PH) => some (t1, h2)) (fun (j28 : Int32 → PH → Option (Int32 × PH)) => if a1 = (1 : Int32) then (j28 (h0.1 (rt this 4) 11) h0) else (j28 (-1 : Int32) h0)))
set_option maxRecDepth 100000 in
set_option maxHeartbeats 4000000 in
theorem ct_X11_fault (l : Launch) (this : Nat) (a1 : Int32) (h0 : PH) (hk : (kd this).1 = 11) : CT mkI l yX11_fault cX11_fault 2 (some .int) (rmd 0) [.ref this, .int a1] h0 (f_X11_fault this a1 h0) := by
  refine ct_of (by decide) (Nat.le_of_ble_eq_true rfl) ?_
  intro p e s m args below meth c D cA ad A X hr hlk
  have X : Cx p s m args c RX11 cX11_fault 2 D cA ad A := X
  unfold f_X11_fault
  refine so_pick (L' := [(0, .ref this), (1, .int a1)]) X [0, 1] rfl ?_
  refine so_iload_n (i := 1) X 1 (dkX11_fault (0, .iload_n 1, 1) (pgm 0 rfl)) rfl rfl ?_
  refine so_if_ne (tgt := 12) X (dkX11_fault (1, .ifCond .ne 11, 3) (pgm 1 rfl)) rfl (fun _ => ?_) (fun _ => ?_)
  · refine so_iload_n (i := 1) X 1 (dkX11_fault (12, .iload_n 1, 1) (pgm 6 rfl)) rfl rfl ?_
    refine so_iconst (v := (1 : Int32)) X (dkX11_fault (13, .iconst 1, 1) (pgm 7 rfl)) ic_1 ?_
    refine so_join (jf := fun (t1 : Int32) (h2 : PH) => some (t1, h2)) (fun (j : Int32 → PH → Option (Int32 × PH)) => ∀ (t1 : Int32) (h2 : PH), SWo (QM mkI below args s D cA ad A) p l e (rmd 0) s m args below meth c 0 0 2 D cA ad A 28 [] [.int t1] h2 (j t1 h2)) ?_ (fun j28 hj28 => ?_)
    · intro t1 h2
      exact so_iret X hr hlk (dkX11_fault (28, .ireturn, 1) (pgm 14 rfl))
    refine so_icmp_ne (tgt := 27) X (dkX11_fault (14, .if_icmp .ne 13, 3) (pgm 8 rfl)) rfl (fun _ => ?_) (fun _ => ?_)
    · refine so_iconst (v := (-1 : Int32)) X (dkX11_fault (27, .iconst (-1), 1) (pgm 13 rfl)) ic_m1 ?_
      exact so_pick X [] rfl (hj28 (-1 : Int32) h0)
    · refine so_aload_n (i := 0) X 0 (dkX11_fault (17, .aload_n 0, 1) (pgm 9 rfl)) rfl rfl ?_
      refine sf_getR X ff_11_4 lk_569 hk (dkX11_fault (18, .getfield 32, 3) (pgm 10 rfl)) ?_
      refine sf_getI X ff_6_11 lk_301 (fo (rk_11_4 this hk)) (dkX11_fault (21, .getfield 149, 3) (pgm 11 rfl)) ?_
      refine so_goto (tgt := 28) X (dkX11_fault (24, .goto 4, 3) (pgm 12 rfl)) rfl ?_
      exact so_pick X [] rfl (hj28 (h0.1 (rt this 4) 11) h0)
  · refine so_aload_n (i := 0) X 0 (dkX11_fault (4, .aload_n 0, 1) (pgm 2 rfl)) rfl rfl ?_
    refine sf_getR X ff_11_4 lk_569 hk (dkX11_fault (5, .getfield 32, 3) (pgm 3 rfl)) ?_
    refine sf_getI X ff_6_10 lk_299 (fo (rk_11_4 this hk)) (dkX11_fault (8, .getfield 127, 3) (pgm 4 rfl)) ?_
    exact so_iret X hr hlk (dkX11_fault (11, .ireturn, 1) (pgm 5 rfl))
def pgX11_drawn : List (Nat × Instr × Nat) := [(0, .ldc_w 389, 3), (3, .iload_n 0, 1), (4, .imul, 1), (5, .sipush 12345, 3), (8, .iadd, 1), (9, .ireturn, 1)]
theorem dkX11_drawn : ∀ q ∈ pgX11_drawn, decode cX11_drawn q.1 = .ok q.2 := by decide +kernel
def f_X11_drawn (a1 : Int32) (h0 : PH) : Option (Int32 × PH) :=
  some ((((1103515245 : Int32) * a1) + (12345 : Int32)), h0)
set_option maxRecDepth 100000 in
set_option maxHeartbeats 4000000 in
theorem ct_X11_drawn (l : Launch) (a1 : Int32) (h0 : PH)  : CT mkI l yX11_drawn cX11_drawn 1 (some .int) (rmd 0) [.int a1] h0 (f_X11_drawn a1 h0) := by
  refine ct_of (by decide) (Nat.le_of_ble_eq_true rfl) ?_
  intro p e s m args below meth c D cA ad A X hr hlk
  have X : Cx p s m args c RX11 cX11_drawn 1 D cA ad A := X
  unfold f_X11_drawn
  refine so_pick (L' := [(0, .int a1)]) X [0] rfl ?_
  refine so_ldcw X lk_1533 (dkX11_drawn (0, .ldc_w 389, 3) (pgm 0 rfl)) ?_
  refine so_iload_n (i := 0) X 0 (dkX11_drawn (3, .iload_n 0, 1) (pgm 1 rfl)) rfl rfl ?_
  refine so_imul X (dkX11_drawn (4, .imul, 1) (pgm 2 rfl)) ?_
  refine so_sipush (v := (12345 : Int32)) X (dkX11_drawn (5, .sipush 12345, 3) (pgm 3 rfl)) sp_12345 ?_
  refine so_iadd X (dkX11_drawn (8, .iadd, 1) (pgm 4 rfl)) ?_
  exact so_iret X hr hlk (dkX11_drawn (9, .ireturn, 1) (pgm 5 rfl))
def pgX11_count : List (Nat × Instr × Nat) := [(0, .iload_n 1, 1), (1, .tableswitch 135 0 9 #[55, 63, 71, 79, 87, 95, 103, 114, 122, 130], 55), (56, .aload_n 0, 1), (57, .getfield 20, 3), (60, .getfield 142, 3), (63, .ireturn, 1), (64, .aload_n 0, 1), (65, .getfield 20, 3), (68, .getfield 312, 3), (71, .ireturn, 1), (72, .aload_n 0, 1), (73, .getfield 20, 3), (76, .getfield 439, 3), (79, .ireturn, 1), (80, .aload_n 0, 1), (81, .getfield 20, 3), (84, .getfield 386, 3), (87, .ireturn, 1), (88, .aload_n 0, 1), (89, .getfield 20, 3), (92, .getfield 442, 3), (95, .ireturn, 1), (96, .aload_n 0, 1), (97, .getfield 20, 3), (100, .getfield 133, 3), (103, .ireturn, 1), (104, .aload_n 0, 1), (105, .getfield 39, 3), (108, .getfield 165, 3), (111, .invokestatic 263, 3), (114, .ireturn, 1), (115, .aload_n 0, 1), (116, .getfield 39, 3), (119, .invokevirtual 445, 3), (122, .ireturn, 1), (123, .aload_n 0, 1), (124, .getfield 39, 3), (127, .getfield 368, 3), (130, .ireturn, 1), (131, .aload_n 0, 1), (132, .getfield 108, 3), (135, .ireturn, 1), (136, .iconst (-1), 1), (137, .ireturn, 1)]
theorem dkX11_count : ∀ q ∈ pgX11_count, decode cX11_count q.1 = .ok q.2 := by decide +kernel
def f_X11_count (this : Nat) (a1 : Int32) (h0 : PH) : Option (Int32 × PH) :=
  if a1.toInt < 0 ∨ 9 < a1.toInt then (some ((-1 : Int32), h0)) else ([some ((h0.1 (rt this 2) 0), h0), some ((h0.1 (rt this 2) 1), h0), some ((h0.1 (rt this 2) 2), h0), some ((h0.1 (rt this 2) 3), h0), some ((h0.1 (rt this 2) 4), h0), some ((h0.1 (rt this 2) 5), h0), cb (f_J6_bitCount_0f7a4 (h0.1 (rt this 5) 0) h0) (fun (r1 : Int32) (h2 : PH) => some (r1, h2)), cb (f_X0_allDues (rt this 5) h0) (fun (r3 : Int32) (h4 : PH) => some (r3, h4)), some ((h0.1 (rt this 5) 3), h0), some ((h0.1 this 1), h0)] : List (Option (Int32 × PH))).getD (a1.toInt - 0).toNat none
set_option maxRecDepth 100000 in
set_option maxHeartbeats 4000000 in
theorem ct_X11_count (l : Launch) (this : Nat) (a1 : Int32) (h0 : PH) (hk : (kd this).1 = 11) : CT mkI l yX11_count cX11_count 2 (some .int) (rmd 1) [.ref this, .int a1] h0 (f_X11_count this a1 h0) := by
  refine ct_of (by decide) (Nat.le_of_ble_eq_true rfl) ?_
  intro p e s m args below meth c D cA ad A X hr hlk
  have X : Cx p s m args c RX11 cX11_count 2 D cA ad A := X
  unfold f_X11_count
  refine so_pick (L' := [(0, .ref this), (1, .int a1)]) X [0, 1] rfl ?_
  refine so_iload_n (i := 1) X 1 (dkX11_count (0, .iload_n 1, 1) (pgm 0 rfl)) rfl rfl ?_
  refine so_tsw (tgt := 136) (os := [some ((h0.1 (rt this 2) 0), h0), some ((h0.1 (rt this 2) 1), h0), some ((h0.1 (rt this 2) 2), h0), some ((h0.1 (rt this 2) 3), h0), some ((h0.1 (rt this 2) 4), h0), some ((h0.1 (rt this 2) 5), h0), cb (f_J6_bitCount_0f7a4 (h0.1 (rt this 5) 0) h0) (fun (r1 : Int32) (h2 : PH) => some (r1, h2)), cb (f_X0_allDues (rt this 5) h0) (fun (r3 : Int32) (h4 : PH) => some (r3, h4)), some ((h0.1 (rt this 5) 3), h0), some ((h0.1 this 1), h0)]) X (dkX11_count (1, .tableswitch 135 0 9 #[55, 63, 71, 79, 87, 95, 103, 114, 122, 130], 55) (pgm 1 rfl)) rfl ?_ ?_ rfl
  · refine so_iconst (v := (-1 : Int32)) X (dkX11_count (136, .iconst (-1), 1) (pgm 42 rfl)) ic_m1 ?_
    exact so_iret X hr hlk (dkX11_count (137, .ireturn, 1) (pgm 43 rfl))
  · intro kq ok hkq
    match kq, hkq with
    | 0, hkq =>
      obtain rfl := Option.some.inj hkq
      refine ⟨55, 56, rfl, rfl, ?_⟩
      refine so_aload_n (i := 0) X 0 (dkX11_count (56, .aload_n 0, 1) (pgm 2 rfl)) rfl rfl ?_
      refine sf_getR X ff_11_2 lk_567 hk (dkX11_count (57, .getfield 20, 3) (pgm 3 rfl)) ?_
      refine sf_getI X ff_8_0 lk_165 (fo (rk_11_2 this hk)) (dkX11_count (60, .getfield 142, 3) (pgm 4 rfl)) ?_
      exact so_iret X hr hlk (dkX11_count (63, .ireturn, 1) (pgm 5 rfl))
    | 1, hkq =>
      obtain rfl := Option.some.inj hkq
      refine ⟨63, 64, rfl, rfl, ?_⟩
      refine so_aload_n (i := 0) X 0 (dkX11_count (64, .aload_n 0, 1) (pgm 6 rfl)) rfl rfl ?_
      refine sf_getR X ff_11_2 lk_567 hk (dkX11_count (65, .getfield 20, 3) (pgm 7 rfl)) ?_
      refine sf_getI X ff_8_1 lk_169 (fo (rk_11_2 this hk)) (dkX11_count (68, .getfield 312, 3) (pgm 8 rfl)) ?_
      exact so_iret X hr hlk (dkX11_count (71, .ireturn, 1) (pgm 9 rfl))
    | 2, hkq =>
      obtain rfl := Option.some.inj hkq
      refine ⟨71, 72, rfl, rfl, ?_⟩
      refine so_aload_n (i := 0) X 0 (dkX11_count (72, .aload_n 0, 1) (pgm 10 rfl)) rfl rfl ?_
      refine sf_getR X ff_11_2 lk_567 hk (dkX11_count (73, .getfield 20, 3) (pgm 11 rfl)) ?_
      refine sf_getI X ff_8_2 lk_172 (fo (rk_11_2 this hk)) (dkX11_count (76, .getfield 439, 3) (pgm 12 rfl)) ?_
      exact so_iret X hr hlk (dkX11_count (79, .ireturn, 1) (pgm 13 rfl))
    | 3, hkq =>
      obtain rfl := Option.some.inj hkq
      refine ⟨79, 80, rfl, rfl, ?_⟩
      refine so_aload_n (i := 0) X 0 (dkX11_count (80, .aload_n 0, 1) (pgm 14 rfl)) rfl rfl ?_
      refine sf_getR X ff_11_2 lk_567 hk (dkX11_count (81, .getfield 20, 3) (pgm 15 rfl)) ?_
      refine sf_getI X ff_8_3 lk_176 (fo (rk_11_2 this hk)) (dkX11_count (84, .getfield 386, 3) (pgm 16 rfl)) ?_
      exact so_iret X hr hlk (dkX11_count (87, .ireturn, 1) (pgm 17 rfl))
    | 4, hkq =>
      obtain rfl := Option.some.inj hkq
      refine ⟨87, 88, rfl, rfl, ?_⟩
      refine so_aload_n (i := 0) X 0 (dkX11_count (88, .aload_n 0, 1) (pgm 18 rfl)) rfl rfl ?_
      refine sf_getR X ff_11_2 lk_567 hk (dkX11_count (89, .getfield 20, 3) (pgm 19 rfl)) ?_
      refine sf_getI X ff_8_4 lk_179 (fo (rk_11_2 this hk)) (dkX11_count (92, .getfield 442, 3) (pgm 20 rfl)) ?_
      exact so_iret X hr hlk (dkX11_count (95, .ireturn, 1) (pgm 21 rfl))
    | 5, hkq =>
      obtain rfl := Option.some.inj hkq
      refine ⟨95, 96, rfl, rfl, ?_⟩
      refine so_aload_n (i := 0) X 0 (dkX11_count (96, .aload_n 0, 1) (pgm 22 rfl)) rfl rfl ?_
      refine sf_getR X ff_11_2 lk_567 hk (dkX11_count (97, .getfield 20, 3) (pgm 23 rfl)) ?_
      refine sf_getI X ff_8_5 lk_183 (fo (rk_11_2 this hk)) (dkX11_count (100, .getfield 133, 3) (pgm 24 rfl)) ?_
      exact so_iret X hr hlk (dkX11_count (103, .ireturn, 1) (pgm 25 rfl))
    | 6, hkq =>
      obtain rfl := Option.some.inj hkq
      refine ⟨103, 104, rfl, rfl, ?_⟩
      refine so_aload_n (i := 0) X 0 (dkX11_count (104, .aload_n 0, 1) (pgm 26 rfl)) rfl rfl ?_
      refine sf_getR X ff_11_5 lk_570 hk (dkX11_count (105, .getfield 39, 3) (pgm 27 rfl)) ?_
      refine sf_getI X ff_0_0 lk_338 (fo (rk_11_5 this hk)) (dkX11_count (108, .getfield 165, 3) (pgm 28 rfl)) ?_
      refine so_callS (n := 1) (As := [.int (h0.1 (rt this 5) 0)]) X (ct_J6_bitCount_0f7a4 l (h0.1 (rt this 5) 0) h0 ) lk_766 lk_635 lk_147 lk_636 (by decide +kernel) rfl rfl rfl (rm_ok (by omega) (by decide)) ⟨Nat.zero_le _, Nat.zero_le _⟩ (Nat.le_of_ble_eq_true rfl) (dkX11_count (111, .invokestatic 263, 3) (pgm 29 rfl)) (fun r1 h2 => ?_) rfl
      exact so_iret X hr hlk (dkX11_count (114, .ireturn, 1) (pgm 30 rfl))
    | 7, hkq =>
      obtain rfl := Option.some.inj hkq
      refine ⟨114, 115, rfl, rfl, ?_⟩
      refine so_aload_n (i := 0) X 0 (dkX11_count (115, .aload_n 0, 1) (pgm 31 rfl)) rfl rfl ?_
      refine sf_getR X ff_11_5 lk_570 hk (dkX11_count (116, .getfield 39, 3) (pgm 32 rfl)) ?_
      refine so_callV (n := 0) (As := []) X (ct_X0_allDues l (rt this 5) h0 (fo (rk_11_5 this hk))) (fo (rk_11_5 this hk)) (by decide) rfl lk_767 lk_768 lk_769 lk_125 lk_770 (by decide +kernel) rfl rfl rfl (rm_ok (by omega) (by decide)) ⟨Nat.zero_le _, Nat.zero_le _⟩ (Nat.le_of_ble_eq_true rfl) (dkX11_count (119, .invokevirtual 445, 3) (pgm 33 rfl)) (fun r3 h4 => ?_) rfl
      exact so_iret X hr hlk (dkX11_count (122, .ireturn, 1) (pgm 34 rfl))
    | 8, hkq =>
      obtain rfl := Option.some.inj hkq
      refine ⟨122, 123, rfl, rfl, ?_⟩
      refine so_aload_n (i := 0) X 0 (dkX11_count (123, .aload_n 0, 1) (pgm 35 rfl)) rfl rfl ?_
      refine sf_getR X ff_11_5 lk_570 hk (dkX11_count (124, .getfield 39, 3) (pgm 36 rfl)) ?_
      refine sf_getI X ff_0_3 lk_345 (fo (rk_11_5 this hk)) (dkX11_count (127, .getfield 368, 3) (pgm 37 rfl)) ?_
      exact so_iret X hr hlk (dkX11_count (130, .ireturn, 1) (pgm 38 rfl))
    | 9, hkq =>
      obtain rfl := Option.some.inj hkq
      refine ⟨130, 131, rfl, rfl, ?_⟩
      refine so_aload_n (i := 0) X 0 (dkX11_count (131, .aload_n 0, 1) (pgm 39 rfl)) rfl rfl ?_
      refine sf_getI X ff_11_1 lk_566 hk (dkX11_count (132, .getfield 108, 3) (pgm 40 rfl)) ?_
      exact so_iret X hr hlk (dkX11_count (135, .ireturn, 1) (pgm 41 rfl))
    | kq + 10, hkq => simp at hkq
def pgX12_thrown : List (Nat × Instr × Nat) := [(0, .aload_n 0, 1), (1, .getfield 92, 3), (4, .ireturn, 1)]
theorem dkX12_thrown : ∀ q ∈ pgX12_thrown, decode cX12_thrown q.1 = .ok q.2 := by decide +kernel
def f_X12_thrown (this : Nat) (h0 : PH) : Option (Int32 × PH) :=
  some ((h0.1 this 5), h0)
set_option maxRecDepth 100000 in
set_option maxHeartbeats 4000000 in
theorem ct_X12_thrown (l : Launch) (this : Nat) (h0 : PH) (hk : (kd this).1 = 12) : CT mkI l yX12_thrown cX12_thrown 1 (some .int) (rmd 0) [.ref this] h0 (f_X12_thrown this h0) := by
  refine ct_of (by decide) (Nat.le_of_ble_eq_true rfl) ?_
  intro p e s m args below meth c D cA ad A X hr hlk
  have X : Cx p s m args c RX12 cX12_thrown 1 D cA ad A := X
  unfold f_X12_thrown
  refine so_pick (L' := [(0, .ref this)]) X [0] rfl ?_
  refine so_aload_n (i := 0) X 0 (dkX12_thrown (0, .aload_n 0, 1) (pgm 0 rfl)) rfl rfl ?_
  refine sf_getI X ff_12_5 lk_1707 hk (dkX12_thrown (1, .getfield 92, 3) (pgm 1 rfl)) ?_
  exact so_iret X hr hlk (dkX12_thrown (4, .ireturn, 1) (pgm 2 rfl))
def pgX12_fails : List (Nat × Instr × Nat) := [(0, .aload_n 0, 1), (1, .iload_n 1, 1), (2, .putfield 92, 3), (5, .iconst 0, 1), (6, .ireturn, 1)]
theorem dkX12_fails : ∀ q ∈ pgX12_fails, decode cX12_fails q.1 = .ok q.2 := by decide +kernel
def f_X12_fails (this : Nat) (a1 : Int32) (h0 : PH) : Option (Int32 × PH) :=
  lt (pI h0 this 5 a1) (fun (h1 : PH) => some ((0 : Int32), h1))
set_option maxRecDepth 100000 in
set_option maxHeartbeats 4000000 in
theorem ct_X12_fails (l : Launch) (this : Nat) (a1 : Int32) (h0 : PH) (hk : (kd this).1 = 12) : CT mkI l yX12_fails cX12_fails 2 (some .int) (rmd 0) [.ref this, .int a1] h0 (f_X12_fails this a1 h0) := by
  refine ct_of (by decide) (Nat.le_of_ble_eq_true rfl) ?_
  intro p e s m args below meth c D cA ad A X hr hlk
  have X : Cx p s m args c RX12 cX12_fails 2 D cA ad A := X
  unfold f_X12_fails
  refine so_pick (L' := [(0, .ref this), (1, .int a1)]) X [0, 1] rfl ?_
  refine so_aload_n (i := 0) X 0 (dkX12_fails (0, .aload_n 0, 1) (pgm 0 rfl)) rfl rfl ?_
  refine so_iload_n (i := 1) X 1 (dkX12_fails (1, .iload_n 1, 1) (pgm 1 rfl)) rfl rfl ?_
  refine sf_putI X ff_12_5 ft_12 rfl lk_1707 hk rfl rfl (dkX12_fails (2, .putfield 92, 3) (pgm 2 rfl)) (fun h1 => ?_)
  refine so_iconst (v := (0 : Int32)) X (dkX12_fails (5, .iconst 0, 1) (pgm 3 rfl)) ic_0 ?_
  exact so_iret X hr hlk (dkX12_fails (6, .ireturn, 1) (pgm 4 rfl))
def pgX12_within : List (Nat × Instr × Nat) := [(0, .lload_n 0, 1), (1, .lload_n 2, 1), (2, .lcmp, 1), (3, .ifCond .lt 14, 3), (6, .lload_n 0, 1), (7, .lload 4, 2), (9, .lcmp, 1), (10, .ifCond .gt 7, 3), (13, .iconst 1, 1), (14, .goto 4, 3), (17, .iconst 0, 1), (18, .ireturn, 1)]
theorem dkX12_within : ∀ q ∈ pgX12_within, decode cX12_within q.1 = .ok q.2 := by decide +kernel
def f_X12_within (a1 : Int64) (a2 : Int64) (a3 : Int64) (h0 : PH) : Option (Int32 × PH) :=
  lt (fun (t1 : Int32) (h2 : PH) => zr t1 h2) (fun (j18 : Int32 → PH → Option (Int32 × PH)) => lt (fun (h3 : PH) => j18 (0 : Int32) h3) (fun (j17 : PH → Option (Int32 × PH)) => if (lg_cmp a1 a2) < 0 then (j17 h0) else (if 0 < (lg_cmp a1 a3) then (j17 h0) else (j18 (1 : Int32) h0))))
set_option maxRecDepth 100000 in
set_option maxHeartbeats 4000000 in
theorem ct_X12_within (l : Launch) (a1 : Int64) (a2 : Int64) (a3 : Int64) (h0 : PH)  : CT mkI l yX12_within cX12_within 6 (some .boolean) (rmd 0) [.long a1, .long a2, .long a3] h0 (f_X12_within a1 a2 a3 h0) := by
  refine ct_of (by decide) (Nat.le_of_ble_eq_true rfl) ?_
  intro p e s m args below meth c D cA ad A X hr hlk
  have X : Cx p s m args c RX12 cX12_within 6 D cA ad A := X
  unfold f_X12_within
  refine so_pick (L' := [(0, .long a1), (2, .long a2), (4, .long a3)]) X [0, 1, 2] rfl ?_
  refine so_lload_n (i := 0) X 0 (dkX12_within (0, .lload_n 0, 1) (pgm 0 rfl)) rfl rfl ?_
  refine so_lload_n (i := 2) X 1 (dkX12_within (1, .lload_n 2, 1) (pgm 1 rfl)) rfl rfl ?_
  refine so_lcmp X (dkX12_within (2, .lcmp, 1) (pgm 2 rfl)) ?_
  refine so_join (jf := fun (t1 : Int32) (h2 : PH) => zr t1 h2) (fun (j : Int32 → PH → Option (Int32 × PH)) => ∀ (t1 : Int32) (h2 : PH), SWo (QM mkI below args s D cA ad A) p l e (rmd 0) s m args below meth c 0 0 6 D cA ad A 18 [] [.int t1] h2 (j t1 h2)) ?_ (fun j18 hj18 => ?_)
  · intro t1 h2
    exact so_zret X hr hlk (dkX12_within (18, .ireturn, 1) (pgm 11 rfl))
  refine so_join (jf := fun (h3 : PH) => j18 (0 : Int32) h3) (fun (j : PH → Option (Int32 × PH)) => ∀  (h3 : PH), SWo (QM mkI below args s D cA ad A) p l e (rmd 0) s m args below meth c 0 0 6 D cA ad A 17 [] [] h3 (j h3)) ?_ (fun j17 hj17 => ?_)
  · intro h3
    refine so_iconst (v := (0 : Int32)) X (dkX12_within (17, .iconst 0, 1) (pgm 10 rfl)) ic_0 ?_
    exact so_pick X [] rfl (hj18 (0 : Int32) h3)
  refine so_if_lt (tgt := 17) X (dkX12_within (3, .ifCond .lt 14, 3) (pgm 3 rfl)) rfl (fun _ => ?_) (fun _ => ?_)
  · exact so_pick X [] rfl (hj17 h0)
  · refine so_lload_n (i := 0) X 0 (dkX12_within (6, .lload_n 0, 1) (pgm 4 rfl)) rfl rfl ?_
    refine so_lload (i := 4) X 2 (dkX12_within (7, .lload 4, 2) (pgm 5 rfl)) rfl ?_
    refine so_lcmp X (dkX12_within (9, .lcmp, 1) (pgm 6 rfl)) ?_
    refine so_if_gt (tgt := 17) X (dkX12_within (10, .ifCond .gt 7, 3) (pgm 7 rfl)) rfl (fun _ => ?_) (fun _ => ?_)
    · exact so_pick X [] rfl (hj17 h0)
    · refine so_iconst (v := (1 : Int32)) X (dkX12_within (13, .iconst 1, 1) (pgm 8 rfl)) ic_1 ?_
      refine so_goto (tgt := 18) X (dkX12_within (14, .goto 4, 3) (pgm 9 rfl)) rfl ?_
      exact so_pick X [] rfl (hj18 (1 : Int32) h0)
def pgX12_has : List (Nat × Instr × Nat) := [(0, .iload_n 0, 1), (1, .iload_n 1, 1), (2, .ishr, 1), (3, .iconst 1, 1), (4, .iand, 1), (5, .iconst 1, 1), (6, .if_icmp .ne 7, 3), (9, .iconst 1, 1), (10, .goto 4, 3), (13, .iconst 0, 1), (14, .ireturn, 1)]
theorem dkX12_has : ∀ q ∈ pgX12_has, decode cX12_has q.1 = .ok q.2 := by decide +kernel
def f_X12_has (a1 : Int32) (a2 : Int32) (h0 : PH) : Option (Int32 × PH) :=
  lt (fun (t1 : Int32) (h2 : PH) => zr t1 h2) (fun (j14 : Int32 → PH → Option (Int32 × PH)) => if ((a1 >>> (a2 &&& 31)) &&& (1 : Int32)) = (1 : Int32) then (j14 (1 : Int32) h0) else (j14 (0 : Int32) h0))
set_option maxRecDepth 100000 in
set_option maxHeartbeats 4000000 in
theorem ct_X12_has (l : Launch) (a1 : Int32) (a2 : Int32) (h0 : PH)  : CT mkI l yX12_has cX12_has 2 (some .boolean) (rmd 0) [.int a1, .int a2] h0 (f_X12_has a1 a2 h0) := by
  refine ct_of (by decide) (Nat.le_of_ble_eq_true rfl) ?_
  intro p e s m args below meth c D cA ad A X hr hlk
  have X : Cx p s m args c RX12 cX12_has 2 D cA ad A := X
  unfold f_X12_has
  refine so_pick (L' := [(0, .int a1), (1, .int a2)]) X [0, 1] rfl ?_
  refine so_iload_n (i := 0) X 0 (dkX12_has (0, .iload_n 0, 1) (pgm 0 rfl)) rfl rfl ?_
  refine so_iload_n (i := 1) X 1 (dkX12_has (1, .iload_n 1, 1) (pgm 1 rfl)) rfl rfl ?_
  refine so_ishr X (dkX12_has (2, .ishr, 1) (pgm 2 rfl)) ?_
  refine so_iconst (v := (1 : Int32)) X (dkX12_has (3, .iconst 1, 1) (pgm 3 rfl)) ic_1 ?_
  refine so_iand X (dkX12_has (4, .iand, 1) (pgm 4 rfl)) ?_
  refine so_iconst (v := (1 : Int32)) X (dkX12_has (5, .iconst 1, 1) (pgm 5 rfl)) ic_1 ?_
  refine so_join (jf := fun (t1 : Int32) (h2 : PH) => zr t1 h2) (fun (j : Int32 → PH → Option (Int32 × PH)) => ∀ (t1 : Int32) (h2 : PH), SWo (QM mkI below args s D cA ad A) p l e (rmd 0) s m args below meth c 0 0 2 D cA ad A 14 [] [.int t1] h2 (j t1 h2)) ?_ (fun j14 hj14 => ?_)
  · intro t1 h2
    exact so_zret X hr hlk (dkX12_has (14, .ireturn, 1) (pgm 10 rfl))
  refine so_icmp_ne (tgt := 13) X (dkX12_has (6, .if_icmp .ne 7, 3) (pgm 6 rfl)) rfl (fun _ => ?_) (fun _ => ?_)
  · refine so_iconst (v := (0 : Int32)) X (dkX12_has (13, .iconst 0, 1) (pgm 9 rfl)) ic_0 ?_
    exact so_pick X [] rfl (hj14 (0 : Int32) h0)
  · refine so_iconst (v := (1 : Int32)) X (dkX12_has (9, .iconst 1, 1) (pgm 7 rfl)) ic_1 ?_
    refine so_goto (tgt := 14) X (dkX12_has (10, .goto 4, 3) (pgm 8 rfl)) rfl ?_
    exact so_pick X [] rfl (hj14 (1 : Int32) h0)
def pgX12_size : List (Nat × Instr × Nat) := [(0, .iconst 0, 1), (1, .istore_n 1, 1), (2, .iload_n 0, 1), (3, .istore_n 2, 1), (4, .iload_n 2, 1), (5, .ifCond .eq 15, 3), (8, .iinc 1 1, 3), (11, .iload_n 2, 1), (12, .iload_n 2, 1), (13, .iconst 1, 1), (14, .isub, 1), (15, .iand, 1), (16, .istore_n 2, 1), (17, .goto (-13), 3), (20, .iload_n 1, 1), (21, .ireturn, 1)]
theorem dkX12_size : ∀ q ∈ pgX12_size, decode cX12_size q.1 = .ok q.2 := by decide +kernel
def b_X12_size_4 (rec4 : (Int32 × Int32) → PH → Option (Int32 × PH)) (s4 : Int32 × Int32) (hh4 : PH) : Option (Int32 × PH) :=
  if s4.2 = 0 then (some (s4.1, hh4)) else (lt (s4.1 + Int32.ofInt 1) (fun (x3 : Int32) => lt (s4.2 &&& (s4.2 - (1 : Int32))) (fun (x4 : Int32) => rec4 (x3, x4) hh4)))
def f_X12_size (a1 : Int32) (h0 : PH) : Option (Int32 × PH) :=
  lt (0 : Int32) (fun (x1 : Int32) => lt a1 (fun (x2 : Int32) => lp (b_X12_size_4) FU (x1, x2) h0))
set_option maxRecDepth 100000 in
set_option maxHeartbeats 4000000 in
theorem ct_X12_size (l : Launch) (a1 : Int32) (h0 : PH)  : CT mkI l yX12_size cX12_size 3 (some .int) (rmd 0) [.int a1] h0 (f_X12_size a1 h0) := by
  refine ct_of (by decide) (Nat.le_of_ble_eq_true rfl) ?_
  intro p e s m args below meth c D cA ad A X hr hlk
  have X : Cx p s m args c RX12 cX12_size 3 D cA ad A := X
  unfold f_X12_size
  refine so_pick (L' := [(0, .int a1)]) X [0] rfl ?_
  refine so_iconst (v := (0 : Int32)) X (dkX12_size (0, .iconst 0, 1) (pgm 0 rfl)) ic_0 ?_
  refine so_istore_n (i := 1) X (dkX12_size (1, .istore_n 1, 1) (pgm 1 rfl)) rfl (by decide) (Lf := fun x1 => [(1, .int x1), (0, .int a1)]) (fun _ => rfl) (fun x1 => ?_)
  refine so_iload_n (i := 0) X 1 (dkX12_size (2, .iload_n 0, 1) (pgm 2 rfl)) rfl rfl ?_
  refine so_istore_n (i := 2) X (dkX12_size (3, .istore_n 2, 1) (pgm 3 rfl)) rfl (by decide) (Lf := fun x2 => [(2, .int x2), (1, .int x1), (0, .int a1)]) (fun _ => rfl) (fun x2 => ?_)
  refine so_pick (L' := [(1, .int x1), (2, .int x2)]) X [1, 0] rfl ?_
  refine so_loop (body := b_X12_size_4) (fun (s4 : Int32 × Int32) => [(1, .int s4.1), (2, .int s4.2)]) (fun rec4 hrec4 s4 hh4 => ?_) FU (x1, x2) h0
  unfold b_X12_size_4
  refine so_iload_n (i := 2) X 1 (dkX12_size (4, .iload_n 2, 1) (pgm 4 rfl)) rfl rfl ?_
  refine so_if_eq (tgt := 20) X (dkX12_size (5, .ifCond .eq 15, 3) (pgm 5 rfl)) rfl (fun _ => ?_) (fun _ => ?_)
  · refine so_iload_n (i := 1) X 0 (dkX12_size (20, .iload_n 1, 1) (pgm 14 rfl)) rfl rfl ?_
    exact so_iret X hr hlk (dkX12_size (21, .ireturn, 1) (pgm 15 rfl))
  · refine so_iinc (i := 1) X 0 (dkX12_size (8, .iinc 1 1, 3) (pgm 6 rfl)) rfl rfl (by decide) (Lf := fun x3 => [(1, .int x3), (2, .int s4.2)]) (fun _ => rfl) (fun x3 => ?_)
    refine so_iload_n (i := 2) X 1 (dkX12_size (11, .iload_n 2, 1) (pgm 7 rfl)) rfl rfl ?_
    refine so_iload_n (i := 2) X 1 (dkX12_size (12, .iload_n 2, 1) (pgm 8 rfl)) rfl rfl ?_
    refine so_iconst (v := (1 : Int32)) X (dkX12_size (13, .iconst 1, 1) (pgm 9 rfl)) ic_1 ?_
    refine so_isub X (dkX12_size (14, .isub, 1) (pgm 10 rfl)) ?_
    refine so_iand X (dkX12_size (15, .iand, 1) (pgm 11 rfl)) ?_
    refine so_istore_n (i := 2) X (dkX12_size (16, .istore_n 2, 1) (pgm 12 rfl)) rfl (by decide) (Lf := fun x4 => [(2, .int x4), (1, .int x3)]) (fun _ => rfl) (fun x4 => ?_)
    refine so_goto (tgt := 4) X (dkX12_size (17, .goto (-13), 3) (pgm 13 rfl)) rfl ?_
    exact so_pick X [1, 0] rfl (hrec4 (x3, x4) hh4)
def pgX12_feed : List (Nat × Instr × Nat) := [(0, .aload_n 0, 1), (1, .iconst 0, 1), (2, .putfield 92, 3), (5, .aload_n 0, 1), (6, .getfield 95, 3), (9, .bipush 20, 2), (11, .iadd, 1), (12, .sipush 900, 3), (15, .if_icmp .le 5, 3), (18, .iconst (-1), 1), (19, .ireturn, 1), (20, .iconst 0, 1), (21, .istore 6, 2), (23, .iload 6, 2), (25, .bipush 20, 2), (27, .if_icmp .ge 93, 3), (30, .iload 6, 2), (32, .iconst 4, 1), (33, .if_icmp .ge 7, 3), (36, .iload_n 1, 1), (37, .goto 39, 3), (40, .iload 6, 2), (42, .bipush 8, 2), (44, .if_icmp .ge 7, 3), (47, .iload_n 2, 1), (48, .goto 28, 3), (51, .iload 6, 2), (53, .bipush 12, 2), (55, .if_icmp .ge 7, 3), (58, .iload_n 3, 1), (59, .goto 17, 3), (62, .iload 6, 2), (64, .bipush 16, 2), (66, .if_icmp .ge 8, 3), (69, .iload 4, 2), (71, .goto 5, 3), (74, .iload 5, 2), (76, .istore 7, 2), (78, .aload_n 0, 1), (79, .getfield 26, 3), (82, .aload_n 0, 1), (83, .getfield 95, 3), (86, .iload 7, 2), (88, .bipush 24, 2), (90, .bipush 8, 2), (92, .iload 6, 2), (94, .iconst 3, 1), (95, .iand, 1), (96, .imul, 1), (97, .isub, 1), (98, .iushr, 1), (99, .sipush 255, 3), (102, .iand, 1), (103, .iastore, 1), (104, .aload_n 0, 1), (105, .dup, 1), (106, .getfield 95, 3), (109, .iconst 1, 1), (110, .iadd, 1), (111, .putfield 95, 3), (114, .iinc 6 1, 3), (117, .goto (-94), 3), (120, .aload_n 0, 1), (121, .getfield 95, 3), (124, .ireturn, 1)]
theorem dkX12_feed : ∀ q ∈ pgX12_feed, decode cX12_feed q.1 = .ok q.2 := by decide +kernel
def b_X12_feed_23 (this : Nat) (a1 : Int32) (a2 : Int32) (a3 : Int32) (a4 : Int32) (a5 : Int32) (rec23 : (Int32) → PH → Option (Int32 × PH)) (s23 : Int32) (hh23 : PH) : Option (Int32 × PH) :=
  if (20 : Int32) ≤ s23 then (some ((hh23.1 this 7), hh23)) else (lt (fun (t3 : Int32) (h4 : PH) => lt t3 (fun (x5 : Int32) => stI h4 (rt this 6) 900 (h4.1 this 7) (((x5.toUInt32 >>> (((24 : Int32) - ((8 : Int32) * (s23 &&& (3 : Int32)))).toUInt32 &&& Int32.toUInt32 31)).toInt32) &&& (255 : Int32)) (fun (h6 : PH) => lt (pI h6 this 7 ((h6.1 this 7) + (1 : Int32))) (fun (h7 : PH) => lt (s23 + Int32.ofInt 1) (fun (x8 : Int32) => rec23 x8 h7))))) (fun (j76 : Int32 → PH → Option (Int32 × PH)) => if (4 : Int32) ≤ s23 then (if (8 : Int32) ≤ s23 then (if (12 : Int32) ≤ s23 then (if (16 : Int32) ≤ s23 then (j76 a5 hh23) else (j76 a4 hh23)) else (j76 a3 hh23)) else (j76 a2 hh23)) else (j76 a1 hh23)))
def f_X12_feed (this : Nat) (a1 : Int32) (a2 : Int32) (a3 : Int32) (a4 : Int32) (a5 : Int32) (h0 : PH) : Option (Int32 × PH) :=
  lt (pI h0 this 5 (0 : Int32)) (fun (h1 : PH) => if ((h1.1 this 7) + (20 : Int32)) ≤ (900 : Int32) then (lt (0 : Int32) (fun (x2 : Int32) => lp (b_X12_feed_23 this a1 a2 a3 a4 a5) FU x2 h1)) else (some ((-1 : Int32), h1)))
set_option maxRecDepth 100000 in
set_option maxHeartbeats 4000000 in
theorem ct_X12_feed (l : Launch) (this : Nat) (a1 : Int32) (a2 : Int32) (a3 : Int32) (a4 : Int32) (a5 : Int32) (h0 : PH) (hk : (kd this).1 = 12) : CT mkI l yX12_feed cX12_feed 8 (some .int) (rmd 0) [.ref this, .int a1, .int a2, .int a3, .int a4, .int a5] h0 (f_X12_feed this a1 a2 a3 a4 a5 h0) := by
  refine ct_of (by decide) (Nat.le_of_ble_eq_true rfl) ?_
  intro p e s m args below meth c D cA ad A X hr hlk
  have X : Cx p s m args c RX12 cX12_feed 8 D cA ad A := X
  unfold f_X12_feed
  refine so_pick (L' := [(0, .ref this), (1, .int a1), (2, .int a2), (3, .int a3), (4, .int a4), (5, .int a5)]) X [0, 1, 2, 3, 4, 5] rfl ?_
  refine so_aload_n (i := 0) X 0 (dkX12_feed (0, .aload_n 0, 1) (pgm 0 rfl)) rfl rfl ?_
  refine so_iconst (v := (0 : Int32)) X (dkX12_feed (1, .iconst 0, 1) (pgm 1 rfl)) ic_0 ?_
  refine sf_putI X ff_12_5 ft_12 rfl lk_1707 hk rfl rfl (dkX12_feed (2, .putfield 92, 3) (pgm 2 rfl)) (fun h1 => ?_)
  refine so_aload_n (i := 0) X 0 (dkX12_feed (5, .aload_n 0, 1) (pgm 3 rfl)) rfl rfl ?_
  refine sf_getI X ff_12_7 lk_1709 hk (dkX12_feed (6, .getfield 95, 3) (pgm 4 rfl)) ?_
  refine so_bipush (v := (20 : Int32)) X (dkX12_feed (9, .bipush 20, 2) (pgm 5 rfl)) bp_20 ?_
  refine so_iadd X (dkX12_feed (11, .iadd, 1) (pgm 6 rfl)) ?_
  refine so_sipush (v := (900 : Int32)) X (dkX12_feed (12, .sipush 900, 3) (pgm 7 rfl)) sp_900 ?_
  refine so_icmp_le (tgt := 20) X (dkX12_feed (15, .if_icmp .le 5, 3) (pgm 8 rfl)) rfl (fun _ => ?_) (fun _ => ?_)
  · refine so_iconst (v := (0 : Int32)) X (dkX12_feed (20, .iconst 0, 1) (pgm 11 rfl)) ic_0 ?_
    refine so_istore (i := 6) X (dkX12_feed (21, .istore 6, 2) (pgm 12 rfl)) (by decide) (Lf := fun x2 => [(6, .int x2), (0, .ref this), (1, .int a1), (2, .int a2), (3, .int a3), (4, .int a4), (5, .int a5)]) (fun _ => rfl) (fun x2 => ?_)
    refine so_pick (L' := [(0, .ref this), (1, .int a1), (2, .int a2), (3, .int a3), (4, .int a4), (5, .int a5), (6, .int x2)]) X [1, 2, 3, 4, 5, 6, 0] rfl ?_
    refine so_loop (body := b_X12_feed_23 this a1 a2 a3 a4 a5) (fun (s23 : Int32) => [(0, .ref this), (1, .int a1), (2, .int a2), (3, .int a3), (4, .int a4), (5, .int a5), (6, .int s23)]) (fun rec23 hrec23 s23 hh23 => ?_) FU x2 h1
    unfold b_X12_feed_23
    refine so_iload (i := 6) X 6 (dkX12_feed (23, .iload 6, 2) (pgm 13 rfl)) rfl ?_
    refine so_bipush (v := (20 : Int32)) X (dkX12_feed (25, .bipush 20, 2) (pgm 14 rfl)) bp_20 ?_
    refine so_icmp_ge (tgt := 120) X (dkX12_feed (27, .if_icmp .ge 93, 3) (pgm 15 rfl)) rfl (fun _ => ?_) (fun _ => ?_)
    · refine so_aload_n (i := 0) X 0 (dkX12_feed (120, .aload_n 0, 1) (pgm 62 rfl)) rfl rfl ?_
      refine sf_getI X ff_12_7 lk_1709 hk (dkX12_feed (121, .getfield 95, 3) (pgm 63 rfl)) ?_
      exact so_iret X hr hlk (dkX12_feed (124, .ireturn, 1) (pgm 64 rfl))
    · refine so_iload (i := 6) X 6 (dkX12_feed (30, .iload 6, 2) (pgm 16 rfl)) rfl ?_
      refine so_iconst (v := (4 : Int32)) X (dkX12_feed (32, .iconst 4, 1) (pgm 17 rfl)) ic_4 ?_
      refine so_join (jf := fun (t3 : Int32) (h4 : PH) => lt t3 (fun (x5 : Int32) => stI h4 (rt this 6) 900 (h4.1 this 7) (((x5.toUInt32 >>> (((24 : Int32) - ((8 : Int32) * (s23 &&& (3 : Int32)))).toUInt32 &&& Int32.toUInt32 31)).toInt32) &&& (255 : Int32)) (fun (h6 : PH) => lt (pI h6 this 7 ((h6.1 this 7) + (1 : Int32))) (fun (h7 : PH) => lt (s23 + Int32.ofInt 1) (fun (x8 : Int32) => rec23 x8 h7))))) (fun (j : Int32 → PH → Option (Int32 × PH)) => ∀ (t3 : Int32) (h4 : PH), SWo (QM mkI below args s D cA ad A) p l e (rmd 0) s m args below meth c 0 0 8 D cA ad A 76 [(0, .ref this), (1, .int a1), (2, .int a2), (3, .int a3), (4, .int a4), (5, .int a5), (6, .int s23)] [.int t3] h4 (j t3 h4)) ?_ (fun j76 hj76 => ?_)
      · intro t3 h4
        refine so_istore (i := 7) X (dkX12_feed (76, .istore 7, 2) (pgm 37 rfl)) (by decide) (Lf := fun x5 => [(7, .int x5), (0, .ref this), (1, .int a1), (2, .int a2), (3, .int a3), (4, .int a4), (5, .int a5), (6, .int s23)]) (fun _ => rfl) (fun x5 => ?_)
        refine so_aload_n (i := 0) X 1 (dkX12_feed (78, .aload_n 0, 1) (pgm 38 rfl)) rfl rfl ?_
        refine sf_getR X ff_12_6 lk_1708 hk (dkX12_feed (79, .getfield 26, 3) (pgm 39 rfl)) ?_
        refine so_aload_n (i := 0) X 1 (dkX12_feed (82, .aload_n 0, 1) (pgm 40 rfl)) rfl rfl ?_
        refine sf_getI X ff_12_7 lk_1709 hk (dkX12_feed (83, .getfield 95, 3) (pgm 41 rfl)) ?_
        refine so_iload (i := 7) X 0 (dkX12_feed (86, .iload 7, 2) (pgm 42 rfl)) rfl ?_
        refine so_bipush (v := (24 : Int32)) X (dkX12_feed (88, .bipush 24, 2) (pgm 43 rfl)) bp_24 ?_
        refine so_bipush (v := (8 : Int32)) X (dkX12_feed (90, .bipush 8, 2) (pgm 44 rfl)) bp_8 ?_
        refine so_iload (i := 6) X 7 (dkX12_feed (92, .iload 6, 2) (pgm 45 rfl)) rfl ?_
        refine so_iconst (v := (3 : Int32)) X (dkX12_feed (94, .iconst 3, 1) (pgm 46 rfl)) ic_3 ?_
        refine so_iand X (dkX12_feed (95, .iand, 1) (pgm 47 rfl)) ?_
        refine so_imul X (dkX12_feed (96, .imul, 1) (pgm 48 rfl)) ?_
        refine so_isub X (dkX12_feed (97, .isub, 1) (pgm 49 rfl)) ?_
        refine so_iushr X (dkX12_feed (98, .iushr, 1) (pgm 50 rfl)) rfl ?_
        refine so_sipush (v := (255 : Int32)) X (dkX12_feed (99, .sipush 255, 3) (pgm 51 rfl)) sp_255 ?_
        refine so_iand X (dkX12_feed (102, .iand, 1) (pgm 52 rfl)) ?_
        refine so_iast X (rk_12_6 this hk) (dkX12_feed (103, .iastore, 1) (pgm 53 rfl)) (fun h6 => ?_)
        refine so_aload_n (i := 0) X 1 (dkX12_feed (104, .aload_n 0, 1) (pgm 54 rfl)) rfl rfl ?_
        refine so_dup X (dkX12_feed (105, .dup, 1) (pgm 55 rfl)) rfl ?_
        refine sf_getI X ff_12_7 lk_1709 hk (dkX12_feed (106, .getfield 95, 3) (pgm 56 rfl)) ?_
        refine so_iconst (v := (1 : Int32)) X (dkX12_feed (109, .iconst 1, 1) (pgm 57 rfl)) ic_1 ?_
        refine so_iadd X (dkX12_feed (110, .iadd, 1) (pgm 58 rfl)) ?_
        refine sf_putI X ff_12_7 ft_12 rfl lk_1709 hk rfl rfl (dkX12_feed (111, .putfield 95, 3) (pgm 59 rfl)) (fun h7 => ?_)
        refine so_iinc (i := 6) X 7 (dkX12_feed (114, .iinc 6 1, 3) (pgm 60 rfl)) rfl rfl (by decide) (Lf := fun x8 => [(6, .int x8), (7, .int x5), (0, .ref this), (1, .int a1), (2, .int a2), (3, .int a3), (4, .int a4), (5, .int a5)]) (fun _ => rfl) (fun x8 => ?_)
        refine so_goto (tgt := 23) X (dkX12_feed (117, .goto (-94), 3) (pgm 61 rfl)) rfl ?_
        exact so_pick X [2, 3, 4, 5, 6, 7, 0] rfl (hrec23 x8 h7)
      refine so_icmp_ge (tgt := 40) X (dkX12_feed (33, .if_icmp .ge 7, 3) (pgm 18 rfl)) rfl (fun _ => ?_) (fun _ => ?_)
      · refine so_iload (i := 6) X 6 (dkX12_feed (40, .iload 6, 2) (pgm 21 rfl)) rfl ?_
        refine so_bipush (v := (8 : Int32)) X (dkX12_feed (42, .bipush 8, 2) (pgm 22 rfl)) bp_8 ?_
        refine so_icmp_ge (tgt := 51) X (dkX12_feed (44, .if_icmp .ge 7, 3) (pgm 23 rfl)) rfl (fun _ => ?_) (fun _ => ?_)
        · refine so_iload (i := 6) X 6 (dkX12_feed (51, .iload 6, 2) (pgm 26 rfl)) rfl ?_
          refine so_bipush (v := (12 : Int32)) X (dkX12_feed (53, .bipush 12, 2) (pgm 27 rfl)) bp_12 ?_
          refine so_icmp_ge (tgt := 62) X (dkX12_feed (55, .if_icmp .ge 7, 3) (pgm 28 rfl)) rfl (fun _ => ?_) (fun _ => ?_)
          · refine so_iload (i := 6) X 6 (dkX12_feed (62, .iload 6, 2) (pgm 31 rfl)) rfl ?_
            refine so_bipush (v := (16 : Int32)) X (dkX12_feed (64, .bipush 16, 2) (pgm 32 rfl)) bp_16 ?_
            refine so_icmp_ge (tgt := 74) X (dkX12_feed (66, .if_icmp .ge 8, 3) (pgm 33 rfl)) rfl (fun _ => ?_) (fun _ => ?_)
            · refine so_iload (i := 5) X 5 (dkX12_feed (74, .iload 5, 2) (pgm 36 rfl)) rfl ?_
              exact so_pick X [0, 1, 2, 3, 4, 5, 6] rfl (hj76 a5 hh23)
            · refine so_iload (i := 4) X 4 (dkX12_feed (69, .iload 4, 2) (pgm 34 rfl)) rfl ?_
              refine so_goto (tgt := 76) X (dkX12_feed (71, .goto 5, 3) (pgm 35 rfl)) rfl ?_
              exact so_pick X [0, 1, 2, 3, 4, 5, 6] rfl (hj76 a4 hh23)
          · refine so_iload_n (i := 3) X 3 (dkX12_feed (58, .iload_n 3, 1) (pgm 29 rfl)) rfl rfl ?_
            refine so_goto (tgt := 76) X (dkX12_feed (59, .goto 17, 3) (pgm 30 rfl)) rfl ?_
            exact so_pick X [0, 1, 2, 3, 4, 5, 6] rfl (hj76 a3 hh23)
        · refine so_iload_n (i := 2) X 2 (dkX12_feed (47, .iload_n 2, 1) (pgm 24 rfl)) rfl rfl ?_
          refine so_goto (tgt := 76) X (dkX12_feed (48, .goto 28, 3) (pgm 25 rfl)) rfl ?_
          exact so_pick X [0, 1, 2, 3, 4, 5, 6] rfl (hj76 a2 hh23)
      · refine so_iload_n (i := 1) X 1 (dkX12_feed (36, .iload_n 1, 1) (pgm 19 rfl)) rfl rfl ?_
        refine so_goto (tgt := 76) X (dkX12_feed (37, .goto 39, 3) (pgm 20 rfl)) rfl ?_
        exact so_pick X [0, 1, 2, 3, 4, 5, 6] rfl (hj76 a1 hh23)
  · refine so_iconst (v := (-1 : Int32)) X (dkX12_feed (18, .iconst (-1), 1) (pgm 9 rfl)) ic_m1 ?_
    exact so_iret X hr hlk (dkX12_feed (19, .ireturn, 1) (pgm 10 rfl))
def pgX12_see : List (Nat × Instr × Nat) := [(0, .iload_n 1, 1), (1, .aload_n 0, 1), (2, .getfield 98, 3), (5, .if_icmp .ge 12, 3), (8, .aload_n 0, 1), (9, .getfield 26, 3), (12, .iload_n 1, 1), (13, .iaload, 1), (14, .goto 4, 3), (17, .iconst 0, 1), (18, .ireturn, 1)]
theorem dkX12_see : ∀ q ∈ pgX12_see, decode cX12_see q.1 = .ok q.2 := by decide +kernel
def f_X12_see (this : Nat) (a1 : Int32) (h0 : PH) : Option (Int32 × PH) :=
  lt (fun (t1 : Int32) (h2 : PH) => some (t1, h2)) (fun (j18 : Int32 → PH → Option (Int32 × PH)) => if (h0.1 this 8) ≤ a1 then (j18 (0 : Int32) h0) else (ldI h0 (rt this 6) 900 a1 (fun (x3 : Int32) => j18 x3 h0)))
set_option maxRecDepth 100000 in
set_option maxHeartbeats 4000000 in
theorem ct_X12_see (l : Launch) (this : Nat) (a1 : Int32) (h0 : PH) (hk : (kd this).1 = 12) : CT mkI l yX12_see cX12_see 2 (some .int) (rmd 0) [.ref this, .int a1] h0 (f_X12_see this a1 h0) := by
  refine ct_of (by decide) (Nat.le_of_ble_eq_true rfl) ?_
  intro p e s m args below meth c D cA ad A X hr hlk
  have X : Cx p s m args c RX12 cX12_see 2 D cA ad A := X
  unfold f_X12_see
  refine so_pick (L' := [(0, .ref this), (1, .int a1)]) X [0, 1] rfl ?_
  refine so_iload_n (i := 1) X 1 (dkX12_see (0, .iload_n 1, 1) (pgm 0 rfl)) rfl rfl ?_
  refine so_aload_n (i := 0) X 0 (dkX12_see (1, .aload_n 0, 1) (pgm 1 rfl)) rfl rfl ?_
  refine sf_getI X ff_12_8 lk_1710 hk (dkX12_see (2, .getfield 98, 3) (pgm 2 rfl)) ?_
  refine so_join (jf := fun (t1 : Int32) (h2 : PH) => some (t1, h2)) (fun (j : Int32 → PH → Option (Int32 × PH)) => ∀ (t1 : Int32) (h2 : PH), SWo (QM mkI below args s D cA ad A) p l e (rmd 0) s m args below meth c 0 0 2 D cA ad A 18 [] [.int t1] h2 (j t1 h2)) ?_ (fun j18 hj18 => ?_)
  · intro t1 h2
    exact so_iret X hr hlk (dkX12_see (18, .ireturn, 1) (pgm 10 rfl))
  refine so_icmp_ge (tgt := 17) X (dkX12_see (5, .if_icmp .ge 12, 3) (pgm 3 rfl)) rfl (fun _ => ?_) (fun _ => ?_)
  · refine so_iconst (v := (0 : Int32)) X (dkX12_see (17, .iconst 0, 1) (pgm 9 rfl)) ic_0 ?_
    exact so_pick X [] rfl (hj18 (0 : Int32) h0)
  · refine so_aload_n (i := 0) X 0 (dkX12_see (8, .aload_n 0, 1) (pgm 4 rfl)) rfl rfl ?_
    refine sf_getR X ff_12_6 lk_1708 hk (dkX12_see (9, .getfield 26, 3) (pgm 5 rfl)) ?_
    refine so_iload_n (i := 1) X 1 (dkX12_see (12, .iload_n 1, 1) (pgm 6 rfl)) rfl rfl ?_
    refine so_iald X (rk_12_6 this hk) (dkX12_see (13, .iaload, 1) (pgm 7 rfl)) (fun x3 => ?_)
    refine so_goto (tgt := 18) X (dkX12_see (14, .goto 4, 3) (pgm 8 rfl)) rfl ?_
    exact so_pick X [] rfl (hj18 x3 h0)
def pgX12_isLetter : List (Nat × Instr × Nat) := [(0, .iload_n 0, 1), (1, .bipush 97, 2), (3, .if_icmp .lt 13, 3), (6, .iload_n 0, 1), (7, .bipush 122, 2), (9, .if_icmp .gt 7, 3), (12, .iconst 1, 1), (13, .goto 4, 3), (16, .iconst 0, 1), (17, .ireturn, 1)]
theorem dkX12_isLetter : ∀ q ∈ pgX12_isLetter, decode cX12_isLetter q.1 = .ok q.2 := by decide +kernel
def f_X12_isLetter (a1 : Int32) (h0 : PH) : Option (Int32 × PH) :=
  lt (fun (t1 : Int32) (h2 : PH) => zr t1 h2) (fun (j17 : Int32 → PH → Option (Int32 × PH)) => lt (fun (h3 : PH) => j17 (0 : Int32) h3) (fun (j16 : PH → Option (Int32 × PH)) => if a1 < (97 : Int32) then (j16 h0) else (if (122 : Int32) < a1 then (j16 h0) else (j17 (1 : Int32) h0))))
set_option maxRecDepth 100000 in
set_option maxHeartbeats 4000000 in
theorem ct_X12_isLetter (l : Launch) (a1 : Int32) (h0 : PH)  : CT mkI l yX12_isLetter cX12_isLetter 1 (some .boolean) (rmd 0) [.int a1] h0 (f_X12_isLetter a1 h0) := by
  refine ct_of (by decide) (Nat.le_of_ble_eq_true rfl) ?_
  intro p e s m args below meth c D cA ad A X hr hlk
  have X : Cx p s m args c RX12 cX12_isLetter 1 D cA ad A := X
  unfold f_X12_isLetter
  refine so_pick (L' := [(0, .int a1)]) X [0] rfl ?_
  refine so_iload_n (i := 0) X 0 (dkX12_isLetter (0, .iload_n 0, 1) (pgm 0 rfl)) rfl rfl ?_
  refine so_bipush (v := (97 : Int32)) X (dkX12_isLetter (1, .bipush 97, 2) (pgm 1 rfl)) bp_97 ?_
  refine so_join (jf := fun (t1 : Int32) (h2 : PH) => zr t1 h2) (fun (j : Int32 → PH → Option (Int32 × PH)) => ∀ (t1 : Int32) (h2 : PH), SWo (QM mkI below args s D cA ad A) p l e (rmd 0) s m args below meth c 0 0 1 D cA ad A 17 [] [.int t1] h2 (j t1 h2)) ?_ (fun j17 hj17 => ?_)
  · intro t1 h2
    exact so_zret X hr hlk (dkX12_isLetter (17, .ireturn, 1) (pgm 9 rfl))
  refine so_join (jf := fun (h3 : PH) => j17 (0 : Int32) h3) (fun (j : PH → Option (Int32 × PH)) => ∀  (h3 : PH), SWo (QM mkI below args s D cA ad A) p l e (rmd 0) s m args below meth c 0 0 1 D cA ad A 16 [] [] h3 (j h3)) ?_ (fun j16 hj16 => ?_)
  · intro h3
    refine so_iconst (v := (0 : Int32)) X (dkX12_isLetter (16, .iconst 0, 1) (pgm 8 rfl)) ic_0 ?_
    exact so_pick X [] rfl (hj17 (0 : Int32) h3)
  refine so_icmp_lt (tgt := 16) X (dkX12_isLetter (3, .if_icmp .lt 13, 3) (pgm 2 rfl)) rfl (fun _ => ?_) (fun _ => ?_)
  · exact so_pick X [] rfl (hj16 h0)
  · refine so_iload_n (i := 0) X 0 (dkX12_isLetter (6, .iload_n 0, 1) (pgm 3 rfl)) rfl rfl ?_
    refine so_bipush (v := (122 : Int32)) X (dkX12_isLetter (7, .bipush 122, 2) (pgm 4 rfl)) bp_122 ?_
    refine so_icmp_gt (tgt := 16) X (dkX12_isLetter (9, .if_icmp .gt 7, 3) (pgm 5 rfl)) rfl (fun _ => ?_) (fun _ => ?_)
    · exact so_pick X [] rfl (hj16 h0)
    · refine so_iconst (v := (1 : Int32)) X (dkX12_isLetter (12, .iconst 1, 1) (pgm 6 rfl)) ic_1 ?_
      refine so_goto (tgt := 17) X (dkX12_isLetter (13, .goto 4, 3) (pgm 7 rfl)) rfl ?_
      exact so_pick X [] rfl (hj17 (1 : Int32) h0)
def pgX12_isDigit : List (Nat × Instr × Nat) := [(0, .iload_n 0, 1), (1, .bipush 48, 2), (3, .if_icmp .lt 13, 3), (6, .iload_n 0, 1), (7, .bipush 57, 2), (9, .if_icmp .gt 7, 3), (12, .iconst 1, 1), (13, .goto 4, 3), (16, .iconst 0, 1), (17, .ireturn, 1)]
theorem dkX12_isDigit : ∀ q ∈ pgX12_isDigit, decode cX12_isDigit q.1 = .ok q.2 := by decide +kernel
def f_X12_isDigit (a1 : Int32) (h0 : PH) : Option (Int32 × PH) :=
  lt (fun (t1 : Int32) (h2 : PH) => zr t1 h2) (fun (j17 : Int32 → PH → Option (Int32 × PH)) => lt (fun (h3 : PH) => j17 (0 : Int32) h3) (fun (j16 : PH → Option (Int32 × PH)) => if a1 < (48 : Int32) then (j16 h0) else (if (57 : Int32) < a1 then (j16 h0) else (j17 (1 : Int32) h0))))
set_option maxRecDepth 100000 in
set_option maxHeartbeats 4000000 in
theorem ct_X12_isDigit (l : Launch) (a1 : Int32) (h0 : PH)  : CT mkI l yX12_isDigit cX12_isDigit 1 (some .boolean) (rmd 0) [.int a1] h0 (f_X12_isDigit a1 h0) := by
  refine ct_of (by decide) (Nat.le_of_ble_eq_true rfl) ?_
  intro p e s m args below meth c D cA ad A X hr hlk
  have X : Cx p s m args c RX12 cX12_isDigit 1 D cA ad A := X
  unfold f_X12_isDigit
  refine so_pick (L' := [(0, .int a1)]) X [0] rfl ?_
  refine so_iload_n (i := 0) X 0 (dkX12_isDigit (0, .iload_n 0, 1) (pgm 0 rfl)) rfl rfl ?_
  refine so_bipush (v := (48 : Int32)) X (dkX12_isDigit (1, .bipush 48, 2) (pgm 1 rfl)) bp_48 ?_
  refine so_join (jf := fun (t1 : Int32) (h2 : PH) => zr t1 h2) (fun (j : Int32 → PH → Option (Int32 × PH)) => ∀ (t1 : Int32) (h2 : PH), SWo (QM mkI below args s D cA ad A) p l e (rmd 0) s m args below meth c 0 0 1 D cA ad A 17 [] [.int t1] h2 (j t1 h2)) ?_ (fun j17 hj17 => ?_)
  · intro t1 h2
    exact so_zret X hr hlk (dkX12_isDigit (17, .ireturn, 1) (pgm 9 rfl))
  refine so_join (jf := fun (h3 : PH) => j17 (0 : Int32) h3) (fun (j : PH → Option (Int32 × PH)) => ∀  (h3 : PH), SWo (QM mkI below args s D cA ad A) p l e (rmd 0) s m args below meth c 0 0 1 D cA ad A 16 [] [] h3 (j h3)) ?_ (fun j16 hj16 => ?_)
  · intro h3
    refine so_iconst (v := (0 : Int32)) X (dkX12_isDigit (16, .iconst 0, 1) (pgm 8 rfl)) ic_0 ?_
    exact so_pick X [] rfl (hj17 (0 : Int32) h3)
  refine so_icmp_lt (tgt := 16) X (dkX12_isDigit (3, .if_icmp .lt 13, 3) (pgm 2 rfl)) rfl (fun _ => ?_) (fun _ => ?_)
  · exact so_pick X [] rfl (hj16 h0)
  · refine so_iload_n (i := 0) X 0 (dkX12_isDigit (6, .iload_n 0, 1) (pgm 3 rfl)) rfl rfl ?_
    refine so_bipush (v := (57 : Int32)) X (dkX12_isDigit (7, .bipush 57, 2) (pgm 4 rfl)) bp_57 ?_
    refine so_icmp_gt (tgt := 16) X (dkX12_isDigit (9, .if_icmp .gt 7, 3) (pgm 5 rfl)) rfl (fun _ => ?_) (fun _ => ?_)
    · exact so_pick X [] rfl (hj16 h0)
    · refine so_iconst (v := (1 : Int32)) X (dkX12_isDigit (12, .iconst 1, 1) (pgm 6 rfl)) ic_1 ?_
      refine so_goto (tgt := 17) X (dkX12_isDigit (13, .goto 4, 3) (pgm 7 rfl)) rfl ?_
      exact so_pick X [] rfl (hj17 (1 : Int32) h0)
def pgX12_isSignByte : List (Nat × Instr × Nat) := [(0, .iload_n 0, 1), (1, .bipush 91, 2), (3, .if_icmp .eq 27, 3), (6, .iload_n 0, 1), (7, .bipush 93, 2), (9, .if_icmp .eq 21, 3), (12, .iload_n 0, 1), (13, .bipush 61, 2), (15, .if_icmp .eq 15, 3), (18, .iload_n 0, 1), (19, .bipush 60, 2), (21, .if_icmp .eq 9, 3), (24, .iload_n 0, 1), (25, .bipush 62, 2), (27, .if_icmp .ne 7, 3), (30, .iconst 1, 1), (31, .goto 4, 3), (34, .iconst 0, 1), (35, .istore_n 1, 1), (36, .iload_n 1, 1), (37, .ifCond .ne 45, 3), (40, .iload_n 0, 1), (41, .bipush 59, 2), (43, .if_icmp .eq 39, 3), (46, .iload_n 0, 1), (47, .bipush 58, 2), (49, .if_icmp .eq 33, 3), (52, .iload_n 0, 1), (53, .bipush 43, 2), (55, .if_icmp .eq 27, 3), (58, .iload_n 0, 1), (59, .bipush 45, 2), (61, .if_icmp .eq 21, 3), (64, .iload_n 0, 1), (65, .bipush 42, 2), (67, .if_icmp .eq 15, 3), (70, .iload_n 0, 1), (71, .bipush 40, 2), (73, .if_icmp .eq 9, 3), (76, .iload_n 0, 1), (77, .bipush 41, 2), (79, .if_icmp .ne 7, 3), (82, .iconst 1, 1), (83, .goto 4, 3), (86, .iconst 0, 1), (87, .ireturn, 1)]
theorem dkX12_isSignByte : ∀ q ∈ pgX12_isSignByte, decode cX12_isSignByte q.1 = .ok q.2 := by decide +kernel
def f_X12_isSignByte (a1 : Int32) (h0 : PH) : Option (Int32 × PH) :=
  lt (fun (t1 : Int32) (h2 : PH) => lt t1 (fun (x3 : Int32) => lt (fun (t4 : Int32) (h5 : PH) => zr t4 h5) (fun (j87 : Int32 → PH → Option (Int32 × PH)) => lt (fun (h6 : PH) => j87 (1 : Int32) h6) (fun (j82 : PH → Option (Int32 × PH)) => if x3 = 0 then (if a1 = (59 : Int32) then (j82 h2) else (if a1 = (58 : Int32) then (j82 h2) else (if a1 = (43 : Int32) then (j82 h2) else (if a1 = (45 : Int32) then (j82 h2) else (if a1 = (42 : Int32) then (j82 h2) else (if a1 = (40 : Int32) then (j82 h2) else (if a1 = (41 : Int32) then (j82 h2) else (j87 (0 : Int32) h2)))))))) else (j82 h2))))) (fun (j35 : Int32 → PH → Option (Int32 × PH)) => lt (fun (h7 : PH) => j35 (1 : Int32) h7) (fun (j30 : PH → Option (Int32 × PH)) => if a1 = (91 : Int32) then (j30 h0) else (if a1 = (93 : Int32) then (j30 h0) else (if a1 = (61 : Int32) then (j30 h0) else (if a1 = (60 : Int32) then (j30 h0) else (if a1 = (62 : Int32) then (j30 h0) else (j35 (0 : Int32) h0)))))))
set_option maxRecDepth 100000 in
set_option maxHeartbeats 4000000 in
theorem ct_X12_isSignByte (l : Launch) (a1 : Int32) (h0 : PH)  : CT mkI l yX12_isSignByte cX12_isSignByte 2 (some .boolean) (rmd 0) [.int a1] h0 (f_X12_isSignByte a1 h0) := by
  refine ct_of (by decide) (Nat.le_of_ble_eq_true rfl) ?_
  intro p e s m args below meth c D cA ad A X hr hlk
  have X : Cx p s m args c RX12 cX12_isSignByte 2 D cA ad A := X
  unfold f_X12_isSignByte
  refine so_pick (L' := [(0, .int a1)]) X [0] rfl ?_
  refine so_iload_n (i := 0) X 0 (dkX12_isSignByte (0, .iload_n 0, 1) (pgm 0 rfl)) rfl rfl ?_
  refine so_bipush (v := (91 : Int32)) X (dkX12_isSignByte (1, .bipush 91, 2) (pgm 1 rfl)) bp_91 ?_
  refine so_join (jf := fun (t1 : Int32) (h2 : PH) => lt t1 (fun (x3 : Int32) => lt (fun (t4 : Int32) (h5 : PH) => zr t4 h5) (fun (j87 : Int32 → PH → Option (Int32 × PH)) => lt (fun (h6 : PH) => j87 (1 : Int32) h6) (fun (j82 : PH → Option (Int32 × PH)) => if x3 = 0 then (if a1 = (59 : Int32) then (j82 h2) else (if a1 = (58 : Int32) then (j82 h2) else (if a1 = (43 : Int32) then (j82 h2) else (if a1 = (45 : Int32) then (j82 h2) else (if a1 = (42 : Int32) then (j82 h2) else (if a1 = (40 : Int32) then (j82 h2) else (if a1 = (41 : Int32) then (j82 h2) else (j87 (0 : Int32) h2)))))))) else (j82 h2))))) (fun (j : Int32 → PH → Option (Int32 × PH)) => ∀ (t1 : Int32) (h2 : PH), SWo (QM mkI below args s D cA ad A) p l e (rmd 0) s m args below meth c 0 0 2 D cA ad A 35 [(0, .int a1)] [.int t1] h2 (j t1 h2)) ?_ (fun j35 hj35 => ?_)
  · intro t1 h2
    refine so_istore_n (i := 1) X (dkX12_isSignByte (35, .istore_n 1, 1) (pgm 18 rfl)) rfl (by decide) (Lf := fun x3 => [(1, .int x3), (0, .int a1)]) (fun _ => rfl) (fun x3 => ?_)
    refine so_iload_n (i := 1) X 0 (dkX12_isSignByte (36, .iload_n 1, 1) (pgm 19 rfl)) rfl rfl ?_
    refine so_join (jf := fun (t4 : Int32) (h5 : PH) => zr t4 h5) (fun (j : Int32 → PH → Option (Int32 × PH)) => ∀ (t4 : Int32) (h5 : PH), SWo (QM mkI below args s D cA ad A) p l e (rmd 0) s m args below meth c 0 0 2 D cA ad A 87 [] [.int t4] h5 (j t4 h5)) ?_ (fun j87 hj87 => ?_)
    · intro t4 h5
      exact so_zret X hr hlk (dkX12_isSignByte (87, .ireturn, 1) (pgm 45 rfl))
    refine so_join (jf := fun (h6 : PH) => j87 (1 : Int32) h6) (fun (j : PH → Option (Int32 × PH)) => ∀  (h6 : PH), SWo (QM mkI below args s D cA ad A) p l e (rmd 0) s m args below meth c 0 0 2 D cA ad A 82 [] [] h6 (j h6)) ?_ (fun j82 hj82 => ?_)
    · intro h6
      refine so_iconst (v := (1 : Int32)) X (dkX12_isSignByte (82, .iconst 1, 1) (pgm 42 rfl)) ic_1 ?_
      refine so_goto (tgt := 87) X (dkX12_isSignByte (83, .goto 4, 3) (pgm 43 rfl)) rfl ?_
      exact so_pick X [] rfl (hj87 (1 : Int32) h6)
    refine so_if_ne (tgt := 82) X (dkX12_isSignByte (37, .ifCond .ne 45, 3) (pgm 20 rfl)) rfl (fun _ => ?_) (fun _ => ?_)
    · exact so_pick X [] rfl (hj82 h2)
    · refine so_iload_n (i := 0) X 1 (dkX12_isSignByte (40, .iload_n 0, 1) (pgm 21 rfl)) rfl rfl ?_
      refine so_bipush (v := (59 : Int32)) X (dkX12_isSignByte (41, .bipush 59, 2) (pgm 22 rfl)) bp_59 ?_
      refine so_icmp_eq (tgt := 82) X (dkX12_isSignByte (43, .if_icmp .eq 39, 3) (pgm 23 rfl)) rfl (fun _ => ?_) (fun _ => ?_)
      · exact so_pick X [] rfl (hj82 h2)
      · refine so_iload_n (i := 0) X 1 (dkX12_isSignByte (46, .iload_n 0, 1) (pgm 24 rfl)) rfl rfl ?_
        refine so_bipush (v := (58 : Int32)) X (dkX12_isSignByte (47, .bipush 58, 2) (pgm 25 rfl)) bp_58 ?_
        refine so_icmp_eq (tgt := 82) X (dkX12_isSignByte (49, .if_icmp .eq 33, 3) (pgm 26 rfl)) rfl (fun _ => ?_) (fun _ => ?_)
        · exact so_pick X [] rfl (hj82 h2)
        · refine so_iload_n (i := 0) X 1 (dkX12_isSignByte (52, .iload_n 0, 1) (pgm 27 rfl)) rfl rfl ?_
          refine so_bipush (v := (43 : Int32)) X (dkX12_isSignByte (53, .bipush 43, 2) (pgm 28 rfl)) bp_43 ?_
          refine so_icmp_eq (tgt := 82) X (dkX12_isSignByte (55, .if_icmp .eq 27, 3) (pgm 29 rfl)) rfl (fun _ => ?_) (fun _ => ?_)
          · exact so_pick X [] rfl (hj82 h2)
          · refine so_iload_n (i := 0) X 1 (dkX12_isSignByte (58, .iload_n 0, 1) (pgm 30 rfl)) rfl rfl ?_
            refine so_bipush (v := (45 : Int32)) X (dkX12_isSignByte (59, .bipush 45, 2) (pgm 31 rfl)) bp_45 ?_
            refine so_icmp_eq (tgt := 82) X (dkX12_isSignByte (61, .if_icmp .eq 21, 3) (pgm 32 rfl)) rfl (fun _ => ?_) (fun _ => ?_)
            · exact so_pick X [] rfl (hj82 h2)
            · refine so_iload_n (i := 0) X 1 (dkX12_isSignByte (64, .iload_n 0, 1) (pgm 33 rfl)) rfl rfl ?_
              refine so_bipush (v := (42 : Int32)) X (dkX12_isSignByte (65, .bipush 42, 2) (pgm 34 rfl)) bp_42 ?_
              refine so_icmp_eq (tgt := 82) X (dkX12_isSignByte (67, .if_icmp .eq 15, 3) (pgm 35 rfl)) rfl (fun _ => ?_) (fun _ => ?_)
              · exact so_pick X [] rfl (hj82 h2)
              · refine so_iload_n (i := 0) X 1 (dkX12_isSignByte (70, .iload_n 0, 1) (pgm 36 rfl)) rfl rfl ?_
                refine so_bipush (v := (40 : Int32)) X (dkX12_isSignByte (71, .bipush 40, 2) (pgm 37 rfl)) bp_40 ?_
                refine so_icmp_eq (tgt := 82) X (dkX12_isSignByte (73, .if_icmp .eq 9, 3) (pgm 38 rfl)) rfl (fun _ => ?_) (fun _ => ?_)
                · exact so_pick X [] rfl (hj82 h2)
                · refine so_iload_n (i := 0) X 1 (dkX12_isSignByte (76, .iload_n 0, 1) (pgm 39 rfl)) rfl rfl ?_
                  refine so_bipush (v := (41 : Int32)) X (dkX12_isSignByte (77, .bipush 41, 2) (pgm 40 rfl)) bp_41 ?_
                  refine so_icmp_ne (tgt := 86) X (dkX12_isSignByte (79, .if_icmp .ne 7, 3) (pgm 41 rfl)) rfl (fun _ => ?_) (fun _ => ?_)
                  · refine so_iconst (v := (0 : Int32)) X (dkX12_isSignByte (86, .iconst 0, 1) (pgm 44 rfl)) ic_0 ?_
                    exact so_pick X [] rfl (hj87 (0 : Int32) h2)
                  · exact so_pick X [] rfl (hj82 h2)
  refine so_join (jf := fun (h7 : PH) => j35 (1 : Int32) h7) (fun (j : PH → Option (Int32 × PH)) => ∀  (h7 : PH), SWo (QM mkI below args s D cA ad A) p l e (rmd 0) s m args below meth c 0 0 2 D cA ad A 30 [(0, .int a1)] [] h7 (j h7)) ?_ (fun j30 hj30 => ?_)
  · intro h7
    refine so_iconst (v := (1 : Int32)) X (dkX12_isSignByte (30, .iconst 1, 1) (pgm 15 rfl)) ic_1 ?_
    refine so_goto (tgt := 35) X (dkX12_isSignByte (31, .goto 4, 3) (pgm 16 rfl)) rfl ?_
    exact so_pick X [0] rfl (hj35 (1 : Int32) h7)
  refine so_icmp_eq (tgt := 30) X (dkX12_isSignByte (3, .if_icmp .eq 27, 3) (pgm 2 rfl)) rfl (fun _ => ?_) (fun _ => ?_)
  · exact so_pick X [0] rfl (hj30 h0)
  · refine so_iload_n (i := 0) X 0 (dkX12_isSignByte (6, .iload_n 0, 1) (pgm 3 rfl)) rfl rfl ?_
    refine so_bipush (v := (93 : Int32)) X (dkX12_isSignByte (7, .bipush 93, 2) (pgm 4 rfl)) bp_93 ?_
    refine so_icmp_eq (tgt := 30) X (dkX12_isSignByte (9, .if_icmp .eq 21, 3) (pgm 5 rfl)) rfl (fun _ => ?_) (fun _ => ?_)
    · exact so_pick X [0] rfl (hj30 h0)
    · refine so_iload_n (i := 0) X 0 (dkX12_isSignByte (12, .iload_n 0, 1) (pgm 6 rfl)) rfl rfl ?_
      refine so_bipush (v := (61 : Int32)) X (dkX12_isSignByte (13, .bipush 61, 2) (pgm 7 rfl)) bp_61 ?_
      refine so_icmp_eq (tgt := 30) X (dkX12_isSignByte (15, .if_icmp .eq 15, 3) (pgm 8 rfl)) rfl (fun _ => ?_) (fun _ => ?_)
      · exact so_pick X [0] rfl (hj30 h0)
      · refine so_iload_n (i := 0) X 0 (dkX12_isSignByte (18, .iload_n 0, 1) (pgm 9 rfl)) rfl rfl ?_
        refine so_bipush (v := (60 : Int32)) X (dkX12_isSignByte (19, .bipush 60, 2) (pgm 10 rfl)) bp_60 ?_
        refine so_icmp_eq (tgt := 30) X (dkX12_isSignByte (21, .if_icmp .eq 9, 3) (pgm 11 rfl)) rfl (fun _ => ?_) (fun _ => ?_)
        · exact so_pick X [0] rfl (hj30 h0)
        · refine so_iload_n (i := 0) X 0 (dkX12_isSignByte (24, .iload_n 0, 1) (pgm 12 rfl)) rfl rfl ?_
          refine so_bipush (v := (62 : Int32)) X (dkX12_isSignByte (25, .bipush 62, 2) (pgm 13 rfl)) bp_62 ?_
          refine so_icmp_ne (tgt := 34) X (dkX12_isSignByte (27, .if_icmp .ne 7, 3) (pgm 14 rfl)) rfl (fun _ => ?_) (fun _ => ?_)
          · refine so_iconst (v := (0 : Int32)) X (dkX12_isSignByte (34, .iconst 0, 1) (pgm 17 rfl)) ic_0 ?_
            exact so_pick X [0] rfl (hj35 (0 : Int32) h0)
          · exact so_pick X [0] rfl (hj30 h0)

def pgX12_isSo : List (Nat × Instr × Nat) := [(0, .iload_n 1, 1), (1, .iload_n 0, 1), (2, .iconst 2, 1), (3, .idiv, 1), (4, .ishr, 1), (5, .iconst 1, 1), (6, .iand, 1), (7, .iload_n 0, 1), (8, .iconst 2, 1), (9, .irem, 1), (10, .if_icmp .ne 7, 3), (13, .iconst 1, 1), (14, .goto 4, 3), (17, .iconst 0, 1), (18, .ireturn, 1)]
theorem dkX12_isSo : ∀ q ∈ pgX12_isSo, decode cX12_isSo q.1 = .ok q.2 := by decide +kernel
def f_X12_isSo (a1 : Int32) (a2 : Int32) (h0 : PH) : Option (Int32 × PH) :=
  nz (2 : Int32) (nz (2 : Int32) (lt (fun (t1 : Int32) (h2 : PH) => zr t1 h2) (fun (j18 : Int32 → PH → Option (Int32 × PH)) => if ((a2 >>> ((a1 / (2 : Int32)) &&& 31)) &&& (1 : Int32)) = (a1 - a1 / (2 : Int32) * (2 : Int32)) then (j18 (1 : Int32) h0) else (j18 (0 : Int32) h0))))
set_option maxRecDepth 100000 in
set_option maxHeartbeats 4000000 in
theorem ct_X12_isSo (l : Launch) (a1 : Int32) (a2 : Int32) (h0 : PH)  : CT mkI l yX12_isSo cX12_isSo 2 (some .boolean) (rmd 0) [.int a1, .int a2] h0 (f_X12_isSo a1 a2 h0) := by
  refine ct_of (by decide) (Nat.le_of_ble_eq_true rfl) ?_
  intro p e s m args below meth c D cA ad A X hr hlk
  have X : Cx p s m args c RX12 cX12_isSo 2 D cA ad A := X
  unfold f_X12_isSo
  refine so_pick (L' := [(0, .int a1), (1, .int a2)]) X [0, 1] rfl ?_
  refine so_iload_n (i := 1) X 1 (dkX12_isSo (0, .iload_n 1, 1) (pgm 0 rfl)) rfl rfl ?_
  refine so_iload_n (i := 0) X 0 (dkX12_isSo (1, .iload_n 0, 1) (pgm 1 rfl)) rfl rfl ?_
  refine so_iconst (v := (2 : Int32)) X (dkX12_isSo (2, .iconst 2, 1) (pgm 2 rfl)) ic_2 ?_
  refine so_idiv X (dkX12_isSo (3, .idiv, 1) (pgm 3 rfl)) (fun _ => ?_)
  refine so_ishr X (dkX12_isSo (4, .ishr, 1) (pgm 4 rfl)) ?_
  refine so_iconst (v := (1 : Int32)) X (dkX12_isSo (5, .iconst 1, 1) (pgm 5 rfl)) ic_1 ?_
  refine so_iand X (dkX12_isSo (6, .iand, 1) (pgm 6 rfl)) ?_
  refine so_iload_n (i := 0) X 0 (dkX12_isSo (7, .iload_n 0, 1) (pgm 7 rfl)) rfl rfl ?_
  refine so_iconst (v := (2 : Int32)) X (dkX12_isSo (8, .iconst 2, 1) (pgm 8 rfl)) ic_2 ?_
  refine so_irem X (dkX12_isSo (9, .irem, 1) (pgm 9 rfl)) (fun _ => ?_)
  refine so_join (jf := fun (t1 : Int32) (h2 : PH) => zr t1 h2) (fun (j : Int32 → PH → Option (Int32 × PH)) => ∀ (t1 : Int32) (h2 : PH), SWo (QM mkI below args s D cA ad A) p l e (rmd 0) s m args below meth c 0 0 2 D cA ad A 18 [] [.int t1] h2 (j t1 h2)) ?_ (fun j18 hj18 => ?_)
  · intro t1 h2
    exact so_zret X hr hlk (dkX12_isSo (18, .ireturn, 1) (pgm 14 rfl))
  refine so_icmp_ne (tgt := 17) X (dkX12_isSo (10, .if_icmp .ne 7, 3) (pgm 10 rfl)) rfl (fun _ => ?_) (fun _ => ?_)
  · refine so_iconst (v := (0 : Int32)) X (dkX12_isSo (17, .iconst 0, 1) (pgm 13 rfl)) ic_0 ?_
    exact so_pick X [] rfl (hj18 (0 : Int32) h0)
  · refine so_iconst (v := (1 : Int32)) X (dkX12_isSo (13, .iconst 1, 1) (pgm 11 rfl)) ic_1 ?_
    refine so_goto (tgt := 18) X (dkX12_isSo (14, .goto 4, 3) (pgm 12 rfl)) rfl ?_
    exact so_pick X [] rfl (hj18 (1 : Int32) h0)
def pgX12_doPart : List (Nat × Instr × Nat) := [(0, .iconst 0, 1), (1, .istore_n 3, 1), (2, .iload_n 3, 1), (3, .aload_n 0, 1), (4, .getfield 83, 3), (7, .iload_n 1, 1), (8, .iaload, 1), (9, .if_icmp .ge 90, 3), (12, .aload_n 0, 1), (13, .getfield 86, 3), (16, .bipush 30, 2), (18, .iload_n 1, 1), (19, .imul, 1), (20, .iload_n 3, 1), (21, .iadd, 1), (22, .laload, 1), (23, .l2i, 1), (24, .istore 4, 2), (26, .iconst 1, 1), (27, .istore 5, 2), (29, .iconst 0, 1), (30, .istore 6, 2), (32, .iload 6, 2), (34, .iload_n 2, 1), (35, .if_icmp .ge 38, 3), (38, .iload 5, 2), (40, .ifCond .eq 24, 3), (43, .aload_n 0, 1), (44, .getfield 61, 3), (47, .iload 6, 2), (49, .iaload, 1), (50, .iload 4, 2), (52, .iconst 2, 1), (53, .idiv, 1), (54, .invokestatic 372, 3), (57, .ifCond .eq 7, 3), (60, .iconst 1, 1), (61, .goto 4, 3), (64, .iconst 0, 1), (65, .istore 5, 2), (67, .iinc 6 1, 3), (70, .goto (-38), 3), (73, .iload 5, 2), (75, .iload 4, 2), (77, .iconst 2, 1), (78, .irem, 1), (79, .iconst 1, 1), (80, .if_icmp .ne 7, 3), (83, .iconst 1, 1), (84, .goto 4, 3), (87, .iconst 0, 1), (88, .if_icmp .eq 5, 3), (91, .iconst 0, 1), (92, .ireturn, 1), (93, .iinc 3 1, 3), (96, .goto (-94), 3), (99, .iconst 1, 1), (100, .ireturn, 1)]
theorem dkX12_doPart : ∀ q ∈ pgX12_doPart, decode cX12_doPart q.1 = .ok q.2 := by decide +kernel
def b_X12_doPart_32 (this : Nat) (a2 : Int32) (x4 : Int32) (j73 : Int32 → PH → Option (Int32 × PH)) (rec32 : (Int32 × Int32) → PH → Option (Int32 × PH)) (s32 : Int32 × Int32) (hh32 : PH) : Option (Int32 × PH) :=
  if a2 ≤ s32.2 then (j73 s32.1 hh32) else (lt (fun (t12 : Int32) (h13 : PH) => lt t12 (fun (x14 : Int32) => lt (s32.2 + Int32.ofInt 1) (fun (x15 : Int32) => rec32 (x14, x15) h13))) (fun (j65 : Int32 → PH → Option (Int32 × PH)) => lt (fun (h16 : PH) => j65 (0 : Int32) h16) (fun (j64 : PH → Option (Int32 × PH)) => if s32.1 = 0 then (j64 hh32) else (ldI hh32 (rt this 27) 3 s32.2 (fun (x17 : Int32) => nz (2 : Int32) (cb (f_X12_isSo x17 (x4 / (2 : Int32)) hh32) (fun (r18 : Int32) (h19 : PH) => if r18 = 0 then (j64 h19) else (j65 (1 : Int32) h19))))))))
def b_X12_doPart_2 (this : Nat) (a1 : Int32) (a2 : Int32) (rec2 : (Int32) → PH → Option (Int32 × PH)) (s2 : Int32) (hh2 : PH) : Option (Int32 × PH) :=
  ldI hh2 (rt this 37) 4 a1 (fun (x2 : Int32) => if x2 ≤ s2 then (zr (1 : Int32) hh2) else (ldL hh2 (rt this 38) 120 (((30 : Int32) * a1) + s2) (fun (x3 : Int64) => lt x3.toInt32 (fun (x4 : Int32) => lt (1 : Int32) (fun (x5 : Int32) => lt (0 : Int32) (fun (x6 : Int32) => lt (fun (y7 : Int32) (h8 : PH) => nz (2 : Int32) (lt (fun (t9 : Int32) (h10 : PH) => if y7 = t9 then (lt (s2 + Int32.ofInt 1) (fun (x11 : Int32) => rec2 x11 h10)) else (zr (0 : Int32) h10)) (fun (j88 : Int32 → PH → Option (Int32 × PH)) => if (x4 - x4 / (2 : Int32) * (2 : Int32)) = (1 : Int32) then (j88 (1 : Int32) h8) else (j88 (0 : Int32) h8)))) (fun (j73 : Int32 → PH → Option (Int32 × PH)) => lp (b_X12_doPart_32 this a2 x4 j73) FU (x5, x6) hh2)))))))
def f_X12_doPart (this : Nat) (a1 : Int32) (a2 : Int32) (h0 : PH) : Option (Int32 × PH) :=
  lt (0 : Int32) (fun (x1 : Int32) => lp (b_X12_doPart_2 this a1 a2) FU x1 h0)
set_option maxRecDepth 100000 in
set_option maxHeartbeats 4000000 in
theorem ct_X12_doPart (l : Launch) (this : Nat) (a1 : Int32) (a2 : Int32) (h0 : PH) (hk : (kd this).1 = 12) : CT mkI l yX12_doPart cX12_doPart 7 (some .boolean) (rmd 1) [.ref this, .int a1, .int a2] h0 (f_X12_doPart this a1 a2 h0) := by
  refine ct_of (by decide) (Nat.le_of_ble_eq_true rfl) ?_
  intro p e s m args below meth c D cA ad A X hr hlk
  have X : Cx p s m args c RX12 cX12_doPart 7 D cA ad A := X
  unfold f_X12_doPart
  refine so_pick (L' := [(0, .ref this), (1, .int a1), (2, .int a2)]) X [0, 1, 2] rfl ?_
  refine so_iconst (v := (0 : Int32)) X (dkX12_doPart (0, .iconst 0, 1) (pgm 0 rfl)) ic_0 ?_
  refine so_istore_n (i := 3) X (dkX12_doPart (1, .istore_n 3, 1) (pgm 1 rfl)) rfl (by decide) (Lf := fun x1 => [(3, .int x1), (0, .ref this), (1, .int a1), (2, .int a2)]) (fun _ => rfl) (fun x1 => ?_)
  refine so_pick (L' := [(0, .ref this), (1, .int a1), (2, .int a2), (3, .int x1)]) X [1, 2, 3, 0] rfl ?_
  refine so_loop (body := b_X12_doPart_2 this a1 a2) (fun (s2 : Int32) => [(0, .ref this), (1, .int a1), (2, .int a2), (3, .int s2)]) (fun rec2 hrec2 s2 hh2 => ?_) FU x1 h0
  unfold b_X12_doPart_2
  refine so_iload_n (i := 3) X 3 (dkX12_doPart (2, .iload_n 3, 1) (pgm 2 rfl)) rfl rfl ?_
  refine so_aload_n (i := 0) X 0 (dkX12_doPart (3, .aload_n 0, 1) (pgm 3 rfl)) rfl rfl ?_
  refine sf_getR X ff_12_37 lk_1739 hk (dkX12_doPart (4, .getfield 83, 3) (pgm 4 rfl)) ?_
  refine so_iload_n (i := 1) X 1 (dkX12_doPart (7, .iload_n 1, 1) (pgm 5 rfl)) rfl rfl ?_
  refine so_iald X (rk_12_37 this hk) (dkX12_doPart (8, .iaload, 1) (pgm 6 rfl)) (fun x2 => ?_)
  refine so_icmp_ge (tgt := 99) X (dkX12_doPart (9, .if_icmp .ge 90, 3) (pgm 7 rfl)) rfl (fun _ => ?_) (fun _ => ?_)
  · refine so_iconst (v := (1 : Int32)) X (dkX12_doPart (99, .iconst 1, 1) (pgm 56 rfl)) ic_1 ?_
    exact so_zret X hr hlk (dkX12_doPart (100, .ireturn, 1) (pgm 57 rfl))
  · refine so_aload_n (i := 0) X 0 (dkX12_doPart (12, .aload_n 0, 1) (pgm 8 rfl)) rfl rfl ?_
    refine sf_getR X ff_12_38 lk_1740 hk (dkX12_doPart (13, .getfield 86, 3) (pgm 9 rfl)) ?_
    refine so_bipush (v := (30 : Int32)) X (dkX12_doPart (16, .bipush 30, 2) (pgm 10 rfl)) bp_30 ?_
    refine so_iload_n (i := 1) X 1 (dkX12_doPart (18, .iload_n 1, 1) (pgm 11 rfl)) rfl rfl ?_
    refine so_imul X (dkX12_doPart (19, .imul, 1) (pgm 12 rfl)) ?_
    refine so_iload_n (i := 3) X 3 (dkX12_doPart (20, .iload_n 3, 1) (pgm 13 rfl)) rfl rfl ?_
    refine so_iadd X (dkX12_doPart (21, .iadd, 1) (pgm 14 rfl)) ?_
    refine so_lald X (rk_12_38 this hk) (dkX12_doPart (22, .laload, 1) (pgm 15 rfl)) (fun x3 => ?_)
    refine so_l2i X (dkX12_doPart (23, .l2i, 1) (pgm 16 rfl)) ?_
    refine so_istore (i := 4) X (dkX12_doPart (24, .istore 4, 2) (pgm 17 rfl)) (by decide) (Lf := fun x4 => [(4, .int x4), (0, .ref this), (1, .int a1), (2, .int a2), (3, .int s2)]) (fun _ => rfl) (fun x4 => ?_)
    refine so_iconst (v := (1 : Int32)) X (dkX12_doPart (26, .iconst 1, 1) (pgm 18 rfl)) ic_1 ?_
    refine so_istore (i := 5) X (dkX12_doPart (27, .istore 5, 2) (pgm 19 rfl)) (by decide) (Lf := fun x5 => [(5, .int x5), (4, .int x4), (0, .ref this), (1, .int a1), (2, .int a2), (3, .int s2)]) (fun _ => rfl) (fun x5 => ?_)
    refine so_iconst (v := (0 : Int32)) X (dkX12_doPart (29, .iconst 0, 1) (pgm 20 rfl)) ic_0 ?_
    refine so_istore (i := 6) X (dkX12_doPart (30, .istore 6, 2) (pgm 21 rfl)) (by decide) (Lf := fun x6 => [(6, .int x6), (5, .int x5), (4, .int x4), (0, .ref this), (1, .int a1), (2, .int a2), (3, .int s2)]) (fun _ => rfl) (fun x6 => ?_)
    refine so_join (jf := fun (y7 : Int32) (h8 : PH) => nz (2 : Int32) (lt (fun (t9 : Int32) (h10 : PH) => if y7 = t9 then (lt (s2 + Int32.ofInt 1) (fun (x11 : Int32) => rec2 x11 h10)) else (zr (0 : Int32) h10)) (fun (j88 : Int32 → PH → Option (Int32 × PH)) => if (x4 - x4 / (2 : Int32) * (2 : Int32)) = (1 : Int32) then (j88 (1 : Int32) h8) else (j88 (0 : Int32) h8)))) (fun (j : Int32 → PH → Option (Int32 × PH)) => ∀ (y7 : Int32) (h8 : PH), SWo (QM mkI below args s D cA ad A) p l e (rmd 1) s m args below meth c 0 0 7 D cA ad A 73 [(0, .ref this), (1, .int a1), (2, .int a2), (3, .int s2), (4, .int x4), (5, .int y7)] [] h8 (j y7 h8)) ?_ (fun j73 hj73 => ?_)
    · intro y7 h8
      refine so_iload (i := 5) X 5 (dkX12_doPart (73, .iload 5, 2) (pgm 42 rfl)) rfl ?_
      refine so_iload (i := 4) X 4 (dkX12_doPart (75, .iload 4, 2) (pgm 43 rfl)) rfl ?_
      refine so_iconst (v := (2 : Int32)) X (dkX12_doPart (77, .iconst 2, 1) (pgm 44 rfl)) ic_2 ?_
      refine so_irem X (dkX12_doPart (78, .irem, 1) (pgm 45 rfl)) (fun _ => ?_)
      refine so_iconst (v := (1 : Int32)) X (dkX12_doPart (79, .iconst 1, 1) (pgm 46 rfl)) ic_1 ?_
      refine so_join (jf := fun (t9 : Int32) (h10 : PH) => if y7 = t9 then (lt (s2 + Int32.ofInt 1) (fun (x11 : Int32) => rec2 x11 h10)) else (zr (0 : Int32) h10)) (fun (j : Int32 → PH → Option (Int32 × PH)) => ∀ (t9 : Int32) (h10 : PH), SWo (QM mkI below args s D cA ad A) p l e (rmd 1) s m args below meth c 0 0 7 D cA ad A 88 [(0, .ref this), (1, .int a1), (2, .int a2), (3, .int s2)] [.int t9, .int y7] h10 (j t9 h10)) ?_ (fun j88 hj88 => ?_)
      · intro t9 h10
        refine so_icmp_eq (tgt := 93) X (dkX12_doPart (88, .if_icmp .eq 5, 3) (pgm 51 rfl)) rfl (fun _ => ?_) (fun _ => ?_)
        · refine so_iinc (i := 3) X 3 (dkX12_doPart (93, .iinc 3 1, 3) (pgm 54 rfl)) rfl rfl (by decide) (Lf := fun x11 => [(3, .int x11), (0, .ref this), (1, .int a1), (2, .int a2)]) (fun _ => rfl) (fun x11 => ?_)
          refine so_goto (tgt := 2) X (dkX12_doPart (96, .goto (-94), 3) (pgm 55 rfl)) rfl ?_
          exact so_pick X [1, 2, 3, 0] rfl (hrec2 x11 h10)
        · refine so_iconst (v := (0 : Int32)) X (dkX12_doPart (91, .iconst 0, 1) (pgm 52 rfl)) ic_0 ?_
          exact so_zret X hr hlk (dkX12_doPart (92, .ireturn, 1) (pgm 53 rfl))
      refine so_icmp_ne (tgt := 87) X (dkX12_doPart (80, .if_icmp .ne 7, 3) (pgm 47 rfl)) rfl (fun _ => ?_) (fun _ => ?_)
      · refine so_iconst (v := (0 : Int32)) X (dkX12_doPart (87, .iconst 0, 1) (pgm 50 rfl)) ic_0 ?_
        exact so_pick X [0, 1, 2, 3] rfl (hj88 (0 : Int32) h8)
      · refine so_iconst (v := (1 : Int32)) X (dkX12_doPart (83, .iconst 1, 1) (pgm 48 rfl)) ic_1 ?_
        refine so_goto (tgt := 88) X (dkX12_doPart (84, .goto 4, 3) (pgm 49 rfl)) rfl ?_
        exact so_pick X [0, 1, 2, 3] rfl (hj88 (1 : Int32) h8)
    refine so_pick (L' := [(0, .ref this), (1, .int a1), (2, .int a2), (3, .int s2), (4, .int x4), (5, .int x5), (6, .int x6)]) X [3, 4, 5, 6, 2, 1, 0] rfl ?_
    refine so_loop (body := b_X12_doPart_32 this a2 x4 j73) (fun (s32 : Int32 × Int32) => [(0, .ref this), (1, .int a1), (2, .int a2), (3, .int s2), (4, .int x4), (5, .int s32.1), (6, .int s32.2)]) (fun rec32 hrec32 s32 hh32 => ?_) FU (x5, x6) hh2
    unfold b_X12_doPart_32
    refine so_iload (i := 6) X 6 (dkX12_doPart (32, .iload 6, 2) (pgm 22 rfl)) rfl ?_
    refine so_iload_n (i := 2) X 2 (dkX12_doPart (34, .iload_n 2, 1) (pgm 23 rfl)) rfl rfl ?_
    refine so_icmp_ge (tgt := 73) X (dkX12_doPart (35, .if_icmp .ge 38, 3) (pgm 24 rfl)) rfl (fun _ => ?_) (fun _ => ?_)
    · exact so_pick X [0, 1, 2, 3, 4, 5] rfl (hj73 s32.1 hh32)
    · refine so_iload (i := 5) X 5 (dkX12_doPart (38, .iload 5, 2) (pgm 25 rfl)) rfl ?_
      refine so_join (jf := fun (t12 : Int32) (h13 : PH) => lt t12 (fun (x14 : Int32) => lt (s32.2 + Int32.ofInt 1) (fun (x15 : Int32) => rec32 (x14, x15) h13))) (fun (j : Int32 → PH → Option (Int32 × PH)) => ∀ (t12 : Int32) (h13 : PH), SWo (QM mkI below args s D cA ad A) p l e (rmd 1) s m args below meth c 0 0 7 D cA ad A 65 [(0, .ref this), (1, .int a1), (2, .int a2), (3, .int s2), (4, .int x4), (6, .int s32.2)] [.int t12] h13 (j t12 h13)) ?_ (fun j65 hj65 => ?_)
      · intro t12 h13
        refine so_istore (i := 5) X (dkX12_doPart (65, .istore 5, 2) (pgm 39 rfl)) (by decide) (Lf := fun x14 => [(5, .int x14), (0, .ref this), (1, .int a1), (2, .int a2), (3, .int s2), (4, .int x4), (6, .int s32.2)]) (fun _ => rfl) (fun x14 => ?_)
        refine so_iinc (i := 6) X 6 (dkX12_doPart (67, .iinc 6 1, 3) (pgm 40 rfl)) rfl rfl (by decide) (Lf := fun x15 => [(6, .int x15), (5, .int x14), (0, .ref this), (1, .int a1), (2, .int a2), (3, .int s2), (4, .int x4)]) (fun _ => rfl) (fun x15 => ?_)
        refine so_goto (tgt := 32) X (dkX12_doPart (70, .goto (-38), 3) (pgm 41 rfl)) rfl ?_
        exact so_pick X [2, 3, 4, 5, 6, 1, 0] rfl (hrec32 (x14, x15) h13)
      refine so_join (jf := fun (h16 : PH) => j65 (0 : Int32) h16) (fun (j : PH → Option (Int32 × PH)) => ∀  (h16 : PH), SWo (QM mkI below args s D cA ad A) p l e (rmd 1) s m args below meth c 0 0 7 D cA ad A 64 [(0, .ref this), (1, .int a1), (2, .int a2), (3, .int s2), (4, .int x4), (6, .int s32.2)] [] h16 (j h16)) ?_ (fun j64 hj64 => ?_)
      · intro h16
        refine so_iconst (v := (0 : Int32)) X (dkX12_doPart (64, .iconst 0, 1) (pgm 38 rfl)) ic_0 ?_
        exact so_pick X [0, 1, 2, 3, 4, 5] rfl (hj65 (0 : Int32) h16)
      refine so_if_eq (tgt := 64) X (dkX12_doPart (40, .ifCond .eq 24, 3) (pgm 26 rfl)) rfl (fun _ => ?_) (fun _ => ?_)
      · exact so_pick X [0, 1, 2, 3, 4, 6] rfl (hj64 hh32)
      · refine so_aload_n (i := 0) X 0 (dkX12_doPart (43, .aload_n 0, 1) (pgm 27 rfl)) rfl rfl ?_
        refine sf_getR X ff_12_27 lk_1729 hk (dkX12_doPart (44, .getfield 61, 3) (pgm 28 rfl)) ?_
        refine so_iload (i := 6) X 6 (dkX12_doPart (47, .iload 6, 2) (pgm 29 rfl)) rfl ?_
        refine so_iald X (rk_12_27 this hk) (dkX12_doPart (49, .iaload, 1) (pgm 30 rfl)) (fun x17 => ?_)
        refine so_iload (i := 4) X 4 (dkX12_doPart (50, .iload 4, 2) (pgm 31 rfl)) rfl ?_
        refine so_iconst (v := (2 : Int32)) X (dkX12_doPart (52, .iconst 2, 1) (pgm 32 rfl)) ic_2 ?_
        refine so_idiv X (dkX12_doPart (53, .idiv, 1) (pgm 33 rfl)) (fun _ => ?_)
        refine so_callS (n := 2) (As := [.int x17, .int (x4 / (2 : Int32))]) X (ct_X12_isSo l x17 (x4 / (2 : Int32)) hh32 ) lk_2147 lk_2148 lk_134 lk_2149 (by decide +kernel) rfl rfl rfl (rm_ok (by omega) (by decide)) ⟨Nat.zero_le _, Nat.zero_le _⟩ (Nat.le_of_ble_eq_true rfl) (dkX12_doPart (54, .invokestatic 372, 3) (pgm 34 rfl)) (fun r18 h19 => ?_) rfl
        refine so_if_eq (tgt := 64) X (dkX12_doPart (57, .ifCond .eq 7, 3) (pgm 35 rfl)) rfl (fun _ => ?_) (fun _ => ?_)
        · exact so_pick X [0, 1, 2, 3, 4, 6] rfl (hj64 h19)
        · refine so_iconst (v := (1 : Int32)) X (dkX12_doPart (60, .iconst 1, 1) (pgm 36 rfl)) ic_1 ?_
          refine so_goto (tgt := 65) X (dkX12_doPart (61, .goto 4, 3) (pgm 37 rfl)) rfl ?_
          exact so_pick X [0, 1, 2, 3, 4, 6] rfl (hj65 (1 : Int32) h19)
def pgX12_goesWants : List (Nat × Instr × Nat) := [(0, .iload_n 2, 1), (1, .iload_n 3, 1), (2, .if_icmp .ne 60, 3), (5, .aload_n 0, 1), (6, .iload_n 1, 1), (7, .iload_n 3, 1), (8, .invokevirtual 375, 3), (11, .ifCond .ne 4, 3), (14, .return_, 1), (15, .iconst 0, 1), (16, .istore 5, 2), (18, .iload 5, 2), (20, .iload_n 3, 1), (21, .if_icmp .ge 30, 3), (24, .aload_n 0, 1), (25, .getfield 378, 3), (28, .ifCond .ne 23, 3), (31, .aload_n 0, 1), (32, .getfield 64, 3), (35, .iload 5, 2), (37, .aload_n 0, 1), (38, .getfield 61, 3), (41, .iload 5, 2), (43, .iaload, 1), (44, .iastore, 1), (45, .iinc 5 1, 3), (48, .goto (-30), 3), (51, .aload_n 0, 1), (52, .dup, 1), (53, .getfield 378, 3), (56, .iconst 1, 1), (57, .iadd, 1), (58, .putfield 378, 3), (61, .return_, 1), (62, .iload 4, 2), (64, .istore 5, 2), (66, .iload 5, 2), (68, .iconst 2, 1), (69, .aload_n 0, 1), (70, .invokevirtual 249, 3), (73, .imul, 1), (74, .if_icmp .ge 54, 3), (77, .iload_n 2, 1), (78, .ifCond .le 23, 3), (81, .iload 5, 2), (83, .iconst 2, 1), (84, .idiv, 1), (85, .aload_n 0, 1), (86, .getfield 61, 3), (89, .iload_n 2, 1), (90, .iconst 1, 1), (91, .isub, 1), (92, .iaload, 1), (93, .iconst 2, 1), (94, .idiv, 1), (95, .if_icmp .ne 6, 3), (98, .goto 24, 3), (101, .aload_n 0, 1), (102, .getfield 61, 3), (105, .iload_n 2, 1), (106, .iload 5, 2), (108, .iastore, 1), (109, .aload_n 0, 1), (110, .iload_n 1, 1), (111, .iload_n 2, 1), (112, .iconst 1, 1), (113, .iadd, 1), (114, .iload_n 3, 1), (115, .iload 5, 2), (117, .iconst 1, 1), (118, .iadd, 1), (119, .invokevirtual 381, 3), (122, .iinc 5 1, 3), (125, .goto (-59), 3), (128, .return_, 1)]
theorem dkX12_goesWants : ∀ q ∈ pgX12_goesWants, decode cX12_goesWants q.1 = .ok q.2 := by decide +kernel
def b_X12_goesWants_66 (this : Nat) (a1 : Int32) (a2 : Int32) (a3 : Int32) (fr : Nat → Int32 → Int32 → Int32 → Int32 → PH → Option (Unit × PH)) (rec66 : (Int32) → PH → Option (Unit × PH)) (s66 : Int32) (hh66 : PH) : Option (Unit × PH) :=
  cb (f_X12_cells this hh66) (fun (r2 : Int32) (h3 : PH) => if ((2 : Int32) * r2) ≤ s66 then (some ((), h3)) else (lt (fun (h4 : PH) => lt (s66 + Int32.ofInt 1) (fun (x5 : Int32) => rec66 x5 h4)) (fun (j122 : PH → Option (Unit × PH)) => lt (fun (h6 : PH) => stI h6 (rt this 27) 3 a2 s66 (fun (h7 : PH) => cb (fr this a1 (a2 + (1 : Int32)) a3 (s66 + (1 : Int32)) h7) (fun (r8 : Unit) (h9 : PH) => j122 h9))) (fun (j101 : PH → Option (Unit × PH)) => if a2 ≤ 0 then (j101 h3) else (nz (2 : Int32) (ldI h3 (rt this 27) 3 (a2 - (1 : Int32)) (fun (x10 : Int32) => nz (2 : Int32) (if (s66 / (2 : Int32)) = (x10 / (2 : Int32)) then (j122 h3) else (j101 h3)))))))))
def b_X12_goesWants_18 (this : Nat) (a3 : Int32) (j51 : PH → Option (Unit × PH)) (rec18 : (Int32) → PH → Option (Unit × PH)) (s18 : Int32) (hh18 : PH) : Option (Unit × PH) :=
  if a3 ≤ s18 then (j51 hh18) else (if (hh18.1 this 29) = 0 then (ldI hh18 (rt this 27) 3 s18 (fun (x16 : Int32) => stI hh18 (rt this 28) 3 s18 x16 (fun (h17 : PH) => lt (s18 + Int32.ofInt 1) (fun (x18 : Int32) => rec18 x18 h17)))) else (j51 hh18))
def g_X12_goesWants (fr : Nat → Int32 → Int32 → Int32 → Int32 → PH → Option (Unit × PH)) (this : Nat) (a1 : Int32) (a2 : Int32) (a3 : Int32) (a4 : Int32) (h0 : PH) : Option (Unit × PH) :=
  if a2 = a3 then (cb (f_X12_doPart this a1 a3 h0) (fun (r11 : Int32) (h12 : PH) => if r11 = 0 then (some ((), h12)) else (lt (0 : Int32) (fun (x13 : Int32) => lt (fun (h14 : PH) => lt (pI h14 this 29 ((h14.1 this 29) + (1 : Int32))) (fun (h15 : PH) => some ((), h15))) (fun (j51 : PH → Option (Unit × PH)) => lp (b_X12_goesWants_18 this a3 j51) FU x13 h12))))) else (lt a4 (fun (x1 : Int32) => lp (b_X12_goesWants_66 this a1 a2 a3 fr) FU x1 h0))
def f_X12_goesWants : Nat → Nat → Int32 → Int32 → Int32 → Int32 → PH → Option (Unit × PH)
  | 0 => fun _ _ _ _ _ _ => none
  | dd + 1 => g_X12_goesWants (f_X12_goesWants dd)
set_option maxRecDepth 100000 in
set_option maxHeartbeats 4000000 in
theorem cg_X12_goesWants (l : Launch) (dd : Nat) (fr : Nat → Int32 → Int32 → Int32 → Int32 → PH → Option (Unit × PH)) (hfr : ∀ (this : Nat) (a1 : Int32) (a2 : Int32) (a3 : Int32) (a4 : Int32) (h0 : PH) (hk : (kd this).1 = 12), CT mkV l yX12_goesWants cX12_goesWants 6 none (rmd (dd + 1)) [.ref this, .int a1, .int a2, .int a3, .int a4] h0 (fr this a1 a2 a3 a4 h0)) (this : Nat) (a1 : Int32) (a2 : Int32) (a3 : Int32) (a4 : Int32) (h0 : PH) (hk : (kd this).1 = 12) : CT mkV l yX12_goesWants cX12_goesWants 6 none (rmd (dd + 2)) [.ref this, .int a1, .int a2, .int a3, .int a4] h0 (g_X12_goesWants fr this a1 a2 a3 a4 h0) := by
  refine ct_of (by decide) (Nat.le_of_ble_eq_true rfl) ?_
  intro p e s m args below meth c D cA ad A X hr hlk
  have X : Cx p s m args c RX12 cX12_goesWants 6 D cA ad A := X
  unfold g_X12_goesWants
  refine so_pick (L' := [(0, .ref this), (1, .int a1), (2, .int a2), (3, .int a3), (4, .int a4)]) X [0, 1, 2, 3, 4] rfl ?_
  refine so_iload_n (i := 2) X 2 (dkX12_goesWants (0, .iload_n 2, 1) (pgm 0 rfl)) rfl rfl ?_
  refine so_iload_n (i := 3) X 3 (dkX12_goesWants (1, .iload_n 3, 1) (pgm 1 rfl)) rfl rfl ?_
  refine so_icmp_ne (tgt := 62) X (dkX12_goesWants (2, .if_icmp .ne 60, 3) (pgm 2 rfl)) rfl (fun _ => ?_) (fun _ => ?_)
  · refine so_iload (i := 4) X 4 (dkX12_goesWants (62, .iload 4, 2) (pgm 34 rfl)) rfl ?_
    refine so_istore (i := 5) X (dkX12_goesWants (64, .istore 5, 2) (pgm 35 rfl)) (by decide) (Lf := fun x1 => [(5, .int x1), (0, .ref this), (1, .int a1), (2, .int a2), (3, .int a3), (4, .int a4)]) (fun _ => rfl) (fun x1 => ?_)
    refine so_pick (L' := [(0, .ref this), (1, .int a1), (2, .int a2), (3, .int a3), (5, .int x1)]) X [1, 2, 3, 4, 0] rfl ?_
    refine so_loop (body := b_X12_goesWants_66 this a1 a2 a3 fr) (fun (s66 : Int32) => [(0, .ref this), (1, .int a1), (2, .int a2), (3, .int a3), (5, .int s66)]) (fun rec66 hrec66 s66 hh66 => ?_) FU x1 h0
    unfold b_X12_goesWants_66
    refine so_iload (i := 5) X 4 (dkX12_goesWants (66, .iload 5, 2) (pgm 36 rfl)) rfl ?_
    refine so_iconst (v := (2 : Int32)) X (dkX12_goesWants (68, .iconst 2, 1) (pgm 37 rfl)) ic_2 ?_
    refine so_aload_n (i := 0) X 0 (dkX12_goesWants (69, .aload_n 0, 1) (pgm 38 rfl)) rfl rfl ?_
    refine so_callV (n := 0) (As := []) X (ct_X12_cells l this hh66 hk) hk (by decide) rfl lk_1668 lk_1670 lk_57 lk_134 lk_1671 (by decide +kernel) rfl rfl rfl (rm_ok (by omega) (by decide)) ⟨Nat.zero_le _, Nat.zero_le _⟩ (Nat.le_of_ble_eq_true rfl) (dkX12_goesWants (70, .invokevirtual 249, 3) (pgm 39 rfl)) (fun r2 h3 => ?_) rfl
    refine so_imul X (dkX12_goesWants (73, .imul, 1) (pgm 40 rfl)) ?_
    refine so_icmp_ge (tgt := 128) X (dkX12_goesWants (74, .if_icmp .ge 54, 3) (pgm 41 rfl)) rfl (fun _ => ?_) (fun _ => ?_)
    · exact so_vret X hr hlk (dkX12_goesWants (128, .return_, 1) (pgm 74 rfl))
    · refine so_iload_n (i := 2) X 2 (dkX12_goesWants (77, .iload_n 2, 1) (pgm 42 rfl)) rfl rfl ?_
      refine so_join (jf := fun (h4 : PH) => lt (s66 + Int32.ofInt 1) (fun (x5 : Int32) => rec66 x5 h4)) (fun (j : PH → Option (Unit × PH)) => ∀  (h4 : PH), SWo (QM mkV below args s D cA ad A) p l e (rmd (dd + 2)) s m args below meth c 0 0 6 D cA ad A 122 [(0, .ref this), (1, .int a1), (2, .int a2), (3, .int a3), (5, .int s66)] [] h4 (j h4)) ?_ (fun j122 hj122 => ?_)
      · intro h4
        refine so_iinc (i := 5) X 4 (dkX12_goesWants (122, .iinc 5 1, 3) (pgm 72 rfl)) rfl rfl (by decide) (Lf := fun x5 => [(5, .int x5), (0, .ref this), (1, .int a1), (2, .int a2), (3, .int a3)]) (fun _ => rfl) (fun x5 => ?_)
        refine so_goto (tgt := 66) X (dkX12_goesWants (125, .goto (-59), 3) (pgm 73 rfl)) rfl ?_
        exact so_pick X [1, 2, 3, 4, 0] rfl (hrec66 x5 h4)
      refine so_join (jf := fun (h6 : PH) => stI h6 (rt this 27) 3 a2 s66 (fun (h7 : PH) => cb (fr this a1 (a2 + (1 : Int32)) a3 (s66 + (1 : Int32)) h7) (fun (r8 : Unit) (h9 : PH) => j122 h9))) (fun (j : PH → Option (Unit × PH)) => ∀  (h6 : PH), SWo (QM mkV below args s D cA ad A) p l e (rmd (dd + 2)) s m args below meth c 0 0 6 D cA ad A 101 [(0, .ref this), (1, .int a1), (2, .int a2), (3, .int a3), (5, .int s66)] [] h6 (j h6)) ?_ (fun j101 hj101 => ?_)
      · intro h6
        refine so_aload_n (i := 0) X 0 (dkX12_goesWants (101, .aload_n 0, 1) (pgm 57 rfl)) rfl rfl ?_
        refine sf_getR X ff_12_27 lk_1729 hk (dkX12_goesWants (102, .getfield 61, 3) (pgm 58 rfl)) ?_
        refine so_iload_n (i := 2) X 2 (dkX12_goesWants (105, .iload_n 2, 1) (pgm 59 rfl)) rfl rfl ?_
        refine so_iload (i := 5) X 4 (dkX12_goesWants (106, .iload 5, 2) (pgm 60 rfl)) rfl ?_
        refine so_iast X (rk_12_27 this hk) (dkX12_goesWants (108, .iastore, 1) (pgm 61 rfl)) (fun h7 => ?_)
        refine so_aload_n (i := 0) X 0 (dkX12_goesWants (109, .aload_n 0, 1) (pgm 62 rfl)) rfl rfl ?_
        refine so_iload_n (i := 1) X 1 (dkX12_goesWants (110, .iload_n 1, 1) (pgm 63 rfl)) rfl rfl ?_
        refine so_iload_n (i := 2) X 2 (dkX12_goesWants (111, .iload_n 2, 1) (pgm 64 rfl)) rfl rfl ?_
        refine so_iconst (v := (1 : Int32)) X (dkX12_goesWants (112, .iconst 1, 1) (pgm 65 rfl)) ic_1 ?_
        refine so_iadd X (dkX12_goesWants (113, .iadd, 1) (pgm 66 rfl)) ?_
        refine so_iload_n (i := 3) X 3 (dkX12_goesWants (114, .iload_n 3, 1) (pgm 67 rfl)) rfl rfl ?_
        refine so_iload (i := 5) X 4 (dkX12_goesWants (115, .iload 5, 2) (pgm 68 rfl)) rfl ?_
        refine so_iconst (v := (1 : Int32)) X (dkX12_goesWants (117, .iconst 1, 1) (pgm 69 rfl)) ic_1 ?_
        refine so_iadd X (dkX12_goesWants (118, .iadd, 1) (pgm 70 rfl)) ?_
        refine so_callV (n := 4) (As := [.int a1, .int (a2 + (1 : Int32)), .int a3, .int (s66 + (1 : Int32))]) X (hfr this a1 (a2 + (1 : Int32)) a3 (s66 + (1 : Int32)) h7 hk) hk (by decide) rfl lk_2139 lk_2141 lk_104 lk_134 lk_2142 (by decide +kernel) rfl rfl rfl (rm_ok (by omega) (by decide)) ⟨Nat.zero_le _, Nat.zero_le _⟩ (Nat.le_of_ble_eq_true rfl) (dkX12_goesWants (119, .invokevirtual 381, 3) (pgm 71 rfl)) (fun r8 h9 => ?_) rfl
        exact so_pick X [0, 1, 2, 3, 4] rfl (hj122 h9)
      refine so_if_le (tgt := 101) X (dkX12_goesWants (78, .ifCond .le 23, 3) (pgm 43 rfl)) rfl (fun _ => ?_) (fun _ => ?_)
      · exact so_pick X [0, 1, 2, 3, 4] rfl (hj101 h3)
      · refine so_iload (i := 5) X 4 (dkX12_goesWants (81, .iload 5, 2) (pgm 44 rfl)) rfl ?_
        refine so_iconst (v := (2 : Int32)) X (dkX12_goesWants (83, .iconst 2, 1) (pgm 45 rfl)) ic_2 ?_
        refine so_idiv X (dkX12_goesWants (84, .idiv, 1) (pgm 46 rfl)) (fun _ => ?_)
        refine so_aload_n (i := 0) X 0 (dkX12_goesWants (85, .aload_n 0, 1) (pgm 47 rfl)) rfl rfl ?_
        refine sf_getR X ff_12_27 lk_1729 hk (dkX12_goesWants (86, .getfield 61, 3) (pgm 48 rfl)) ?_
        refine so_iload_n (i := 2) X 2 (dkX12_goesWants (89, .iload_n 2, 1) (pgm 49 rfl)) rfl rfl ?_
        refine so_iconst (v := (1 : Int32)) X (dkX12_goesWants (90, .iconst 1, 1) (pgm 50 rfl)) ic_1 ?_
        refine so_isub X (dkX12_goesWants (91, .isub, 1) (pgm 51 rfl)) ?_
        refine so_iald X (rk_12_27 this hk) (dkX12_goesWants (92, .iaload, 1) (pgm 52 rfl)) (fun x10 => ?_)
        refine so_iconst (v := (2 : Int32)) X (dkX12_goesWants (93, .iconst 2, 1) (pgm 53 rfl)) ic_2 ?_
        refine so_idiv X (dkX12_goesWants (94, .idiv, 1) (pgm 54 rfl)) (fun _ => ?_)
        refine so_icmp_ne (tgt := 101) X (dkX12_goesWants (95, .if_icmp .ne 6, 3) (pgm 55 rfl)) rfl (fun _ => ?_) (fun _ => ?_)
        · exact so_pick X [0, 1, 2, 3, 4] rfl (hj101 h3)
        · refine so_goto (tgt := 122) X (dkX12_goesWants (98, .goto 24, 3) (pgm 56 rfl)) rfl ?_
          exact so_pick X [0, 1, 2, 3, 4] rfl (hj122 h3)
  · refine so_aload_n (i := 0) X 0 (dkX12_goesWants (5, .aload_n 0, 1) (pgm 3 rfl)) rfl rfl ?_
    refine so_iload_n (i := 1) X 1 (dkX12_goesWants (6, .iload_n 1, 1) (pgm 4 rfl)) rfl rfl ?_
    refine so_iload_n (i := 3) X 3 (dkX12_goesWants (7, .iload_n 3, 1) (pgm 5 rfl)) rfl rfl ?_
    refine so_callV (n := 2) (As := [.int a1, .int a3]) X (ct_X12_doPart l this a1 a3 h0 hk) hk (by decide) rfl lk_2143 lk_2145 lk_105 lk_134 lk_2146 (by decide +kernel) rfl rfl rfl (rm_ok (by omega) (by decide)) ⟨Nat.zero_le _, Nat.zero_le _⟩ (Nat.le_of_ble_eq_true rfl) (dkX12_goesWants (8, .invokevirtual 375, 3) (pgm 6 rfl)) (fun r11 h12 => ?_) rfl
    refine so_if_ne (tgt := 15) X (dkX12_goesWants (11, .ifCond .ne 4, 3) (pgm 7 rfl)) rfl (fun _ => ?_) (fun _ => ?_)
    · refine so_iconst (v := (0 : Int32)) X (dkX12_goesWants (15, .iconst 0, 1) (pgm 9 rfl)) ic_0 ?_
      refine so_istore (i := 5) X (dkX12_goesWants (16, .istore 5, 2) (pgm 10 rfl)) (by decide) (Lf := fun x13 => [(5, .int x13), (0, .ref this), (1, .int a1), (2, .int a2), (3, .int a3), (4, .int a4)]) (fun _ => rfl) (fun x13 => ?_)
      refine so_join (jf := fun (h14 : PH) => lt (pI h14 this 29 ((h14.1 this 29) + (1 : Int32))) (fun (h15 : PH) => some ((), h15))) (fun (j : PH → Option (Unit × PH)) => ∀  (h14 : PH), SWo (QM mkV below args s D cA ad A) p l e (rmd (dd + 2)) s m args below meth c 0 0 6 D cA ad A 51 [(0, .ref this)] [] h14 (j h14)) ?_ (fun j51 hj51 => ?_)
      · intro h14
        refine so_aload_n (i := 0) X 0 (dkX12_goesWants (51, .aload_n 0, 1) (pgm 27 rfl)) rfl rfl ?_
        refine so_dup X (dkX12_goesWants (52, .dup, 1) (pgm 28 rfl)) rfl ?_
        refine sf_getI X ff_12_29 lk_1731 hk (dkX12_goesWants (53, .getfield 378, 3) (pgm 29 rfl)) ?_
        refine so_iconst (v := (1 : Int32)) X (dkX12_goesWants (56, .iconst 1, 1) (pgm 30 rfl)) ic_1 ?_
        refine so_iadd X (dkX12_goesWants (57, .iadd, 1) (pgm 31 rfl)) ?_
        refine sf_putI X ff_12_29 ft_12 rfl lk_1731 hk rfl rfl (dkX12_goesWants (58, .putfield 378, 3) (pgm 32 rfl)) (fun h15 => ?_)
        exact so_vret X hr hlk (dkX12_goesWants (61, .return_, 1) (pgm 33 rfl))
      refine so_pick (L' := [(0, .ref this), (3, .int a3), (5, .int x13)]) X [1, 4, 0] rfl ?_
      refine so_loop (body := b_X12_goesWants_18 this a3 j51) (fun (s18 : Int32) => [(0, .ref this), (3, .int a3), (5, .int s18)]) (fun rec18 hrec18 s18 hh18 => ?_) FU x13 h12
      unfold b_X12_goesWants_18
      refine so_iload (i := 5) X 2 (dkX12_goesWants (18, .iload 5, 2) (pgm 11 rfl)) rfl ?_
      refine so_iload_n (i := 3) X 1 (dkX12_goesWants (20, .iload_n 3, 1) (pgm 12 rfl)) rfl rfl ?_
      refine so_icmp_ge (tgt := 51) X (dkX12_goesWants (21, .if_icmp .ge 30, 3) (pgm 13 rfl)) rfl (fun _ => ?_) (fun _ => ?_)
      · exact so_pick X [0] rfl (hj51 hh18)
      · refine so_aload_n (i := 0) X 0 (dkX12_goesWants (24, .aload_n 0, 1) (pgm 14 rfl)) rfl rfl ?_
        refine sf_getI X ff_12_29 lk_1731 hk (dkX12_goesWants (25, .getfield 378, 3) (pgm 15 rfl)) ?_
        refine so_if_ne (tgt := 51) X (dkX12_goesWants (28, .ifCond .ne 23, 3) (pgm 16 rfl)) rfl (fun _ => ?_) (fun _ => ?_)
        · exact so_pick X [0] rfl (hj51 hh18)
        · refine so_aload_n (i := 0) X 0 (dkX12_goesWants (31, .aload_n 0, 1) (pgm 17 rfl)) rfl rfl ?_
          refine sf_getR X ff_12_28 lk_1730 hk (dkX12_goesWants (32, .getfield 64, 3) (pgm 18 rfl)) ?_
          refine so_iload (i := 5) X 2 (dkX12_goesWants (35, .iload 5, 2) (pgm 19 rfl)) rfl ?_
          refine so_aload_n (i := 0) X 0 (dkX12_goesWants (37, .aload_n 0, 1) (pgm 20 rfl)) rfl rfl ?_
          refine sf_getR X ff_12_27 lk_1729 hk (dkX12_goesWants (38, .getfield 61, 3) (pgm 21 rfl)) ?_
          refine so_iload (i := 5) X 2 (dkX12_goesWants (41, .iload 5, 2) (pgm 22 rfl)) rfl ?_
          refine so_iald X (rk_12_27 this hk) (dkX12_goesWants (43, .iaload, 1) (pgm 23 rfl)) (fun x16 => ?_)
          refine so_iast X (rk_12_28 this hk) (dkX12_goesWants (44, .iastore, 1) (pgm 24 rfl)) (fun h17 => ?_)
          refine so_iinc (i := 5) X 2 (dkX12_goesWants (45, .iinc 5 1, 3) (pgm 25 rfl)) rfl rfl (by decide) (Lf := fun x18 => [(5, .int x18), (0, .ref this), (3, .int a3)]) (fun _ => rfl) (fun x18 => ?_)
          refine so_goto (tgt := 18) X (dkX12_goesWants (48, .goto (-30), 3) (pgm 26 rfl)) rfl ?_
          exact so_pick X [1, 2, 0] rfl (hrec18 x18 h17)
    · exact so_vret X hr hlk (dkX12_goesWants (14, .return_, 1) (pgm 8 rfl))
theorem ct_X12_goesWants (l : Launch) : ∀ (dd : Nat) (this : Nat) (a1 : Int32) (a2 : Int32) (a3 : Int32) (a4 : Int32) (h0 : PH) (hk : (kd this).1 = 12), CT mkV l yX12_goesWants cX12_goesWants 6 none (rmd (dd + 1)) [.ref this, .int a1, .int a2, .int a3, .int a4] h0 (f_X12_goesWants dd this a1 a2 a3 a4 h0)
  | 0 => fun _ _ _ _ _ _ _ => by intro _ _ _ _ _ _ _ e1; cases e1
  | dd + 1 => fun this a1 a2 a3 a4 h0 hk => by
    have e9 : dd + 1 + 1 = dd + 2 := by omega
    rw [e9]
    exact cg_X12_goesWants l dd (f_X12_goesWants dd) (ct_X12_goesWants l dd) this a1 a2 a3 a4 h0 hk
def pgX12_laysReading : List (Nat × Instr × Nat) := [(0, .iconst 0, 1), (1, .istore_n 2, 1), (2, .iload_n 2, 1), (3, .bipush 64, 2), (5, .if_icmp .ge 24, 3), (8, .aload_n 0, 1), (9, .getfield 67, 3), (12, .bipush 64, 2), (14, .aload_n 0, 1), (15, .getfield 395, 3), (18, .imul, 1), (19, .iload_n 2, 1), (20, .iadd, 1), (21, .lconst 0, 1), (22, .lastore, 1), (23, .iinc 2 1, 3), (26, .goto (-24), 3), (29, .iconst 0, 1), (30, .istore_n 2, 1), (31, .iload_n 2, 1), (32, .aload_n 0, 1), (33, .invokevirtual 252, 3), (36, .if_icmp .gt 43, 3), (39, .iload_n 1, 1), (40, .iload_n 2, 1), (41, .invokestatic 372, 3), (44, .ifCond .eq 29, 3), (47, .aload_n 0, 1), (48, .getfield 67, 3), (51, .bipush 64, 2), (53, .aload_n 0, 1), (54, .getfield 395, 3), (57, .imul, 1), (58, .iload_n 2, 1), (59, .bipush 64, 2), (61, .idiv, 1), (62, .iadd, 1), (63, .dup2, 1), (64, .laload, 1), (65, .lconst 1, 1), (66, .iload_n 2, 1), (67, .bipush 64, 2), (69, .irem, 1), (70, .lshl, 1), (71, .lor, 1), (72, .lastore, 1), (73, .iinc 2 1, 3), (76, .goto (-45), 3), (79, .aload_n 0, 1), (80, .dup, 1), (81, .getfield 395, 3), (84, .iconst 1, 1), (85, .iadd, 1), (86, .putfield 395, 3), (89, .return_, 1)]
theorem dkX12_laysReading : ∀ q ∈ pgX12_laysReading, decode cX12_laysReading q.1 = .ok q.2 := by decide +kernel
def b_X12_laysReading_31 (this : Nat) (a1 : Int32) (rec31 : (Int32) → PH → Option (Unit × PH)) (s31 : Int32) (hh31 : PH) : Option (Unit × PH) :=
  cb (f_X12_everywhere this hh31) (fun (r4 : Int32) (h5 : PH) => if r4 < s31 then (lt (pI h5 this 33 ((h5.1 this 33) + (1 : Int32))) (fun (h6 : PH) => some ((), h6))) else (cb (f_X12_isSo a1 s31 h5) (fun (r7 : Int32) (h8 : PH) => lt (fun (h9 : PH) => lt (s31 + Int32.ofInt 1) (fun (x10 : Int32) => rec31 x10 h9)) (fun (j73 : PH → Option (Unit × PH)) => if r7 = 0 then (j73 h8) else (nz (64 : Int32) (ldL h8 (rt this 30) 2496 (((64 : Int32) * (h8.1 this 33)) + (s31 / (64 : Int32))) (fun (x11 : Int64) => nz (64 : Int32) (stL h8 (rt this 30) 2496 (((64 : Int32) * (h8.1 this 33)) + (s31 / (64 : Int32))) (x11 ||| ((1 : Int64) <<< ((s31 - s31 / (64 : Int32) * (64 : Int32)).toInt64 &&& 63))) (fun (h12 : PH) => j73 h12)))))))))
def b_X12_laysReading_2 (this : Nat) (j29 : PH → Option (Unit × PH)) (rec2 : (Int32) → PH → Option (Unit × PH)) (s2 : Int32) (hh2 : PH) : Option (Unit × PH) :=
  if (64 : Int32) ≤ s2 then (j29 hh2) else (stL hh2 (rt this 30) 2496 (((64 : Int32) * (hh2.1 this 33)) + s2) (0 : Int64) (fun (h13 : PH) => lt (s2 + Int32.ofInt 1) (fun (x14 : Int32) => rec2 x14 h13)))
def f_X12_laysReading (this : Nat) (a1 : Int32) (h0 : PH) : Option (Unit × PH) :=
  lt (0 : Int32) (fun (x1 : Int32) => lt (fun (h2 : PH) => lt (0 : Int32) (fun (x3 : Int32) => lp (b_X12_laysReading_31 this a1) FU x3 h2)) (fun (j29 : PH → Option (Unit × PH)) => lp (b_X12_laysReading_2 this j29) FU x1 h0))
set_option maxRecDepth 100000 in
set_option maxHeartbeats 4000000 in
theorem ct_X12_laysReading (l : Launch) (this : Nat) (a1 : Int32) (h0 : PH) (hk : (kd this).1 = 12) : CT mkV l yX12_laysReading cX12_laysReading 3 none (rmd 2) [.ref this, .int a1] h0 (f_X12_laysReading this a1 h0) := by
  refine ct_of (by decide) (Nat.le_of_ble_eq_true rfl) ?_
  intro p e s m args below meth c D cA ad A X hr hlk
  have X : Cx p s m args c RX12 cX12_laysReading 3 D cA ad A := X
  unfold f_X12_laysReading
  refine so_pick (L' := [(0, .ref this), (1, .int a1)]) X [0, 1] rfl ?_
  refine so_iconst (v := (0 : Int32)) X (dkX12_laysReading (0, .iconst 0, 1) (pgm 0 rfl)) ic_0 ?_
  refine so_istore_n (i := 2) X (dkX12_laysReading (1, .istore_n 2, 1) (pgm 1 rfl)) rfl (by decide) (Lf := fun x1 => [(2, .int x1), (0, .ref this), (1, .int a1)]) (fun _ => rfl) (fun x1 => ?_)
  refine so_join (jf := fun (h2 : PH) => lt (0 : Int32) (fun (x3 : Int32) => lp (b_X12_laysReading_31 this a1) FU x3 h2)) (fun (j : PH → Option (Unit × PH)) => ∀  (h2 : PH), SWo (QM mkV below args s D cA ad A) p l e (rmd 2) s m args below meth c 0 0 3 D cA ad A 29 [(0, .ref this), (1, .int a1)] [] h2 (j h2)) ?_ (fun j29 hj29 => ?_)
  · intro h2
    refine so_iconst (v := (0 : Int32)) X (dkX12_laysReading (29, .iconst 0, 1) (pgm 17 rfl)) ic_0 ?_
    refine so_istore_n (i := 2) X (dkX12_laysReading (30, .istore_n 2, 1) (pgm 18 rfl)) rfl (by decide) (Lf := fun x3 => [(2, .int x3), (0, .ref this), (1, .int a1)]) (fun _ => rfl) (fun x3 => ?_)
    refine so_pick (L' := [(0, .ref this), (1, .int a1), (2, .int x3)]) X [1, 2, 0] rfl ?_
    refine so_loop (body := b_X12_laysReading_31 this a1) (fun (s31 : Int32) => [(0, .ref this), (1, .int a1), (2, .int s31)]) (fun rec31 hrec31 s31 hh31 => ?_) FU x3 h2
    unfold b_X12_laysReading_31
    refine so_iload_n (i := 2) X 2 (dkX12_laysReading (31, .iload_n 2, 1) (pgm 19 rfl)) rfl rfl ?_
    refine so_aload_n (i := 0) X 0 (dkX12_laysReading (32, .aload_n 0, 1) (pgm 20 rfl)) rfl rfl ?_
    refine so_callV (n := 0) (As := []) X (ct_X12_everywhere l this hh31 hk) hk (by decide) rfl lk_1664 lk_1666 lk_56 lk_134 lk_1667 (by decide +kernel) rfl rfl rfl (rm_ok (by omega) (by decide)) ⟨Nat.zero_le _, Nat.zero_le _⟩ (Nat.le_of_ble_eq_true rfl) (dkX12_laysReading (33, .invokevirtual 252, 3) (pgm 21 rfl)) (fun r4 h5 => ?_) rfl
    refine so_icmp_gt (tgt := 79) X (dkX12_laysReading (36, .if_icmp .gt 43, 3) (pgm 22 rfl)) rfl (fun _ => ?_) (fun _ => ?_)
    · refine so_aload_n (i := 0) X 0 (dkX12_laysReading (79, .aload_n 0, 1) (pgm 48 rfl)) rfl rfl ?_
      refine so_dup X (dkX12_laysReading (80, .dup, 1) (pgm 49 rfl)) rfl ?_
      refine sf_getI X ff_12_33 lk_1735 hk (dkX12_laysReading (81, .getfield 395, 3) (pgm 50 rfl)) ?_
      refine so_iconst (v := (1 : Int32)) X (dkX12_laysReading (84, .iconst 1, 1) (pgm 51 rfl)) ic_1 ?_
      refine so_iadd X (dkX12_laysReading (85, .iadd, 1) (pgm 52 rfl)) ?_
      refine sf_putI X ff_12_33 ft_12 rfl lk_1735 hk rfl rfl (dkX12_laysReading (86, .putfield 395, 3) (pgm 53 rfl)) (fun h6 => ?_)
      exact so_vret X hr hlk (dkX12_laysReading (89, .return_, 1) (pgm 54 rfl))
    · refine so_iload_n (i := 1) X 1 (dkX12_laysReading (39, .iload_n 1, 1) (pgm 23 rfl)) rfl rfl ?_
      refine so_iload_n (i := 2) X 2 (dkX12_laysReading (40, .iload_n 2, 1) (pgm 24 rfl)) rfl rfl ?_
      refine so_callS (n := 2) (As := [.int a1, .int s31]) X (ct_X12_isSo l a1 s31 h5 ) lk_2147 lk_2148 lk_134 lk_2149 (by decide +kernel) rfl rfl rfl (rm_ok (by omega) (by decide)) ⟨Nat.zero_le _, Nat.zero_le _⟩ (Nat.le_of_ble_eq_true rfl) (dkX12_laysReading (41, .invokestatic 372, 3) (pgm 25 rfl)) (fun r7 h8 => ?_) rfl
      refine so_join (jf := fun (h9 : PH) => lt (s31 + Int32.ofInt 1) (fun (x10 : Int32) => rec31 x10 h9)) (fun (j : PH → Option (Unit × PH)) => ∀  (h9 : PH), SWo (QM mkV below args s D cA ad A) p l e (rmd 2) s m args below meth c 0 0 3 D cA ad A 73 [(0, .ref this), (1, .int a1), (2, .int s31)] [] h9 (j h9)) ?_ (fun j73 hj73 => ?_)
      · intro h9
        refine so_iinc (i := 2) X 2 (dkX12_laysReading (73, .iinc 2 1, 3) (pgm 46 rfl)) rfl rfl (by decide) (Lf := fun x10 => [(2, .int x10), (0, .ref this), (1, .int a1)]) (fun _ => rfl) (fun x10 => ?_)
        refine so_goto (tgt := 31) X (dkX12_laysReading (76, .goto (-45), 3) (pgm 47 rfl)) rfl ?_
        exact so_pick X [1, 2, 0] rfl (hrec31 x10 h9)
      refine so_if_eq (tgt := 73) X (dkX12_laysReading (44, .ifCond .eq 29, 3) (pgm 26 rfl)) rfl (fun _ => ?_) (fun _ => ?_)
      · exact so_pick X [0, 1, 2] rfl (hj73 h8)
      · refine so_aload_n (i := 0) X 0 (dkX12_laysReading (47, .aload_n 0, 1) (pgm 27 rfl)) rfl rfl ?_
        refine sf_getR X ff_12_30 lk_1732 hk (dkX12_laysReading (48, .getfield 67, 3) (pgm 28 rfl)) ?_
        refine so_bipush (v := (64 : Int32)) X (dkX12_laysReading (51, .bipush 64, 2) (pgm 29 rfl)) bp_64 ?_
        refine so_aload_n (i := 0) X 0 (dkX12_laysReading (53, .aload_n 0, 1) (pgm 30 rfl)) rfl rfl ?_
        refine sf_getI X ff_12_33 lk_1735 hk (dkX12_laysReading (54, .getfield 395, 3) (pgm 31 rfl)) ?_
        refine so_imul X (dkX12_laysReading (57, .imul, 1) (pgm 32 rfl)) ?_
        refine so_iload_n (i := 2) X 2 (dkX12_laysReading (58, .iload_n 2, 1) (pgm 33 rfl)) rfl rfl ?_
        refine so_bipush (v := (64 : Int32)) X (dkX12_laysReading (59, .bipush 64, 2) (pgm 34 rfl)) bp_64 ?_
        refine so_idiv X (dkX12_laysReading (61, .idiv, 1) (pgm 35 rfl)) (fun _ => ?_)
        refine so_iadd X (dkX12_laysReading (62, .iadd, 1) (pgm 36 rfl)) ?_
        refine so_dup2 X (dkX12_laysReading (63, .dup2, 1) (pgm 37 rfl)) rfl rfl ?_
        refine so_lald X (rk_12_30 this hk) (dkX12_laysReading (64, .laload, 1) (pgm 38 rfl)) (fun x11 => ?_)
        refine so_lconst (v := (1 : Int64)) X (dkX12_laysReading (65, .lconst 1, 1) (pgm 39 rfl)) lc_1 ?_
        refine so_iload_n (i := 2) X 2 (dkX12_laysReading (66, .iload_n 2, 1) (pgm 40 rfl)) rfl rfl ?_
        refine so_bipush (v := (64 : Int32)) X (dkX12_laysReading (67, .bipush 64, 2) (pgm 41 rfl)) bp_64 ?_
        refine so_irem X (dkX12_laysReading (69, .irem, 1) (pgm 42 rfl)) (fun _ => ?_)
        refine so_lshl X (dkX12_laysReading (70, .lshl, 1) (pgm 43 rfl)) ?_
        refine so_lor X (dkX12_laysReading (71, .lor, 1) (pgm 44 rfl)) ?_
        refine so_last X (rk_12_30 this hk) (dkX12_laysReading (72, .lastore, 1) (pgm 45 rfl)) (fun h12 => ?_)
        exact so_pick X [0, 1, 2] rfl (hj73 h12)
  refine so_pick (L' := [(0, .ref this), (1, .int a1), (2, .int x1)]) X [1, 2, 0] rfl ?_
  refine so_loop (body := b_X12_laysReading_2 this j29) (fun (s2 : Int32) => [(0, .ref this), (1, .int a1), (2, .int s2)]) (fun rec2 hrec2 s2 hh2 => ?_) FU x1 h0
  unfold b_X12_laysReading_2
  refine so_iload_n (i := 2) X 2 (dkX12_laysReading (2, .iload_n 2, 1) (pgm 2 rfl)) rfl rfl ?_
  refine so_bipush (v := (64 : Int32)) X (dkX12_laysReading (3, .bipush 64, 2) (pgm 3 rfl)) bp_64 ?_
  refine so_icmp_ge (tgt := 29) X (dkX12_laysReading (5, .if_icmp .ge 24, 3) (pgm 4 rfl)) rfl (fun _ => ?_) (fun _ => ?_)
  · exact so_pick X [0, 1] rfl (hj29 hh2)
  · refine so_aload_n (i := 0) X 0 (dkX12_laysReading (8, .aload_n 0, 1) (pgm 5 rfl)) rfl rfl ?_
    refine sf_getR X ff_12_30 lk_1732 hk (dkX12_laysReading (9, .getfield 67, 3) (pgm 6 rfl)) ?_
    refine so_bipush (v := (64 : Int32)) X (dkX12_laysReading (12, .bipush 64, 2) (pgm 7 rfl)) bp_64 ?_
    refine so_aload_n (i := 0) X 0 (dkX12_laysReading (14, .aload_n 0, 1) (pgm 8 rfl)) rfl rfl ?_
    refine sf_getI X ff_12_33 lk_1735 hk (dkX12_laysReading (15, .getfield 395, 3) (pgm 9 rfl)) ?_
    refine so_imul X (dkX12_laysReading (18, .imul, 1) (pgm 10 rfl)) ?_
    refine so_iload_n (i := 2) X 2 (dkX12_laysReading (19, .iload_n 2, 1) (pgm 11 rfl)) rfl rfl ?_
    refine so_iadd X (dkX12_laysReading (20, .iadd, 1) (pgm 12 rfl)) ?_
    refine so_lconst (v := (0 : Int64)) X (dkX12_laysReading (21, .lconst 0, 1) (pgm 13 rfl)) lc_0 ?_
    refine so_last X (rk_12_30 this hk) (dkX12_laysReading (22, .lastore, 1) (pgm 14 rfl)) (fun h13 => ?_)
    refine so_iinc (i := 2) X 2 (dkX12_laysReading (23, .iinc 2 1, 3) (pgm 15 rfl)) rfl rfl (by decide) (Lf := fun x14 => [(2, .int x14), (0, .ref this), (1, .int a1)]) (fun _ => rfl) (fun x14 => ?_)
    refine so_goto (tgt := 2) X (dkX12_laysReading (26, .goto (-24), 3) (pgm 16 rfl)) rfl ?_
    exact so_pick X [1, 2, 0] rfl (hrec2 x14 h13)
def pgX12_laysPair : List (Nat × Instr × Nat) := [(0, .iconst 0, 1), (1, .istore 4, 2), (3, .iload 4, 2), (5, .bipush 64, 2), (7, .if_icmp .ge 69, 3), (10, .aload_n 0, 1), (11, .getfield 67, 3), (14, .bipush 64, 2), (16, .iload_n 1, 1), (17, .imul, 1), (18, .iload 4, 2), (20, .iadd, 1), (21, .laload, 1), (22, .lstore 5, 2), (24, .aload_n 0, 1), (25, .getfield 67, 3), (28, .bipush 64, 2), (30, .iload_n 2, 1), (31, .imul, 1), (32, .iload 4, 2), (34, .iadd, 1), (35, .laload, 1), (36, .lstore 7, 2), (38, .aload_n 0, 1), (39, .getfield 67, 3), (42, .bipush 64, 2), (44, .aload_n 0, 1), (45, .getfield 395, 3), (48, .imul, 1), (49, .iload 4, 2), (51, .iadd, 1), (52, .iload_n 3, 1), (53, .ifCond .eq 11, 3), (56, .lload 5, 2), (58, .lload 7, 2), (60, .lor, 1), (61, .goto 8, 3), (64, .lload 5, 2), (66, .lload 7, 2), (68, .land, 1), (69, .lastore, 1), (70, .iinc 4 1, 3), (73, .goto (-70), 3), (76, .aload_n 0, 1), (77, .dup, 1), (78, .getfield 395, 3), (81, .iconst 1, 1), (82, .iadd, 1), (83, .putfield 395, 3), (86, .return_, 1)]
theorem dkX12_laysPair : ∀ q ∈ pgX12_laysPair, decode cX12_laysPair q.1 = .ok q.2 := by decide +kernel
def b_X12_laysPair_3 (this : Nat) (a1 : Int32) (a2 : Int32) (a3 : Int32) (rec3 : (Int32) → PH → Option (Unit × PH)) (s3 : Int32) (hh3 : PH) : Option (Unit × PH) :=
  if (64 : Int32) ≤ s3 then (lt (pI hh3 this 33 ((hh3.1 this 33) + (1 : Int32))) (fun (h2 : PH) => some ((), h2))) else (ldL hh3 (rt this 30) 2496 (((64 : Int32) * a1) + s3) (fun (x3 : Int64) => lt x3 (fun (x4 : Int64) => ldL hh3 (rt this 30) 2496 (((64 : Int32) * a2) + s3) (fun (x5 : Int64) => lt x5 (fun (x6 : Int64) => lt (fun (t7 : Int64) (h8 : PH) => stL h8 (rt this 30) 2496 (((64 : Int32) * (hh3.1 this 33)) + s3) t7 (fun (h9 : PH) => lt (s3 + Int32.ofInt 1) (fun (x10 : Int32) => rec3 x10 h9))) (fun (j69 : Int64 → PH → Option (Unit × PH)) => if a3 = 0 then (j69 (x4 &&& x6) hh3) else (j69 (x4 ||| x6) hh3)))))))
def f_X12_laysPair (this : Nat) (a1 : Int32) (a2 : Int32) (a3 : Int32) (h0 : PH) : Option (Unit × PH) :=
  lt (0 : Int32) (fun (x1 : Int32) => lp (b_X12_laysPair_3 this a1 a2 a3) FU x1 h0)
set_option maxRecDepth 100000 in
set_option maxHeartbeats 4000000 in
theorem ct_X12_laysPair (l : Launch) (this : Nat) (a1 : Int32) (a2 : Int32) (a3 : Int32) (h0 : PH) (hk : (kd this).1 = 12) : CT mkV l yX12_laysPair cX12_laysPair 9 none (rmd 0) [.ref this, .int a1, .int a2, .int a3] h0 (f_X12_laysPair this a1 a2 a3 h0) := by
  refine ct_of (by decide) (Nat.le_of_ble_eq_true rfl) ?_
  intro p e s m args below meth c D cA ad A X hr hlk
  have X : Cx p s m args c RX12 cX12_laysPair 9 D cA ad A := X
  unfold f_X12_laysPair
  refine so_pick (L' := [(0, .ref this), (1, .int a1), (2, .int a2), (3, .int a3)]) X [0, 1, 2, 3] rfl ?_
  refine so_iconst (v := (0 : Int32)) X (dkX12_laysPair (0, .iconst 0, 1) (pgm 0 rfl)) ic_0 ?_
  refine so_istore (i := 4) X (dkX12_laysPair (1, .istore 4, 2) (pgm 1 rfl)) (by decide) (Lf := fun x1 => [(4, .int x1), (0, .ref this), (1, .int a1), (2, .int a2), (3, .int a3)]) (fun _ => rfl) (fun x1 => ?_)
  refine so_pick (L' := [(0, .ref this), (1, .int a1), (2, .int a2), (3, .int a3), (4, .int x1)]) X [1, 2, 3, 4, 0] rfl ?_
  refine so_loop (body := b_X12_laysPair_3 this a1 a2 a3) (fun (s3 : Int32) => [(0, .ref this), (1, .int a1), (2, .int a2), (3, .int a3), (4, .int s3)]) (fun rec3 hrec3 s3 hh3 => ?_) FU x1 h0
  unfold b_X12_laysPair_3
  refine so_iload (i := 4) X 4 (dkX12_laysPair (3, .iload 4, 2) (pgm 2 rfl)) rfl ?_
  refine so_bipush (v := (64 : Int32)) X (dkX12_laysPair (5, .bipush 64, 2) (pgm 3 rfl)) bp_64 ?_
  refine so_icmp_ge (tgt := 76) X (dkX12_laysPair (7, .if_icmp .ge 69, 3) (pgm 4 rfl)) rfl (fun _ => ?_) (fun _ => ?_)
  · refine so_aload_n (i := 0) X 0 (dkX12_laysPair (76, .aload_n 0, 1) (pgm 43 rfl)) rfl rfl ?_
    refine so_dup X (dkX12_laysPair (77, .dup, 1) (pgm 44 rfl)) rfl ?_
    refine sf_getI X ff_12_33 lk_1735 hk (dkX12_laysPair (78, .getfield 395, 3) (pgm 45 rfl)) ?_
    refine so_iconst (v := (1 : Int32)) X (dkX12_laysPair (81, .iconst 1, 1) (pgm 46 rfl)) ic_1 ?_
    refine so_iadd X (dkX12_laysPair (82, .iadd, 1) (pgm 47 rfl)) ?_
    refine sf_putI X ff_12_33 ft_12 rfl lk_1735 hk rfl rfl (dkX12_laysPair (83, .putfield 395, 3) (pgm 48 rfl)) (fun h2 => ?_)
    exact so_vret X hr hlk (dkX12_laysPair (86, .return_, 1) (pgm 49 rfl))
  · refine so_aload_n (i := 0) X 0 (dkX12_laysPair (10, .aload_n 0, 1) (pgm 5 rfl)) rfl rfl ?_
    refine sf_getR X ff_12_30 lk_1732 hk (dkX12_laysPair (11, .getfield 67, 3) (pgm 6 rfl)) ?_
    refine so_bipush (v := (64 : Int32)) X (dkX12_laysPair (14, .bipush 64, 2) (pgm 7 rfl)) bp_64 ?_
    refine so_iload_n (i := 1) X 1 (dkX12_laysPair (16, .iload_n 1, 1) (pgm 8 rfl)) rfl rfl ?_
    refine so_imul X (dkX12_laysPair (17, .imul, 1) (pgm 9 rfl)) ?_
    refine so_iload (i := 4) X 4 (dkX12_laysPair (18, .iload 4, 2) (pgm 10 rfl)) rfl ?_
    refine so_iadd X (dkX12_laysPair (20, .iadd, 1) (pgm 11 rfl)) ?_
    refine so_lald X (rk_12_30 this hk) (dkX12_laysPair (21, .laload, 1) (pgm 12 rfl)) (fun x3 => ?_)
    refine so_lstore (i := 5) X (dkX12_laysPair (22, .lstore 5, 2) (pgm 13 rfl)) (by decide) (Lf := fun x4 => [(5, .long x4), (0, .ref this), (1, .int a1), (2, .int a2), (3, .int a3), (4, .int s3)]) (fun _ => rfl) (fun x4 => ?_)
    refine so_aload_n (i := 0) X 1 (dkX12_laysPair (24, .aload_n 0, 1) (pgm 14 rfl)) rfl rfl ?_
    refine sf_getR X ff_12_30 lk_1732 hk (dkX12_laysPair (25, .getfield 67, 3) (pgm 15 rfl)) ?_
    refine so_bipush (v := (64 : Int32)) X (dkX12_laysPair (28, .bipush 64, 2) (pgm 16 rfl)) bp_64 ?_
    refine so_iload_n (i := 2) X 3 (dkX12_laysPair (30, .iload_n 2, 1) (pgm 17 rfl)) rfl rfl ?_
    refine so_imul X (dkX12_laysPair (31, .imul, 1) (pgm 18 rfl)) ?_
    refine so_iload (i := 4) X 5 (dkX12_laysPair (32, .iload 4, 2) (pgm 19 rfl)) rfl ?_
    refine so_iadd X (dkX12_laysPair (34, .iadd, 1) (pgm 20 rfl)) ?_
    refine so_lald X (rk_12_30 this hk) (dkX12_laysPair (35, .laload, 1) (pgm 21 rfl)) (fun x5 => ?_)
    refine so_lstore (i := 7) X (dkX12_laysPair (36, .lstore 7, 2) (pgm 22 rfl)) (by decide) (Lf := fun x6 => [(7, .long x6), (5, .long x4), (0, .ref this), (1, .int a1), (2, .int a2), (3, .int a3), (4, .int s3)]) (fun _ => rfl) (fun x6 => ?_)
    refine so_aload_n (i := 0) X 2 (dkX12_laysPair (38, .aload_n 0, 1) (pgm 23 rfl)) rfl rfl ?_
    refine sf_getR X ff_12_30 lk_1732 hk (dkX12_laysPair (39, .getfield 67, 3) (pgm 24 rfl)) ?_
    refine so_bipush (v := (64 : Int32)) X (dkX12_laysPair (42, .bipush 64, 2) (pgm 25 rfl)) bp_64 ?_
    refine so_aload_n (i := 0) X 2 (dkX12_laysPair (44, .aload_n 0, 1) (pgm 26 rfl)) rfl rfl ?_
    refine sf_getI X ff_12_33 lk_1735 hk (dkX12_laysPair (45, .getfield 395, 3) (pgm 27 rfl)) ?_
    refine so_imul X (dkX12_laysPair (48, .imul, 1) (pgm 28 rfl)) ?_
    refine so_iload (i := 4) X 6 (dkX12_laysPair (49, .iload 4, 2) (pgm 29 rfl)) rfl ?_
    refine so_iadd X (dkX12_laysPair (51, .iadd, 1) (pgm 30 rfl)) ?_
    refine so_iload_n (i := 3) X 5 (dkX12_laysPair (52, .iload_n 3, 1) (pgm 31 rfl)) rfl rfl ?_
    refine so_join (jf := fun (t7 : Int64) (h8 : PH) => stL h8 (rt this 30) 2496 (((64 : Int32) * (hh3.1 this 33)) + s3) t7 (fun (h9 : PH) => lt (s3 + Int32.ofInt 1) (fun (x10 : Int32) => rec3 x10 h9))) (fun (j : Int64 → PH → Option (Unit × PH)) => ∀ (t7 : Int64) (h8 : PH), SWo (QM mkV below args s D cA ad A) p l e (rmd 0) s m args below meth c 0 0 9 D cA ad A 69 [(0, .ref this), (1, .int a1), (2, .int a2), (3, .int a3), (4, .int s3)] [.long t7, .int (((64 : Int32) * (hh3.1 this 33)) + s3), .ref (rt this 30)] h8 (j t7 h8)) ?_ (fun j69 hj69 => ?_)
    · intro t7 h8
      refine so_last X (rk_12_30 this hk) (dkX12_laysPair (69, .lastore, 1) (pgm 40 rfl)) (fun h9 => ?_)
      refine so_iinc (i := 4) X 4 (dkX12_laysPair (70, .iinc 4 1, 3) (pgm 41 rfl)) rfl rfl (by decide) (Lf := fun x10 => [(4, .int x10), (0, .ref this), (1, .int a1), (2, .int a2), (3, .int a3)]) (fun _ => rfl) (fun x10 => ?_)
      refine so_goto (tgt := 3) X (dkX12_laysPair (73, .goto (-70), 3) (pgm 42 rfl)) rfl ?_
      exact so_pick X [1, 2, 3, 4, 0] rfl (hrec3 x10 h9)
    refine so_if_eq (tgt := 64) X (dkX12_laysPair (53, .ifCond .eq 11, 3) (pgm 32 rfl)) rfl (fun _ => ?_) (fun _ => ?_)
    · refine so_lload (i := 5) X 1 (dkX12_laysPair (64, .lload 5, 2) (pgm 37 rfl)) rfl ?_
      refine so_lload (i := 7) X 0 (dkX12_laysPair (66, .lload 7, 2) (pgm 38 rfl)) rfl ?_
      refine so_land X (dkX12_laysPair (68, .land, 1) (pgm 39 rfl)) ?_
      exact so_pick X [2, 3, 4, 5, 6] rfl (hj69 (x4 &&& x6) hh3)
    · refine so_lload (i := 5) X 1 (dkX12_laysPair (56, .lload 5, 2) (pgm 33 rfl)) rfl ?_
      refine so_lload (i := 7) X 0 (dkX12_laysPair (58, .lload 7, 2) (pgm 34 rfl)) rfl ?_
      refine so_lor X (dkX12_laysPair (60, .lor, 1) (pgm 35 rfl)) ?_
      refine so_goto (tgt := 69) X (dkX12_laysPair (61, .goto 8, 3) (pgm 36 rfl)) rfl ?_
      exact so_pick X [2, 3, 4, 5, 6] rfl (hj69 (x4 ||| x6) hh3)
def pgX12_reads : List (Nat × Instr × Nat) := [(0, .iconst 5, 1), (1, .iload_n 2, 1), (2, .imul, 1), (3, .iload_n 3, 1), (4, .iadd, 1), (5, .istore 4, 2), (7, .aload_n 0, 1), (8, .getfield 71, 3), (11, .iload 4, 2), (13, .aload_n 0, 1), (14, .getfield 395, 3), (17, .iastore, 1), (18, .iload_n 2, 1), (19, .iload_n 3, 1), (20, .if_icmp .ne 21, 3), (23, .aload_n 0, 1), (24, .aload_n 0, 1), (25, .getfield 86, 3), (28, .bipush 30, 2), (30, .iload_n 1, 1), (31, .imul, 1), (32, .iconst 2, 1), (33, .iload_n 2, 1), (34, .imul, 1), (35, .iadd, 1), (36, .laload, 1), (37, .l2i, 1), (38, .invokevirtual 398, 3), (41, .iload_n 2, 1), (42, .istore 5, 2), (44, .iload 5, 2), (46, .iload_n 3, 1), (47, .if_icmp .ge 123, 3), (50, .iconst 5, 1), (51, .iload_n 2, 1), (52, .imul, 1), (53, .iload 5, 2), (55, .iadd, 1), (56, .istore 6, 2), (58, .iconst 5, 1), (59, .iload 5, 2), (61, .iconst 1, 1), (62, .iadd, 1), (63, .imul, 1), (64, .iload_n 3, 1), (65, .iadd, 1), (66, .istore 7, 2), (68, .aload_n 0, 1), (69, .getfield 86, 3), (72, .bipush 30, 2), (74, .iload_n 1, 1), (75, .imul, 1), (76, .iconst 2, 1), (77, .iload 5, 2), (79, .imul, 1), (80, .iadd, 1), (81, .iconst 1, 1), (82, .iadd, 1), (83, .laload, 1), (84, .lconst 1, 1), (85, .lcmp, 1), (86, .ifCond .ne 7, 3), (89, .iconst 1, 1), (90, .goto 4, 3), (93, .iconst 0, 1), (94, .istore 8, 2), (96, .iconst 0, 1), (97, .istore 9, 2), (99, .iload 9, 2), (101, .aload_n 0, 1), (102, .getfield 74, 3), (105, .iload 6, 2), (107, .iaload, 1), (108, .if_icmp .ge 56, 3), (111, .iconst 0, 1), (112, .istore 10, 2), (114, .iload 10, 2), (116, .aload_n 0, 1), (117, .getfield 74, 3), (120, .iload 7, 2), (122, .iaload, 1), (123, .if_icmp .ge 35, 3), (126, .aload_n 0, 1), (127, .aload_n 0, 1), (128, .getfield 71, 3), (131, .iload 6, 2), (133, .iaload, 1), (134, .iload 9, 2), (136, .iadd, 1), (137, .aload_n 0, 1), (138, .getfield 71, 3), (141, .iload 7, 2), (143, .iaload, 1), (144, .iload 10, 2), (146, .iadd, 1), (147, .iload 8, 2), (149, .invokevirtual 401, 3), (152, .iinc 10 1, 3), (155, .goto (-41), 3), (158, .iinc 9 1, 3), (161, .goto (-62), 3), (164, .iinc 5 1, 3), (167, .goto (-123), 3), (170, .aload_n 0, 1), (171, .getfield 74, 3), (174, .iload 4, 2), (176, .aload_n 0, 1), (177, .getfield 395, 3), (180, .aload_n 0, 1), (181, .getfield 71, 3), (184, .iload 4, 2), (186, .iaload, 1), (187, .isub, 1), (188, .iastore, 1), (189, .return_, 1)]
theorem dkX12_reads : ∀ q ∈ pgX12_reads, decode cX12_reads q.1 = .ok q.2 := by decide +kernel
def b_X12_reads_114 (this : Nat) (x8 : Int32) (x9 : Int32) (x13 : Int32) (s99 : Int32) (j158 : PH → Option (Unit × PH)) (rec114 : (Int32) → PH → Option (Unit × PH)) (s114 : Int32) (hh114 : PH) : Option (Unit × PH) :=
  ldI hh114 (rt this 32) 25 x9 (fun (x21 : Int32) => if x21 ≤ s114 then (j158 hh114) else (ldI hh114 (rt this 31) 25 x8 (fun (x22 : Int32) => ldI hh114 (rt this 31) 25 x9 (fun (x23 : Int32) => cb (f_X12_laysPair this (x22 + s99) (x23 + s114) x13 hh114) (fun (r24 : Unit) (h25 : PH) => lt (s114 + Int32.ofInt 1) (fun (x26 : Int32) => rec114 x26 h25))))))
def b_X12_reads_99 (this : Nat) (x8 : Int32) (x9 : Int32) (x13 : Int32) (j164 : PH → Option (Unit × PH)) (rec99 : (Int32) → PH → Option (Unit × PH)) (s99 : Int32) (hh99 : PH) : Option (Unit × PH) :=
  ldI hh99 (rt this 32) 25 x8 (fun (x17 : Int32) => if x17 ≤ s99 then (j164 hh99) else (lt (0 : Int32) (fun (x18 : Int32) => lt (fun (h19 : PH) => lt (s99 + Int32.ofInt 1) (fun (x20 : Int32) => rec99 x20 h19)) (fun (j158 : PH → Option (Unit × PH)) => lp (b_X12_reads_114 this x8 x9 x13 s99 j158) FU x18 hh99))))
def b_X12_reads_44 (this : Nat) (a1 : Int32) (a2 : Int32) (a3 : Int32) (j170 : PH → Option (Unit × PH)) (rec44 : (Int32) → PH → Option (Unit × PH)) (s44 : Int32) (hh44 : PH) : Option (Unit × PH) :=
  if a3 ≤ s44 then (j170 hh44) else (lt (((5 : Int32) * a2) + s44) (fun (x8 : Int32) => lt (((5 : Int32) * (s44 + (1 : Int32))) + a3) (fun (x9 : Int32) => ldL hh44 (rt this 38) 120 ((((30 : Int32) * a1) + ((2 : Int32) * s44)) + (1 : Int32)) (fun (x10 : Int64) => lt (fun (t11 : Int32) (h12 : PH) => lt t11 (fun (x13 : Int32) => lt (0 : Int32) (fun (x14 : Int32) => lt (fun (h15 : PH) => lt (s44 + Int32.ofInt 1) (fun (x16 : Int32) => rec44 x16 h15)) (fun (j164 : PH → Option (Unit × PH)) => lp (b_X12_reads_99 this x8 x9 x13 j164) FU x14 h12)))) (fun (j94 : Int32 → PH → Option (Unit × PH)) => if (lg_cmp x10 (1 : Int64)) = 0 then (j94 (1 : Int32) hh44) else (j94 (0 : Int32) hh44))))))
def f_X12_reads (this : Nat) (a1 : Int32) (a2 : Int32) (a3 : Int32) (h0 : PH) : Option (Unit × PH) :=
  lt (((5 : Int32) * a2) + a3) (fun (x1 : Int32) => stI h0 (rt this 31) 25 x1 (h0.1 this 33) (fun (h2 : PH) => lt (fun (h3 : PH) => lt a2 (fun (x4 : Int32) => lt (fun (h5 : PH) => ldI h5 (rt this 31) 25 x1 (fun (x6 : Int32) => stI h5 (rt this 32) 25 x1 ((h5.1 this 33) - x6) (fun (h7 : PH) => some ((), h7)))) (fun (j170 : PH → Option (Unit × PH)) => lp (b_X12_reads_44 this a1 a2 a3 j170) FU x4 h3))) (fun (j41 : PH → Option (Unit × PH)) => if a2 = a3 then (ldL h2 (rt this 38) 120 (((30 : Int32) * a1) + ((2 : Int32) * a2)) (fun (x27 : Int64) => cb (f_X12_laysReading this x27.toInt32 h2) (fun (r28 : Unit) (h29 : PH) => j41 h29))) else (j41 h2))))
set_option maxRecDepth 100000 in
set_option maxHeartbeats 4000000 in
theorem ct_X12_reads (l : Launch) (this : Nat) (a1 : Int32) (a2 : Int32) (a3 : Int32) (h0 : PH) (hk : (kd this).1 = 12) : CT mkV l yX12_reads cX12_reads 11 none (rmd 3) [.ref this, .int a1, .int a2, .int a3] h0 (f_X12_reads this a1 a2 a3 h0) := by
  refine ct_of (by decide) (Nat.le_of_ble_eq_true rfl) ?_
  intro p e s m args below meth c D cA ad A X hr hlk
  have X : Cx p s m args c RX12 cX12_reads 11 D cA ad A := X
  unfold f_X12_reads
  refine so_pick (L' := [(0, .ref this), (1, .int a1), (2, .int a2), (3, .int a3)]) X [0, 1, 2, 3] rfl ?_
  refine so_iconst (v := (5 : Int32)) X (dkX12_reads (0, .iconst 5, 1) (pgm 0 rfl)) ic_5 ?_
  refine so_iload_n (i := 2) X 2 (dkX12_reads (1, .iload_n 2, 1) (pgm 1 rfl)) rfl rfl ?_
  refine so_imul X (dkX12_reads (2, .imul, 1) (pgm 2 rfl)) ?_
  refine so_iload_n (i := 3) X 3 (dkX12_reads (3, .iload_n 3, 1) (pgm 3 rfl)) rfl rfl ?_
  refine so_iadd X (dkX12_reads (4, .iadd, 1) (pgm 4 rfl)) ?_
  refine so_istore (i := 4) X (dkX12_reads (5, .istore 4, 2) (pgm 5 rfl)) (by decide) (Lf := fun x1 => [(4, .int x1), (0, .ref this), (1, .int a1), (2, .int a2), (3, .int a3)]) (fun _ => rfl) (fun x1 => ?_)
  refine so_aload_n (i := 0) X 1 (dkX12_reads (7, .aload_n 0, 1) (pgm 6 rfl)) rfl rfl ?_
  refine sf_getR X ff_12_31 lk_1733 hk (dkX12_reads (8, .getfield 71, 3) (pgm 7 rfl)) ?_
  refine so_iload (i := 4) X 0 (dkX12_reads (11, .iload 4, 2) (pgm 8 rfl)) rfl ?_
  refine so_aload_n (i := 0) X 1 (dkX12_reads (13, .aload_n 0, 1) (pgm 9 rfl)) rfl rfl ?_
  refine sf_getI X ff_12_33 lk_1735 hk (dkX12_reads (14, .getfield 395, 3) (pgm 10 rfl)) ?_
  refine so_iast X (rk_12_31 this hk) (dkX12_reads (17, .iastore, 1) (pgm 11 rfl)) (fun h2 => ?_)
  refine so_iload_n (i := 2) X 3 (dkX12_reads (18, .iload_n 2, 1) (pgm 12 rfl)) rfl rfl ?_
  refine so_iload_n (i := 3) X 4 (dkX12_reads (19, .iload_n 3, 1) (pgm 13 rfl)) rfl rfl ?_
  refine so_join (jf := fun (h3 : PH) => lt a2 (fun (x4 : Int32) => lt (fun (h5 : PH) => ldI h5 (rt this 31) 25 x1 (fun (x6 : Int32) => stI h5 (rt this 32) 25 x1 ((h5.1 this 33) - x6) (fun (h7 : PH) => some ((), h7)))) (fun (j170 : PH → Option (Unit × PH)) => lp (b_X12_reads_44 this a1 a2 a3 j170) FU x4 h3))) (fun (j : PH → Option (Unit × PH)) => ∀  (h3 : PH), SWo (QM mkV below args s D cA ad A) p l e (rmd 3) s m args below meth c 0 0 11 D cA ad A 41 [(0, .ref this), (1, .int a1), (2, .int a2), (3, .int a3), (4, .int x1)] [] h3 (j h3)) ?_ (fun j41 hj41 => ?_)
  · intro h3
    refine so_iload_n (i := 2) X 2 (dkX12_reads (41, .iload_n 2, 1) (pgm 28 rfl)) rfl rfl ?_
    refine so_istore (i := 5) X (dkX12_reads (42, .istore 5, 2) (pgm 29 rfl)) (by decide) (Lf := fun x4 => [(5, .int x4), (0, .ref this), (1, .int a1), (2, .int a2), (3, .int a3), (4, .int x1)]) (fun _ => rfl) (fun x4 => ?_)
    refine so_join (jf := fun (h5 : PH) => ldI h5 (rt this 31) 25 x1 (fun (x6 : Int32) => stI h5 (rt this 32) 25 x1 ((h5.1 this 33) - x6) (fun (h7 : PH) => some ((), h7)))) (fun (j : PH → Option (Unit × PH)) => ∀  (h5 : PH), SWo (QM mkV below args s D cA ad A) p l e (rmd 3) s m args below meth c 0 0 11 D cA ad A 170 [(0, .ref this), (4, .int x1)] [] h5 (j h5)) ?_ (fun j170 hj170 => ?_)
    · intro h5
      refine so_aload_n (i := 0) X 0 (dkX12_reads (170, .aload_n 0, 1) (pgm 103 rfl)) rfl rfl ?_
      refine sf_getR X ff_12_32 lk_1734 hk (dkX12_reads (171, .getfield 74, 3) (pgm 104 rfl)) ?_
      refine so_iload (i := 4) X 1 (dkX12_reads (174, .iload 4, 2) (pgm 105 rfl)) rfl ?_
      refine so_aload_n (i := 0) X 0 (dkX12_reads (176, .aload_n 0, 1) (pgm 106 rfl)) rfl rfl ?_
      refine sf_getI X ff_12_33 lk_1735 hk (dkX12_reads (177, .getfield 395, 3) (pgm 107 rfl)) ?_
      refine so_aload_n (i := 0) X 0 (dkX12_reads (180, .aload_n 0, 1) (pgm 108 rfl)) rfl rfl ?_
      refine sf_getR X ff_12_31 lk_1733 hk (dkX12_reads (181, .getfield 71, 3) (pgm 109 rfl)) ?_
      refine so_iload (i := 4) X 1 (dkX12_reads (184, .iload 4, 2) (pgm 110 rfl)) rfl ?_
      refine so_iald X (rk_12_31 this hk) (dkX12_reads (186, .iaload, 1) (pgm 111 rfl)) (fun x6 => ?_)
      refine so_isub X (dkX12_reads (187, .isub, 1) (pgm 112 rfl)) ?_
      refine so_iast X (rk_12_32 this hk) (dkX12_reads (188, .iastore, 1) (pgm 113 rfl)) (fun h7 => ?_)
      exact so_vret X hr hlk (dkX12_reads (189, .return_, 1) (pgm 114 rfl))
    refine so_pick (L' := [(0, .ref this), (1, .int a1), (2, .int a2), (3, .int a3), (4, .int x1), (5, .int x4)]) X [1, 2, 3, 4, 5, 0] rfl ?_
    refine so_loop (body := b_X12_reads_44 this a1 a2 a3 j170) (fun (s44 : Int32) => [(0, .ref this), (1, .int a1), (2, .int a2), (3, .int a3), (4, .int x1), (5, .int s44)]) (fun rec44 hrec44 s44 hh44 => ?_) FU x4 h3
    unfold b_X12_reads_44
    refine so_iload (i := 5) X 5 (dkX12_reads (44, .iload 5, 2) (pgm 30 rfl)) rfl ?_
    refine so_iload_n (i := 3) X 3 (dkX12_reads (46, .iload_n 3, 1) (pgm 31 rfl)) rfl rfl ?_
    refine so_icmp_ge (tgt := 170) X (dkX12_reads (47, .if_icmp .ge 123, 3) (pgm 32 rfl)) rfl (fun _ => ?_) (fun _ => ?_)
    · exact so_pick X [0, 4] rfl (hj170 hh44)
    · refine so_iconst (v := (5 : Int32)) X (dkX12_reads (50, .iconst 5, 1) (pgm 33 rfl)) ic_5 ?_
      refine so_iload_n (i := 2) X 2 (dkX12_reads (51, .iload_n 2, 1) (pgm 34 rfl)) rfl rfl ?_
      refine so_imul X (dkX12_reads (52, .imul, 1) (pgm 35 rfl)) ?_
      refine so_iload (i := 5) X 5 (dkX12_reads (53, .iload 5, 2) (pgm 36 rfl)) rfl ?_
      refine so_iadd X (dkX12_reads (55, .iadd, 1) (pgm 37 rfl)) ?_
      refine so_istore (i := 6) X (dkX12_reads (56, .istore 6, 2) (pgm 38 rfl)) (by decide) (Lf := fun x8 => [(6, .int x8), (0, .ref this), (1, .int a1), (2, .int a2), (3, .int a3), (4, .int x1), (5, .int s44)]) (fun _ => rfl) (fun x8 => ?_)
      refine so_iconst (v := (5 : Int32)) X (dkX12_reads (58, .iconst 5, 1) (pgm 39 rfl)) ic_5 ?_
      refine so_iload (i := 5) X 6 (dkX12_reads (59, .iload 5, 2) (pgm 40 rfl)) rfl ?_
      refine so_iconst (v := (1 : Int32)) X (dkX12_reads (61, .iconst 1, 1) (pgm 41 rfl)) ic_1 ?_
      refine so_iadd X (dkX12_reads (62, .iadd, 1) (pgm 42 rfl)) ?_
      refine so_imul X (dkX12_reads (63, .imul, 1) (pgm 43 rfl)) ?_
      refine so_iload_n (i := 3) X 4 (dkX12_reads (64, .iload_n 3, 1) (pgm 44 rfl)) rfl rfl ?_
      refine so_iadd X (dkX12_reads (65, .iadd, 1) (pgm 45 rfl)) ?_
      refine so_istore (i := 7) X (dkX12_reads (66, .istore 7, 2) (pgm 46 rfl)) (by decide) (Lf := fun x9 => [(7, .int x9), (6, .int x8), (0, .ref this), (1, .int a1), (2, .int a2), (3, .int a3), (4, .int x1), (5, .int s44)]) (fun _ => rfl) (fun x9 => ?_)
      refine so_aload_n (i := 0) X 2 (dkX12_reads (68, .aload_n 0, 1) (pgm 47 rfl)) rfl rfl ?_
      refine sf_getR X ff_12_38 lk_1740 hk (dkX12_reads (69, .getfield 86, 3) (pgm 48 rfl)) ?_
      refine so_bipush (v := (30 : Int32)) X (dkX12_reads (72, .bipush 30, 2) (pgm 49 rfl)) bp_30 ?_
      refine so_iload_n (i := 1) X 3 (dkX12_reads (74, .iload_n 1, 1) (pgm 50 rfl)) rfl rfl ?_
      refine so_imul X (dkX12_reads (75, .imul, 1) (pgm 51 rfl)) ?_
      refine so_iconst (v := (2 : Int32)) X (dkX12_reads (76, .iconst 2, 1) (pgm 52 rfl)) ic_2 ?_
      refine so_iload (i := 5) X 7 (dkX12_reads (77, .iload 5, 2) (pgm 53 rfl)) rfl ?_
      refine so_imul X (dkX12_reads (79, .imul, 1) (pgm 54 rfl)) ?_
      refine so_iadd X (dkX12_reads (80, .iadd, 1) (pgm 55 rfl)) ?_
      refine so_iconst (v := (1 : Int32)) X (dkX12_reads (81, .iconst 1, 1) (pgm 56 rfl)) ic_1 ?_
      refine so_iadd X (dkX12_reads (82, .iadd, 1) (pgm 57 rfl)) ?_
      refine so_lald X (rk_12_38 this hk) (dkX12_reads (83, .laload, 1) (pgm 58 rfl)) (fun x10 => ?_)
      refine so_lconst (v := (1 : Int64)) X (dkX12_reads (84, .lconst 1, 1) (pgm 59 rfl)) lc_1 ?_
      refine so_lcmp X (dkX12_reads (85, .lcmp, 1) (pgm 60 rfl)) ?_
      refine so_join (jf := fun (t11 : Int32) (h12 : PH) => lt t11 (fun (x13 : Int32) => lt (0 : Int32) (fun (x14 : Int32) => lt (fun (h15 : PH) => lt (s44 + Int32.ofInt 1) (fun (x16 : Int32) => rec44 x16 h15)) (fun (j164 : PH → Option (Unit × PH)) => lp (b_X12_reads_99 this x8 x9 x13 j164) FU x14 h12)))) (fun (j : Int32 → PH → Option (Unit × PH)) => ∀ (t11 : Int32) (h12 : PH), SWo (QM mkV below args s D cA ad A) p l e (rmd 3) s m args below meth c 0 0 11 D cA ad A 94 [(0, .ref this), (1, .int a1), (2, .int a2), (3, .int a3), (4, .int x1), (5, .int s44), (6, .int x8), (7, .int x9)] [.int t11] h12 (j t11 h12)) ?_ (fun j94 hj94 => ?_)
      · intro t11 h12
        refine so_istore (i := 8) X (dkX12_reads (94, .istore 8, 2) (pgm 65 rfl)) (by decide) (Lf := fun x13 => [(8, .int x13), (0, .ref this), (1, .int a1), (2, .int a2), (3, .int a3), (4, .int x1), (5, .int s44), (6, .int x8), (7, .int x9)]) (fun _ => rfl) (fun x13 => ?_)
        refine so_iconst (v := (0 : Int32)) X (dkX12_reads (96, .iconst 0, 1) (pgm 66 rfl)) ic_0 ?_
        refine so_istore (i := 9) X (dkX12_reads (97, .istore 9, 2) (pgm 67 rfl)) (by decide) (Lf := fun x14 => [(9, .int x14), (8, .int x13), (0, .ref this), (1, .int a1), (2, .int a2), (3, .int a3), (4, .int x1), (5, .int s44), (6, .int x8), (7, .int x9)]) (fun _ => rfl) (fun x14 => ?_)
        refine so_join (jf := fun (h15 : PH) => lt (s44 + Int32.ofInt 1) (fun (x16 : Int32) => rec44 x16 h15)) (fun (j : PH → Option (Unit × PH)) => ∀  (h15 : PH), SWo (QM mkV below args s D cA ad A) p l e (rmd 3) s m args below meth c 0 0 11 D cA ad A 164 [(0, .ref this), (1, .int a1), (2, .int a2), (3, .int a3), (4, .int x1), (5, .int s44)] [] h15 (j h15)) ?_ (fun j164 hj164 => ?_)
        · intro h15
          refine so_iinc (i := 5) X 5 (dkX12_reads (164, .iinc 5 1, 3) (pgm 101 rfl)) rfl rfl (by decide) (Lf := fun x16 => [(5, .int x16), (0, .ref this), (1, .int a1), (2, .int a2), (3, .int a3), (4, .int x1)]) (fun _ => rfl) (fun x16 => ?_)
          refine so_goto (tgt := 44) X (dkX12_reads (167, .goto (-123), 3) (pgm 102 rfl)) rfl ?_
          exact so_pick X [1, 2, 3, 4, 5, 0] rfl (hrec44 x16 h15)
        refine so_pick (L' := [(0, .ref this), (1, .int a1), (2, .int a2), (3, .int a3), (4, .int x1), (5, .int s44), (6, .int x8), (7, .int x9), (8, .int x13), (9, .int x14)]) X [2, 3, 4, 5, 6, 7, 8, 9, 1, 0] rfl ?_
        refine so_loop (body := b_X12_reads_99 this x8 x9 x13 j164) (fun (s99 : Int32) => [(0, .ref this), (1, .int a1), (2, .int a2), (3, .int a3), (4, .int x1), (5, .int s44), (6, .int x8), (7, .int x9), (8, .int x13), (9, .int s99)]) (fun rec99 hrec99 s99 hh99 => ?_) FU x14 h12
        unfold b_X12_reads_99
        refine so_iload (i := 9) X 9 (dkX12_reads (99, .iload 9, 2) (pgm 68 rfl)) rfl ?_
        refine so_aload_n (i := 0) X 0 (dkX12_reads (101, .aload_n 0, 1) (pgm 69 rfl)) rfl rfl ?_
        refine sf_getR X ff_12_32 lk_1734 hk (dkX12_reads (102, .getfield 74, 3) (pgm 70 rfl)) ?_
        refine so_iload (i := 6) X 6 (dkX12_reads (105, .iload 6, 2) (pgm 71 rfl)) rfl ?_
        refine so_iald X (rk_12_32 this hk) (dkX12_reads (107, .iaload, 1) (pgm 72 rfl)) (fun x17 => ?_)
        refine so_icmp_ge (tgt := 164) X (dkX12_reads (108, .if_icmp .ge 56, 3) (pgm 73 rfl)) rfl (fun _ => ?_) (fun _ => ?_)
        · exact so_pick X [0, 1, 2, 3, 4, 5] rfl (hj164 hh99)
        · refine so_iconst (v := (0 : Int32)) X (dkX12_reads (111, .iconst 0, 1) (pgm 74 rfl)) ic_0 ?_
          refine so_istore (i := 10) X (dkX12_reads (112, .istore 10, 2) (pgm 75 rfl)) (by decide) (Lf := fun x18 => [(10, .int x18), (0, .ref this), (1, .int a1), (2, .int a2), (3, .int a3), (4, .int x1), (5, .int s44), (6, .int x8), (7, .int x9), (8, .int x13), (9, .int s99)]) (fun _ => rfl) (fun x18 => ?_)
          refine so_join (jf := fun (h19 : PH) => lt (s99 + Int32.ofInt 1) (fun (x20 : Int32) => rec99 x20 h19)) (fun (j : PH → Option (Unit × PH)) => ∀  (h19 : PH), SWo (QM mkV below args s D cA ad A) p l e (rmd 3) s m args below meth c 0 0 11 D cA ad A 158 [(0, .ref this), (1, .int a1), (2, .int a2), (3, .int a3), (4, .int x1), (5, .int s44), (6, .int x8), (7, .int x9), (8, .int x13), (9, .int s99)] [] h19 (j h19)) ?_ (fun j158 hj158 => ?_)
          · intro h19
            refine so_iinc (i := 9) X 9 (dkX12_reads (158, .iinc 9 1, 3) (pgm 99 rfl)) rfl rfl (by decide) (Lf := fun x20 => [(9, .int x20), (0, .ref this), (1, .int a1), (2, .int a2), (3, .int a3), (4, .int x1), (5, .int s44), (6, .int x8), (7, .int x9), (8, .int x13)]) (fun _ => rfl) (fun x20 => ?_)
            refine so_goto (tgt := 99) X (dkX12_reads (161, .goto (-62), 3) (pgm 100 rfl)) rfl ?_
            exact so_pick X [1, 2, 3, 4, 5, 6, 7, 8, 9, 0] rfl (hrec99 x20 h19)
          refine so_pick (L' := [(0, .ref this), (1, .int a1), (2, .int a2), (3, .int a3), (4, .int x1), (5, .int s44), (6, .int x8), (7, .int x9), (8, .int x13), (9, .int s99), (10, .int x18)]) X [1, 2, 3, 4, 5, 6, 7, 8, 9, 10, 0] rfl ?_
          refine so_loop (body := b_X12_reads_114 this x8 x9 x13 s99 j158) (fun (s114 : Int32) => [(0, .ref this), (1, .int a1), (2, .int a2), (3, .int a3), (4, .int x1), (5, .int s44), (6, .int x8), (7, .int x9), (8, .int x13), (9, .int s99), (10, .int s114)]) (fun rec114 hrec114 s114 hh114 => ?_) FU x18 hh99
          unfold b_X12_reads_114
          refine so_iload (i := 10) X 10 (dkX12_reads (114, .iload 10, 2) (pgm 76 rfl)) rfl ?_
          refine so_aload_n (i := 0) X 0 (dkX12_reads (116, .aload_n 0, 1) (pgm 77 rfl)) rfl rfl ?_
          refine sf_getR X ff_12_32 lk_1734 hk (dkX12_reads (117, .getfield 74, 3) (pgm 78 rfl)) ?_
          refine so_iload (i := 7) X 7 (dkX12_reads (120, .iload 7, 2) (pgm 79 rfl)) rfl ?_
          refine so_iald X (rk_12_32 this hk) (dkX12_reads (122, .iaload, 1) (pgm 80 rfl)) (fun x21 => ?_)
          refine so_icmp_ge (tgt := 158) X (dkX12_reads (123, .if_icmp .ge 35, 3) (pgm 81 rfl)) rfl (fun _ => ?_) (fun _ => ?_)
          · exact so_pick X [0, 1, 2, 3, 4, 5, 6, 7, 8, 9] rfl (hj158 hh114)
          · refine so_aload_n (i := 0) X 0 (dkX12_reads (126, .aload_n 0, 1) (pgm 82 rfl)) rfl rfl ?_
            refine so_aload_n (i := 0) X 0 (dkX12_reads (127, .aload_n 0, 1) (pgm 83 rfl)) rfl rfl ?_
            refine sf_getR X ff_12_31 lk_1733 hk (dkX12_reads (128, .getfield 71, 3) (pgm 84 rfl)) ?_
            refine so_iload (i := 6) X 6 (dkX12_reads (131, .iload 6, 2) (pgm 85 rfl)) rfl ?_
            refine so_iald X (rk_12_31 this hk) (dkX12_reads (133, .iaload, 1) (pgm 86 rfl)) (fun x22 => ?_)
            refine so_iload (i := 9) X 9 (dkX12_reads (134, .iload 9, 2) (pgm 87 rfl)) rfl ?_
            refine so_iadd X (dkX12_reads (136, .iadd, 1) (pgm 88 rfl)) ?_
            refine so_aload_n (i := 0) X 0 (dkX12_reads (137, .aload_n 0, 1) (pgm 89 rfl)) rfl rfl ?_
            refine sf_getR X ff_12_31 lk_1733 hk (dkX12_reads (138, .getfield 71, 3) (pgm 90 rfl)) ?_
            refine so_iload (i := 7) X 7 (dkX12_reads (141, .iload 7, 2) (pgm 91 rfl)) rfl ?_
            refine so_iald X (rk_12_31 this hk) (dkX12_reads (143, .iaload, 1) (pgm 92 rfl)) (fun x23 => ?_)
            refine so_iload (i := 10) X 10 (dkX12_reads (144, .iload 10, 2) (pgm 93 rfl)) rfl ?_
            refine so_iadd X (dkX12_reads (146, .iadd, 1) (pgm 94 rfl)) ?_
            refine so_iload (i := 8) X 8 (dkX12_reads (147, .iload 8, 2) (pgm 95 rfl)) rfl ?_
            refine so_callV (n := 3) (As := [.int (x22 + s99), .int (x23 + s114), .int x13]) X (ct_X12_laysPair l this (x22 + s99) (x23 + s114) x13 hh114 hk) hk (by decide) rfl lk_2166 lk_2168 lk_109 lk_134 lk_2169 (by decide +kernel) rfl rfl rfl (rm_ok (by omega) (by decide)) ⟨Nat.zero_le _, Nat.zero_le _⟩ (Nat.le_of_ble_eq_true rfl) (dkX12_reads (149, .invokevirtual 401, 3) (pgm 96 rfl)) (fun r24 h25 => ?_) rfl
            refine so_iinc (i := 10) X 10 (dkX12_reads (152, .iinc 10 1, 3) (pgm 97 rfl)) rfl rfl (by decide) (Lf := fun x26 => [(10, .int x26), (0, .ref this), (1, .int a1), (2, .int a2), (3, .int a3), (4, .int x1), (5, .int s44), (6, .int x8), (7, .int x9), (8, .int x13), (9, .int s99)]) (fun _ => rfl) (fun x26 => ?_)
            refine so_goto (tgt := 114) X (dkX12_reads (155, .goto (-41), 3) (pgm 98 rfl)) rfl ?_
            exact so_pick X [1, 2, 3, 4, 5, 6, 7, 8, 9, 10, 0] rfl (hrec114 x26 h25)
      refine so_if_ne (tgt := 93) X (dkX12_reads (86, .ifCond .ne 7, 3) (pgm 61 rfl)) rfl (fun _ => ?_) (fun _ => ?_)
      · refine so_iconst (v := (0 : Int32)) X (dkX12_reads (93, .iconst 0, 1) (pgm 64 rfl)) ic_0 ?_
        exact so_pick X [2, 3, 4, 5, 6, 7, 1, 0] rfl (hj94 (0 : Int32) hh44)
      · refine so_iconst (v := (1 : Int32)) X (dkX12_reads (89, .iconst 1, 1) (pgm 62 rfl)) ic_1 ?_
        refine so_goto (tgt := 94) X (dkX12_reads (90, .goto 4, 3) (pgm 63 rfl)) rfl ?_
        exact so_pick X [2, 3, 4, 5, 6, 7, 1, 0] rfl (hj94 (1 : Int32) hh44)
  refine so_icmp_ne (tgt := 41) X (dkX12_reads (20, .if_icmp .ne 21, 3) (pgm 14 rfl)) rfl (fun _ => ?_) (fun _ => ?_)
  · exact so_pick X [1, 2, 3, 4, 0] rfl (hj41 h2)
  · refine so_aload_n (i := 0) X 1 (dkX12_reads (23, .aload_n 0, 1) (pgm 15 rfl)) rfl rfl ?_
    refine so_aload_n (i := 0) X 1 (dkX12_reads (24, .aload_n 0, 1) (pgm 16 rfl)) rfl rfl ?_
    refine sf_getR X ff_12_38 lk_1740 hk (dkX12_reads (25, .getfield 86, 3) (pgm 17 rfl)) ?_
    refine so_bipush (v := (30 : Int32)) X (dkX12_reads (28, .bipush 30, 2) (pgm 18 rfl)) bp_30 ?_
    refine so_iload_n (i := 1) X 2 (dkX12_reads (30, .iload_n 1, 1) (pgm 19 rfl)) rfl rfl ?_
    refine so_imul X (dkX12_reads (31, .imul, 1) (pgm 20 rfl)) ?_
    refine so_iconst (v := (2 : Int32)) X (dkX12_reads (32, .iconst 2, 1) (pgm 21 rfl)) ic_2 ?_
    refine so_iload_n (i := 2) X 3 (dkX12_reads (33, .iload_n 2, 1) (pgm 22 rfl)) rfl rfl ?_
    refine so_imul X (dkX12_reads (34, .imul, 1) (pgm 23 rfl)) ?_
    refine so_iadd X (dkX12_reads (35, .iadd, 1) (pgm 24 rfl)) ?_
    refine so_lald X (rk_12_38 this hk) (dkX12_reads (36, .laload, 1) (pgm 25 rfl)) (fun x27 => ?_)
    refine so_l2i X (dkX12_reads (37, .l2i, 1) (pgm 26 rfl)) ?_
    refine so_callV (n := 1) (As := [.int x27.toInt32]) X (ct_X12_laysReading l this x27.toInt32 h2 hk) hk (by decide) rfl lk_2162 lk_2164 lk_108 lk_134 lk_2165 (by decide +kernel) rfl rfl rfl (rm_ok (by omega) (by decide)) ⟨Nat.zero_le _, Nat.zero_le _⟩ (Nat.le_of_ble_eq_true rfl) (dkX12_reads (38, .invokevirtual 398, 3) (pgm 27 rfl)) (fun r28 h29 => ?_) rfl
    exact so_pick X [1, 2, 3, 4, 0] rfl (hj41 h29)
def pgX12_areLike : List (Nat × Instr × Nat) := [(0, .iconst 0, 1), (1, .istore_n 3, 1), (2, .iload_n 3, 1), (3, .bipush 64, 2), (5, .if_icmp .ge 37, 3), (8, .aload_n 0, 1), (9, .getfield 67, 3), (12, .bipush 64, 2), (14, .iload_n 1, 1), (15, .imul, 1), (16, .iload_n 3, 1), (17, .iadd, 1), (18, .laload, 1), (19, .aload_n 0, 1), (20, .getfield 67, 3), (23, .bipush 64, 2), (25, .iload_n 2, 1), (26, .imul, 1), (27, .iload_n 3, 1), (28, .iadd, 1), (29, .laload, 1), (30, .lcmp, 1), (31, .ifCond .eq 5, 3), (34, .iconst 0, 1), (35, .ireturn, 1), (36, .iinc 3 1, 3), (39, .goto (-37), 3), (42, .iconst 1, 1), (43, .ireturn, 1)]
theorem dkX12_areLike : ∀ q ∈ pgX12_areLike, decode cX12_areLike q.1 = .ok q.2 := by decide +kernel
def b_X12_areLike_2 (this : Nat) (a1 : Int32) (a2 : Int32) (rec2 : (Int32) → PH → Option (Int32 × PH)) (s2 : Int32) (hh2 : PH) : Option (Int32 × PH) :=
  if (64 : Int32) ≤ s2 then (zr (1 : Int32) hh2) else (ldL hh2 (rt this 30) 2496 (((64 : Int32) * a1) + s2) (fun (x2 : Int64) => ldL hh2 (rt this 30) 2496 (((64 : Int32) * a2) + s2) (fun (x3 : Int64) => if (lg_cmp x2 x3) = 0 then (lt (s2 + Int32.ofInt 1) (fun (x4 : Int32) => rec2 x4 hh2)) else (zr (0 : Int32) hh2))))
def f_X12_areLike (this : Nat) (a1 : Int32) (a2 : Int32) (h0 : PH) : Option (Int32 × PH) :=
  lt (0 : Int32) (fun (x1 : Int32) => lp (b_X12_areLike_2 this a1 a2) FU x1 h0)
set_option maxRecDepth 100000 in
set_option maxHeartbeats 4000000 in
theorem ct_X12_areLike (l : Launch) (this : Nat) (a1 : Int32) (a2 : Int32) (h0 : PH) (hk : (kd this).1 = 12) : CT mkI l yX12_areLike cX12_areLike 4 (some .boolean) (rmd 0) [.ref this, .int a1, .int a2] h0 (f_X12_areLike this a1 a2 h0) := by
  refine ct_of (by decide) (Nat.le_of_ble_eq_true rfl) ?_
  intro p e s m args below meth c D cA ad A X hr hlk
  have X : Cx p s m args c RX12 cX12_areLike 4 D cA ad A := X
  unfold f_X12_areLike
  refine so_pick (L' := [(0, .ref this), (1, .int a1), (2, .int a2)]) X [0, 1, 2] rfl ?_
  refine so_iconst (v := (0 : Int32)) X (dkX12_areLike (0, .iconst 0, 1) (pgm 0 rfl)) ic_0 ?_
  refine so_istore_n (i := 3) X (dkX12_areLike (1, .istore_n 3, 1) (pgm 1 rfl)) rfl (by decide) (Lf := fun x1 => [(3, .int x1), (0, .ref this), (1, .int a1), (2, .int a2)]) (fun _ => rfl) (fun x1 => ?_)
  refine so_pick (L' := [(0, .ref this), (1, .int a1), (2, .int a2), (3, .int x1)]) X [1, 2, 3, 0] rfl ?_
  refine so_loop (body := b_X12_areLike_2 this a1 a2) (fun (s2 : Int32) => [(0, .ref this), (1, .int a1), (2, .int a2), (3, .int s2)]) (fun rec2 hrec2 s2 hh2 => ?_) FU x1 h0
  unfold b_X12_areLike_2
  refine so_iload_n (i := 3) X 3 (dkX12_areLike (2, .iload_n 3, 1) (pgm 2 rfl)) rfl rfl ?_
  refine so_bipush (v := (64 : Int32)) X (dkX12_areLike (3, .bipush 64, 2) (pgm 3 rfl)) bp_64 ?_
  refine so_icmp_ge (tgt := 42) X (dkX12_areLike (5, .if_icmp .ge 37, 3) (pgm 4 rfl)) rfl (fun _ => ?_) (fun _ => ?_)
  · refine so_iconst (v := (1 : Int32)) X (dkX12_areLike (42, .iconst 1, 1) (pgm 27 rfl)) ic_1 ?_
    exact so_zret X hr hlk (dkX12_areLike (43, .ireturn, 1) (pgm 28 rfl))
  · refine so_aload_n (i := 0) X 0 (dkX12_areLike (8, .aload_n 0, 1) (pgm 5 rfl)) rfl rfl ?_
    refine sf_getR X ff_12_30 lk_1732 hk (dkX12_areLike (9, .getfield 67, 3) (pgm 6 rfl)) ?_
    refine so_bipush (v := (64 : Int32)) X (dkX12_areLike (12, .bipush 64, 2) (pgm 7 rfl)) bp_64 ?_
    refine so_iload_n (i := 1) X 1 (dkX12_areLike (14, .iload_n 1, 1) (pgm 8 rfl)) rfl rfl ?_
    refine so_imul X (dkX12_areLike (15, .imul, 1) (pgm 9 rfl)) ?_
    refine so_iload_n (i := 3) X 3 (dkX12_areLike (16, .iload_n 3, 1) (pgm 10 rfl)) rfl rfl ?_
    refine so_iadd X (dkX12_areLike (17, .iadd, 1) (pgm 11 rfl)) ?_
    refine so_lald X (rk_12_30 this hk) (dkX12_areLike (18, .laload, 1) (pgm 12 rfl)) (fun x2 => ?_)
    refine so_aload_n (i := 0) X 0 (dkX12_areLike (19, .aload_n 0, 1) (pgm 13 rfl)) rfl rfl ?_
    refine sf_getR X ff_12_30 lk_1732 hk (dkX12_areLike (20, .getfield 67, 3) (pgm 14 rfl)) ?_
    refine so_bipush (v := (64 : Int32)) X (dkX12_areLike (23, .bipush 64, 2) (pgm 15 rfl)) bp_64 ?_
    refine so_iload_n (i := 2) X 2 (dkX12_areLike (25, .iload_n 2, 1) (pgm 16 rfl)) rfl rfl ?_
    refine so_imul X (dkX12_areLike (26, .imul, 1) (pgm 17 rfl)) ?_
    refine so_iload_n (i := 3) X 3 (dkX12_areLike (27, .iload_n 3, 1) (pgm 18 rfl)) rfl rfl ?_
    refine so_iadd X (dkX12_areLike (28, .iadd, 1) (pgm 19 rfl)) ?_
    refine so_lald X (rk_12_30 this hk) (dkX12_areLike (29, .laload, 1) (pgm 20 rfl)) (fun x3 => ?_)
    refine so_lcmp X (dkX12_areLike (30, .lcmp, 1) (pgm 21 rfl)) ?_
    refine so_if_eq (tgt := 36) X (dkX12_areLike (31, .ifCond .eq 5, 3) (pgm 22 rfl)) rfl (fun _ => ?_) (fun _ => ?_)
    · refine so_iinc (i := 3) X 3 (dkX12_areLike (36, .iinc 3 1, 3) (pgm 25 rfl)) rfl rfl (by decide) (Lf := fun x4 => [(3, .int x4), (0, .ref this), (1, .int a1), (2, .int a2)]) (fun _ => rfl) (fun x4 => ?_)
      refine so_goto (tgt := 2) X (dkX12_areLike (39, .goto (-37), 3) (pgm 26 rfl)) rfl ?_
      exact so_pick X [1, 2, 3, 0] rfl (hrec2 x4 hh2)
    · refine so_iconst (v := (0 : Int32)) X (dkX12_areLike (34, .iconst 0, 1) (pgm 23 rfl)) ic_0 ?_
      exact so_zret X hr hlk (dkX12_areLike (35, .ireturn, 1) (pgm 24 rfl))
def pgX12_unlike : List (Nat × Instr × Nat) := [(0, .iconst 0, 1), (1, .istore_n 3, 1), (2, .iconst 0, 1), (3, .istore 4, 2), (5, .iload 4, 2), (7, .iload_n 2, 1), (8, .if_icmp .ge 68, 3), (11, .iconst 1, 1), (12, .istore 5, 2), (14, .iconst 0, 1), (15, .istore 6, 2), (17, .iload 6, 2), (19, .iload 4, 2), (21, .if_icmp .ge 36, 3), (24, .iload 5, 2), (26, .ifCond .eq 22, 3), (29, .aload_n 0, 1), (30, .iload_n 1, 1), (31, .iload 4, 2), (33, .iadd, 1), (34, .iload_n 1, 1), (35, .iload 6, 2), (37, .iadd, 1), (38, .invokevirtual 405, 3), (41, .ifCond .ne 7, 3), (44, .iconst 1, 1), (45, .goto 4, 3), (48, .iconst 0, 1), (49, .istore 5, 2), (51, .iinc 6 1, 3), (54, .goto (-37), 3), (57, .iload_n 3, 1), (58, .iload 5, 2), (60, .ifCond .eq 7, 3), (63, .iconst 1, 1), (64, .goto 4, 3), (67, .iconst 0, 1), (68, .iadd, 1), (69, .istore_n 3, 1), (70, .iinc 4 1, 3), (73, .goto (-68), 3), (76, .iload_n 3, 1), (77, .ireturn, 1)]
theorem dkX12_unlike : ∀ q ∈ pgX12_unlike, decode cX12_unlike q.1 = .ok q.2 := by decide +kernel
def b_X12_unlike_17 (this : Nat) (a1 : Int32) (s5 : Int32 × Int32) (j57 : Int32 → PH → Option (Int32 × PH)) (rec17 : (Int32 × Int32) → PH → Option (Int32 × PH)) (s17 : Int32 × Int32) (hh17 : PH) : Option (Int32 × PH) :=
  if s5.2 ≤ s17.2 then (j57 s17.1 hh17) else (lt (fun (t11 : Int32) (h12 : PH) => lt t11 (fun (x13 : Int32) => lt (s17.2 + Int32.ofInt 1) (fun (x14 : Int32) => rec17 (x13, x14) h12))) (fun (j49 : Int32 → PH → Option (Int32 × PH)) => lt (fun (h15 : PH) => j49 (0 : Int32) h15) (fun (j48 : PH → Option (Int32 × PH)) => if s17.1 = 0 then (j48 hh17) else (cb (f_X12_areLike this (a1 + s5.2) (a1 + s17.2) hh17) (fun (r16 : Int32) (h17 : PH) => if r16 = 0 then (j49 (1 : Int32) h17) else (j48 h17))))))
def b_X12_unlike_5 (this : Nat) (a1 : Int32) (a2 : Int32) (rec5 : (Int32 × Int32) → PH → Option (Int32 × PH)) (s5 : Int32 × Int32) (hh5 : PH) : Option (Int32 × PH) :=
  if a2 ≤ s5.2 then (some (s5.1, hh5)) else (lt (1 : Int32) (fun (x3 : Int32) => lt (0 : Int32) (fun (x4 : Int32) => lt (fun (y5 : Int32) (h6 : PH) => lt (fun (t7 : Int32) (h8 : PH) => lt (s5.1 + t7) (fun (x9 : Int32) => lt (s5.2 + Int32.ofInt 1) (fun (x10 : Int32) => rec5 (x9, x10) h8))) (fun (j68 : Int32 → PH → Option (Int32 × PH)) => if y5 = 0 then (j68 (0 : Int32) h6) else (j68 (1 : Int32) h6))) (fun (j57 : Int32 → PH → Option (Int32 × PH)) => lp (b_X12_unlike_17 this a1 s5 j57) FU (x3, x4) hh5))))
def f_X12_unlike (this : Nat) (a1 : Int32) (a2 : Int32) (h0 : PH) : Option (Int32 × PH) :=
  lt (0 : Int32) (fun (x1 : Int32) => lt (0 : Int32) (fun (x2 : Int32) => lp (b_X12_unlike_5 this a1 a2) FU (x1, x2) h0))
set_option maxRecDepth 100000 in
set_option maxHeartbeats 4000000 in
theorem ct_X12_unlike (l : Launch) (this : Nat) (a1 : Int32) (a2 : Int32) (h0 : PH) (hk : (kd this).1 = 12) : CT mkI l yX12_unlike cX12_unlike 7 (some .int) (rmd 1) [.ref this, .int a1, .int a2] h0 (f_X12_unlike this a1 a2 h0) := by
  refine ct_of (by decide) (Nat.le_of_ble_eq_true rfl) ?_
  intro p e s m args below meth c D cA ad A X hr hlk
  have X : Cx p s m args c RX12 cX12_unlike 7 D cA ad A := X
  unfold f_X12_unlike
  refine so_pick (L' := [(0, .ref this), (1, .int a1), (2, .int a2)]) X [0, 1, 2] rfl ?_
  refine so_iconst (v := (0 : Int32)) X (dkX12_unlike (0, .iconst 0, 1) (pgm 0 rfl)) ic_0 ?_
  refine so_istore_n (i := 3) X (dkX12_unlike (1, .istore_n 3, 1) (pgm 1 rfl)) rfl (by decide) (Lf := fun x1 => [(3, .int x1), (0, .ref this), (1, .int a1), (2, .int a2)]) (fun _ => rfl) (fun x1 => ?_)
  refine so_iconst (v := (0 : Int32)) X (dkX12_unlike (2, .iconst 0, 1) (pgm 2 rfl)) ic_0 ?_
  refine so_istore (i := 4) X (dkX12_unlike (3, .istore 4, 2) (pgm 3 rfl)) (by decide) (Lf := fun x2 => [(4, .int x2), (3, .int x1), (0, .ref this), (1, .int a1), (2, .int a2)]) (fun _ => rfl) (fun x2 => ?_)
  refine so_pick (L' := [(0, .ref this), (1, .int a1), (2, .int a2), (3, .int x1), (4, .int x2)]) X [2, 3, 4, 1, 0] rfl ?_
  refine so_loop (body := b_X12_unlike_5 this a1 a2) (fun (s5 : Int32 × Int32) => [(0, .ref this), (1, .int a1), (2, .int a2), (3, .int s5.1), (4, .int s5.2)]) (fun rec5 hrec5 s5 hh5 => ?_) FU (x1, x2) h0
  unfold b_X12_unlike_5
  refine so_iload (i := 4) X 4 (dkX12_unlike (5, .iload 4, 2) (pgm 4 rfl)) rfl ?_
  refine so_iload_n (i := 2) X 2 (dkX12_unlike (7, .iload_n 2, 1) (pgm 5 rfl)) rfl rfl ?_
  refine so_icmp_ge (tgt := 76) X (dkX12_unlike (8, .if_icmp .ge 68, 3) (pgm 6 rfl)) rfl (fun _ => ?_) (fun _ => ?_)
  · refine so_iload_n (i := 3) X 3 (dkX12_unlike (76, .iload_n 3, 1) (pgm 41 rfl)) rfl rfl ?_
    exact so_iret X hr hlk (dkX12_unlike (77, .ireturn, 1) (pgm 42 rfl))
  · refine so_iconst (v := (1 : Int32)) X (dkX12_unlike (11, .iconst 1, 1) (pgm 7 rfl)) ic_1 ?_
    refine so_istore (i := 5) X (dkX12_unlike (12, .istore 5, 2) (pgm 8 rfl)) (by decide) (Lf := fun x3 => [(5, .int x3), (0, .ref this), (1, .int a1), (2, .int a2), (3, .int s5.1), (4, .int s5.2)]) (fun _ => rfl) (fun x3 => ?_)
    refine so_iconst (v := (0 : Int32)) X (dkX12_unlike (14, .iconst 0, 1) (pgm 9 rfl)) ic_0 ?_
    refine so_istore (i := 6) X (dkX12_unlike (15, .istore 6, 2) (pgm 10 rfl)) (by decide) (Lf := fun x4 => [(6, .int x4), (5, .int x3), (0, .ref this), (1, .int a1), (2, .int a2), (3, .int s5.1), (4, .int s5.2)]) (fun _ => rfl) (fun x4 => ?_)
    refine so_join (jf := fun (y5 : Int32) (h6 : PH) => lt (fun (t7 : Int32) (h8 : PH) => lt (s5.1 + t7) (fun (x9 : Int32) => lt (s5.2 + Int32.ofInt 1) (fun (x10 : Int32) => rec5 (x9, x10) h8))) (fun (j68 : Int32 → PH → Option (Int32 × PH)) => if y5 = 0 then (j68 (0 : Int32) h6) else (j68 (1 : Int32) h6))) (fun (j : Int32 → PH → Option (Int32 × PH)) => ∀ (y5 : Int32) (h6 : PH), SWo (QM mkI below args s D cA ad A) p l e (rmd 1) s m args below meth c 0 0 7 D cA ad A 57 [(0, .ref this), (1, .int a1), (2, .int a2), (3, .int s5.1), (4, .int s5.2), (5, .int y5)] [] h6 (j y5 h6)) ?_ (fun j57 hj57 => ?_)
    · intro y5 h6
      refine so_iload_n (i := 3) X 3 (dkX12_unlike (57, .iload_n 3, 1) (pgm 31 rfl)) rfl rfl ?_
      refine so_iload (i := 5) X 5 (dkX12_unlike (58, .iload 5, 2) (pgm 32 rfl)) rfl ?_
      refine so_join (jf := fun (t7 : Int32) (h8 : PH) => lt (s5.1 + t7) (fun (x9 : Int32) => lt (s5.2 + Int32.ofInt 1) (fun (x10 : Int32) => rec5 (x9, x10) h8))) (fun (j : Int32 → PH → Option (Int32 × PH)) => ∀ (t7 : Int32) (h8 : PH), SWo (QM mkI below args s D cA ad A) p l e (rmd 1) s m args below meth c 0 0 7 D cA ad A 68 [(0, .ref this), (1, .int a1), (2, .int a2), (4, .int s5.2)] [.int t7, .int s5.1] h8 (j t7 h8)) ?_ (fun j68 hj68 => ?_)
      · intro t7 h8
        refine so_iadd X (dkX12_unlike (68, .iadd, 1) (pgm 37 rfl)) ?_
        refine so_istore_n (i := 3) X (dkX12_unlike (69, .istore_n 3, 1) (pgm 38 rfl)) rfl (by decide) (Lf := fun x9 => [(3, .int x9), (0, .ref this), (1, .int a1), (2, .int a2), (4, .int s5.2)]) (fun _ => rfl) (fun x9 => ?_)
        refine so_iinc (i := 4) X 4 (dkX12_unlike (70, .iinc 4 1, 3) (pgm 39 rfl)) rfl rfl (by decide) (Lf := fun x10 => [(4, .int x10), (3, .int x9), (0, .ref this), (1, .int a1), (2, .int a2)]) (fun _ => rfl) (fun x10 => ?_)
        refine so_goto (tgt := 5) X (dkX12_unlike (73, .goto (-68), 3) (pgm 40 rfl)) rfl ?_
        exact so_pick X [2, 3, 4, 1, 0] rfl (hrec5 (x9, x10) h8)
      refine so_if_eq (tgt := 67) X (dkX12_unlike (60, .ifCond .eq 7, 3) (pgm 33 rfl)) rfl (fun _ => ?_) (fun _ => ?_)
      · refine so_iconst (v := (0 : Int32)) X (dkX12_unlike (67, .iconst 0, 1) (pgm 36 rfl)) ic_0 ?_
        exact so_pick X [0, 1, 2, 4] rfl (hj68 (0 : Int32) h6)
      · refine so_iconst (v := (1 : Int32)) X (dkX12_unlike (63, .iconst 1, 1) (pgm 34 rfl)) ic_1 ?_
        refine so_goto (tgt := 68) X (dkX12_unlike (64, .goto 4, 3) (pgm 35 rfl)) rfl ?_
        exact so_pick X [0, 1, 2, 4] rfl (hj68 (1 : Int32) h6)
    refine so_pick (L' := [(0, .ref this), (1, .int a1), (2, .int a2), (3, .int s5.1), (4, .int s5.2), (5, .int x3), (6, .int x4)]) X [2, 3, 4, 5, 6, 1, 0] rfl ?_
    refine so_loop (body := b_X12_unlike_17 this a1 s5 j57) (fun (s17 : Int32 × Int32) => [(0, .ref this), (1, .int a1), (2, .int a2), (3, .int s5.1), (4, .int s5.2), (5, .int s17.1), (6, .int s17.2)]) (fun rec17 hrec17 s17 hh17 => ?_) FU (x3, x4) hh5
    unfold b_X12_unlike_17
    refine so_iload (i := 6) X 6 (dkX12_unlike (17, .iload 6, 2) (pgm 11 rfl)) rfl ?_
    refine so_iload (i := 4) X 4 (dkX12_unlike (19, .iload 4, 2) (pgm 12 rfl)) rfl ?_
    refine so_icmp_ge (tgt := 57) X (dkX12_unlike (21, .if_icmp .ge 36, 3) (pgm 13 rfl)) rfl (fun _ => ?_) (fun _ => ?_)
    · exact so_pick X [0, 1, 2, 3, 4, 5] rfl (hj57 s17.1 hh17)
    · refine so_iload (i := 5) X 5 (dkX12_unlike (24, .iload 5, 2) (pgm 14 rfl)) rfl ?_
      refine so_join (jf := fun (t11 : Int32) (h12 : PH) => lt t11 (fun (x13 : Int32) => lt (s17.2 + Int32.ofInt 1) (fun (x14 : Int32) => rec17 (x13, x14) h12))) (fun (j : Int32 → PH → Option (Int32 × PH)) => ∀ (t11 : Int32) (h12 : PH), SWo (QM mkI below args s D cA ad A) p l e (rmd 1) s m args below meth c 0 0 7 D cA ad A 49 [(0, .ref this), (1, .int a1), (2, .int a2), (3, .int s5.1), (4, .int s5.2), (6, .int s17.2)] [.int t11] h12 (j t11 h12)) ?_ (fun j49 hj49 => ?_)
      · intro t11 h12
        refine so_istore (i := 5) X (dkX12_unlike (49, .istore 5, 2) (pgm 28 rfl)) (by decide) (Lf := fun x13 => [(5, .int x13), (0, .ref this), (1, .int a1), (2, .int a2), (3, .int s5.1), (4, .int s5.2), (6, .int s17.2)]) (fun _ => rfl) (fun x13 => ?_)
        refine so_iinc (i := 6) X 6 (dkX12_unlike (51, .iinc 6 1, 3) (pgm 29 rfl)) rfl rfl (by decide) (Lf := fun x14 => [(6, .int x14), (5, .int x13), (0, .ref this), (1, .int a1), (2, .int a2), (3, .int s5.1), (4, .int s5.2)]) (fun _ => rfl) (fun x14 => ?_)
        refine so_goto (tgt := 17) X (dkX12_unlike (54, .goto (-37), 3) (pgm 30 rfl)) rfl ?_
        exact so_pick X [2, 3, 4, 5, 6, 1, 0] rfl (hrec17 (x13, x14) h12)
      refine so_join (jf := fun (h15 : PH) => j49 (0 : Int32) h15) (fun (j : PH → Option (Int32 × PH)) => ∀  (h15 : PH), SWo (QM mkI below args s D cA ad A) p l e (rmd 1) s m args below meth c 0 0 7 D cA ad A 48 [(0, .ref this), (1, .int a1), (2, .int a2), (3, .int s5.1), (4, .int s5.2), (6, .int s17.2)] [] h15 (j h15)) ?_ (fun j48 hj48 => ?_)
      · intro h15
        refine so_iconst (v := (0 : Int32)) X (dkX12_unlike (48, .iconst 0, 1) (pgm 27 rfl)) ic_0 ?_
        exact so_pick X [0, 1, 2, 3, 4, 5] rfl (hj49 (0 : Int32) h15)
      refine so_if_eq (tgt := 48) X (dkX12_unlike (26, .ifCond .eq 22, 3) (pgm 15 rfl)) rfl (fun _ => ?_) (fun _ => ?_)
      · exact so_pick X [0, 1, 2, 3, 4, 6] rfl (hj48 hh17)
      · refine so_aload_n (i := 0) X 0 (dkX12_unlike (29, .aload_n 0, 1) (pgm 16 rfl)) rfl rfl ?_
        refine so_iload_n (i := 1) X 1 (dkX12_unlike (30, .iload_n 1, 1) (pgm 17 rfl)) rfl rfl ?_
        refine so_iload (i := 4) X 4 (dkX12_unlike (31, .iload 4, 2) (pgm 18 rfl)) rfl ?_
        refine so_iadd X (dkX12_unlike (33, .iadd, 1) (pgm 19 rfl)) ?_
        refine so_iload_n (i := 1) X 1 (dkX12_unlike (34, .iload_n 1, 1) (pgm 20 rfl)) rfl rfl ?_
        refine so_iload (i := 6) X 6 (dkX12_unlike (35, .iload 6, 2) (pgm 21 rfl)) rfl ?_
        refine so_iadd X (dkX12_unlike (37, .iadd, 1) (pgm 22 rfl)) ?_
        refine so_callV (n := 2) (As := [.int (a1 + s5.2), .int (a1 + s17.2)]) X (ct_X12_areLike l this (a1 + s5.2) (a1 + s17.2) hh17 hk) hk (by decide) rfl lk_2174 lk_2176 lk_111 lk_134 lk_2177 (by decide +kernel) rfl rfl rfl (rm_ok (by omega) (by decide)) ⟨Nat.zero_le _, Nat.zero_le _⟩ (Nat.le_of_ble_eq_true rfl) (dkX12_unlike (38, .invokevirtual 405, 3) (pgm 23 rfl)) (fun r16 h17 => ?_) rfl
        refine so_if_ne (tgt := 48) X (dkX12_unlike (41, .ifCond .ne 7, 3) (pgm 24 rfl)) rfl (fun _ => ?_) (fun _ => ?_)
        · exact so_pick X [0, 1, 2, 3, 4, 6] rfl (hj48 h17)
        · refine so_iconst (v := (1 : Int32)) X (dkX12_unlike (44, .iconst 1, 1) (pgm 25 rfl)) ic_1 ?_
          refine so_goto (tgt := 49) X (dkX12_unlike (45, .goto 4, 3) (pgm 26 rfl)) rfl ?_
          exact so_pick X [0, 1, 2, 3, 4, 6] rfl (hj49 (1 : Int32) h17)
def pgX12_holdsIn : List (Nat × Instr × Nat) := [(0, .iconst 0, 1), (1, .istore_n 2, 1), (2, .iconst 0, 1), (3, .istore_n 3, 1), (4, .iload_n 3, 1), (5, .aload_n 0, 1), (6, .invokevirtual 252, 3), (9, .if_icmp .gt 62, 3), (12, .iload_n 2, 1), (13, .aload_n 0, 1), (14, .iload_n 3, 1), (15, .i2l, 1), (16, .invokevirtual 310, 3), (19, .ifCond .ne 43, 3), (22, .aload_n 0, 1), (23, .getfield 67, 3), (26, .bipush 64, 2), (28, .iload_n 1, 1), (29, .imul, 1), (30, .aload_n 0, 1), (31, .getfield 37, 3), (34, .iload_n 3, 1), (35, .iaload, 1), (36, .bipush 64, 2), (38, .idiv, 1), (39, .iadd, 1), (40, .laload, 1), (41, .aload_n 0, 1), (42, .getfield 37, 3), (45, .iload_n 3, 1), (46, .iaload, 1), (47, .bipush 64, 2), (49, .irem, 1), (50, .lshr, 1), (51, .lconst 1, 1), (52, .land, 1), (53, .lconst 1, 1), (54, .lcmp, 1), (55, .ifCond .ne 7, 3), (58, .iconst 1, 1), (59, .goto 4, 3), (62, .iconst 0, 1), (63, .iadd, 1), (64, .istore_n 2, 1), (65, .iinc 3 1, 3), (68, .goto (-64), 3), (71, .iload_n 2, 1), (72, .ireturn, 1)]
theorem dkX12_holdsIn : ∀ q ∈ pgX12_holdsIn, decode cX12_holdsIn q.1 = .ok q.2 := by decide +kernel
def b_X12_holdsIn_4 (this : Nat) (a1 : Int32) (rec4 : (Int32 × Int32) → PH → Option (Int32 × PH)) (s4 : Int32 × Int32) (hh4 : PH) : Option (Int32 × PH) :=
  cb (f_X12_everywhere this hh4) (fun (r3 : Int32) (h4 : PH) => if r3 < s4.2 then (some (s4.1, h4)) else (cb (f_X12_whyNot this s4.2.toInt64 h4) (fun (r5 : Int32) (h6 : PH) => lt (fun (t7 : Int32) (h8 : PH) => lt (s4.1 + t7) (fun (x9 : Int32) => lt (s4.2 + Int32.ofInt 1) (fun (x10 : Int32) => rec4 (x9, x10) h8))) (fun (j63 : Int32 → PH → Option (Int32 × PH)) => lt (fun (h11 : PH) => j63 (0 : Int32) h11) (fun (j62 : PH → Option (Int32 × PH)) => if r5 = 0 then (ldI h6 (rt this 19) 4096 s4.2 (fun (x12 : Int32) => nz (64 : Int32) (ldL h6 (rt this 30) 2496 (((64 : Int32) * a1) + (x12 / (64 : Int32))) (fun (x13 : Int64) => ldI h6 (rt this 19) 4096 s4.2 (fun (x14 : Int32) => nz (64 : Int32) (if (lg_cmp ((x13 >>> ((x14 - x14 / (64 : Int32) * (64 : Int32)).toInt64 &&& 63)) &&& (1 : Int64)) (1 : Int64)) = 0 then (j63 (1 : Int32) h6) else (j62 h6))))))) else (j62 h6))))))
def f_X12_holdsIn (this : Nat) (a1 : Int32) (h0 : PH) : Option (Int32 × PH) :=
  lt (0 : Int32) (fun (x1 : Int32) => lt (0 : Int32) (fun (x2 : Int32) => lp (b_X12_holdsIn_4 this a1) FU (x1, x2) h0))
set_option maxRecDepth 100000 in
set_option maxHeartbeats 4000000 in
theorem ct_X12_holdsIn (l : Launch) (this : Nat) (a1 : Int32) (h0 : PH) (hk : (kd this).1 = 12) : CT mkI l yX12_holdsIn cX12_holdsIn 4 (some .int) (rmd 4) [.ref this, .int a1] h0 (f_X12_holdsIn this a1 h0) := by
  refine ct_of (by decide) (Nat.le_of_ble_eq_true rfl) ?_
  intro p e s m args below meth c D cA ad A X hr hlk
  have X : Cx p s m args c RX12 cX12_holdsIn 4 D cA ad A := X
  unfold f_X12_holdsIn
  refine so_pick (L' := [(0, .ref this), (1, .int a1)]) X [0, 1] rfl ?_
  refine so_iconst (v := (0 : Int32)) X (dkX12_holdsIn (0, .iconst 0, 1) (pgm 0 rfl)) ic_0 ?_
  refine so_istore_n (i := 2) X (dkX12_holdsIn (1, .istore_n 2, 1) (pgm 1 rfl)) rfl (by decide) (Lf := fun x1 => [(2, .int x1), (0, .ref this), (1, .int a1)]) (fun _ => rfl) (fun x1 => ?_)
  refine so_iconst (v := (0 : Int32)) X (dkX12_holdsIn (2, .iconst 0, 1) (pgm 2 rfl)) ic_0 ?_
  refine so_istore_n (i := 3) X (dkX12_holdsIn (3, .istore_n 3, 1) (pgm 3 rfl)) rfl (by decide) (Lf := fun x2 => [(3, .int x2), (2, .int x1), (0, .ref this), (1, .int a1)]) (fun _ => rfl) (fun x2 => ?_)
  refine so_pick (L' := [(0, .ref this), (1, .int a1), (2, .int x1), (3, .int x2)]) X [2, 3, 1, 0] rfl ?_
  refine so_loop (body := b_X12_holdsIn_4 this a1) (fun (s4 : Int32 × Int32) => [(0, .ref this), (1, .int a1), (2, .int s4.1), (3, .int s4.2)]) (fun rec4 hrec4 s4 hh4 => ?_) FU (x1, x2) h0
  unfold b_X12_holdsIn_4
  refine so_iload_n (i := 3) X 3 (dkX12_holdsIn (4, .iload_n 3, 1) (pgm 4 rfl)) rfl rfl ?_
  refine so_aload_n (i := 0) X 0 (dkX12_holdsIn (5, .aload_n 0, 1) (pgm 5 rfl)) rfl rfl ?_
  refine so_callV (n := 0) (As := []) X (ct_X12_everywhere l this hh4 hk) hk (by decide) rfl lk_1664 lk_1666 lk_56 lk_134 lk_1667 (by decide +kernel) rfl rfl rfl (rm_ok (by omega) (by decide)) ⟨Nat.zero_le _, Nat.zero_le _⟩ (Nat.le_of_ble_eq_true rfl) (dkX12_holdsIn (6, .invokevirtual 252, 3) (pgm 6 rfl)) (fun r3 h4 => ?_) rfl
  refine so_icmp_gt (tgt := 71) X (dkX12_holdsIn (9, .if_icmp .gt 62, 3) (pgm 7 rfl)) rfl (fun _ => ?_) (fun _ => ?_)
  · refine so_iload_n (i := 2) X 2 (dkX12_holdsIn (71, .iload_n 2, 1) (pgm 46 rfl)) rfl rfl ?_
    exact so_iret X hr hlk (dkX12_holdsIn (72, .ireturn, 1) (pgm 47 rfl))
  · refine so_iload_n (i := 2) X 2 (dkX12_holdsIn (12, .iload_n 2, 1) (pgm 8 rfl)) rfl rfl ?_
    refine so_aload_n (i := 0) X 0 (dkX12_holdsIn (13, .aload_n 0, 1) (pgm 9 rfl)) rfl rfl ?_
    refine so_iload_n (i := 3) X 3 (dkX12_holdsIn (14, .iload_n 3, 1) (pgm 10 rfl)) rfl rfl ?_
    refine so_i2l X (dkX12_holdsIn (15, .i2l, 1) (pgm 11 rfl)) ?_
    refine so_callV (n := 1) (As := [.long s4.2.toInt64]) X (ct_X12_whyNot l this s4.2.toInt64 h4 hk) hk (by decide) rfl lk_1982 lk_1984 lk_86 lk_134 lk_1985 (by decide +kernel) rfl rfl rfl (rm_ok (by omega) (by decide)) ⟨Nat.zero_le _, Nat.zero_le _⟩ (Nat.le_of_ble_eq_true rfl) (dkX12_holdsIn (16, .invokevirtual 310, 3) (pgm 12 rfl)) (fun r5 h6 => ?_) rfl
    refine so_join (jf := fun (t7 : Int32) (h8 : PH) => lt (s4.1 + t7) (fun (x9 : Int32) => lt (s4.2 + Int32.ofInt 1) (fun (x10 : Int32) => rec4 (x9, x10) h8))) (fun (j : Int32 → PH → Option (Int32 × PH)) => ∀ (t7 : Int32) (h8 : PH), SWo (QM mkI below args s D cA ad A) p l e (rmd 4) s m args below meth c 0 0 4 D cA ad A 63 [(0, .ref this), (1, .int a1), (3, .int s4.2)] [.int t7, .int s4.1] h8 (j t7 h8)) ?_ (fun j63 hj63 => ?_)
    · intro t7 h8
      refine so_iadd X (dkX12_holdsIn (63, .iadd, 1) (pgm 42 rfl)) ?_
      refine so_istore_n (i := 2) X (dkX12_holdsIn (64, .istore_n 2, 1) (pgm 43 rfl)) rfl (by decide) (Lf := fun x9 => [(2, .int x9), (0, .ref this), (1, .int a1), (3, .int s4.2)]) (fun _ => rfl) (fun x9 => ?_)
      refine so_iinc (i := 3) X 3 (dkX12_holdsIn (65, .iinc 3 1, 3) (pgm 44 rfl)) rfl rfl (by decide) (Lf := fun x10 => [(3, .int x10), (2, .int x9), (0, .ref this), (1, .int a1)]) (fun _ => rfl) (fun x10 => ?_)
      refine so_goto (tgt := 4) X (dkX12_holdsIn (68, .goto (-64), 3) (pgm 45 rfl)) rfl ?_
      exact so_pick X [2, 3, 1, 0] rfl (hrec4 (x9, x10) h8)
    refine so_join (jf := fun (h11 : PH) => j63 (0 : Int32) h11) (fun (j : PH → Option (Int32 × PH)) => ∀  (h11 : PH), SWo (QM mkI below args s D cA ad A) p l e (rmd 4) s m args below meth c 0 0 4 D cA ad A 62 [(0, .ref this), (1, .int a1), (3, .int s4.2)] [.int s4.1] h11 (j h11)) ?_ (fun j62 hj62 => ?_)
    · intro h11
      refine so_iconst (v := (0 : Int32)) X (dkX12_holdsIn (62, .iconst 0, 1) (pgm 41 rfl)) ic_0 ?_
      exact so_pick X [0, 1, 2] rfl (hj63 (0 : Int32) h11)
    refine so_if_ne (tgt := 62) X (dkX12_holdsIn (19, .ifCond .ne 43, 3) (pgm 13 rfl)) rfl (fun _ => ?_) (fun _ => ?_)
    · exact so_pick X [0, 1, 3] rfl (hj62 h6)
    · refine so_aload_n (i := 0) X 0 (dkX12_holdsIn (22, .aload_n 0, 1) (pgm 14 rfl)) rfl rfl ?_
      refine sf_getR X ff_12_30 lk_1732 hk (dkX12_holdsIn (23, .getfield 67, 3) (pgm 15 rfl)) ?_
      refine so_bipush (v := (64 : Int32)) X (dkX12_holdsIn (26, .bipush 64, 2) (pgm 16 rfl)) bp_64 ?_
      refine so_iload_n (i := 1) X 1 (dkX12_holdsIn (28, .iload_n 1, 1) (pgm 17 rfl)) rfl rfl ?_
      refine so_imul X (dkX12_holdsIn (29, .imul, 1) (pgm 18 rfl)) ?_
      refine so_aload_n (i := 0) X 0 (dkX12_holdsIn (30, .aload_n 0, 1) (pgm 19 rfl)) rfl rfl ?_
      refine sf_getR X ff_12_19 lk_1721 hk (dkX12_holdsIn (31, .getfield 37, 3) (pgm 20 rfl)) ?_
      refine so_iload_n (i := 3) X 3 (dkX12_holdsIn (34, .iload_n 3, 1) (pgm 21 rfl)) rfl rfl ?_
      refine so_iald X (rk_12_19 this hk) (dkX12_holdsIn (35, .iaload, 1) (pgm 22 rfl)) (fun x12 => ?_)
      refine so_bipush (v := (64 : Int32)) X (dkX12_holdsIn (36, .bipush 64, 2) (pgm 23 rfl)) bp_64 ?_
      refine so_idiv X (dkX12_holdsIn (38, .idiv, 1) (pgm 24 rfl)) (fun _ => ?_)
      refine so_iadd X (dkX12_holdsIn (39, .iadd, 1) (pgm 25 rfl)) ?_
      refine so_lald X (rk_12_30 this hk) (dkX12_holdsIn (40, .laload, 1) (pgm 26 rfl)) (fun x13 => ?_)
      refine so_aload_n (i := 0) X 0 (dkX12_holdsIn (41, .aload_n 0, 1) (pgm 27 rfl)) rfl rfl ?_
      refine sf_getR X ff_12_19 lk_1721 hk (dkX12_holdsIn (42, .getfield 37, 3) (pgm 28 rfl)) ?_
      refine so_iload_n (i := 3) X 3 (dkX12_holdsIn (45, .iload_n 3, 1) (pgm 29 rfl)) rfl rfl ?_
      refine so_iald X (rk_12_19 this hk) (dkX12_holdsIn (46, .iaload, 1) (pgm 30 rfl)) (fun x14 => ?_)
      refine so_bipush (v := (64 : Int32)) X (dkX12_holdsIn (47, .bipush 64, 2) (pgm 31 rfl)) bp_64 ?_
      refine so_irem X (dkX12_holdsIn (49, .irem, 1) (pgm 32 rfl)) (fun _ => ?_)
      refine so_lshr X (dkX12_holdsIn (50, .lshr, 1) (pgm 33 rfl)) ?_
      refine so_lconst (v := (1 : Int64)) X (dkX12_holdsIn (51, .lconst 1, 1) (pgm 34 rfl)) lc_1 ?_
      refine so_land X (dkX12_holdsIn (52, .land, 1) (pgm 35 rfl)) ?_
      refine so_lconst (v := (1 : Int64)) X (dkX12_holdsIn (53, .lconst 1, 1) (pgm 36 rfl)) lc_1 ?_
      refine so_lcmp X (dkX12_holdsIn (54, .lcmp, 1) (pgm 37 rfl)) ?_
      refine so_if_ne (tgt := 62) X (dkX12_holdsIn (55, .ifCond .ne 7, 3) (pgm 38 rfl)) rfl (fun _ => ?_) (fun _ => ?_)
      · exact so_pick X [0, 1, 3] rfl (hj62 h6)
      · refine so_iconst (v := (1 : Int32)) X (dkX12_holdsIn (58, .iconst 1, 1) (pgm 39 rfl)) ic_1 ?_
        refine so_goto (tgt := 63) X (dkX12_holdsIn (59, .goto 4, 3) (pgm 40 rfl)) rfl ?_
        exact so_pick X [0, 1, 3] rfl (hj63 (1 : Int32) h6)
def pgX12_keeps : List (Nat × Instr × Nat) := [(0, .aload_n 0, 1), (1, .getfield 9, 3), (4, .bipush 6, 2), (6, .iaload, 1), (7, .bipush 10, 2), (9, .if_icmp .ne 45, 3), (12, .bipush 66, 2), (14, .istore_n 1, 1), (15, .iload_n 1, 1), (16, .sipush 219, 3), (19, .if_icmp .ge 24, 3), (22, .aload_n 0, 1), (23, .getfield 9, 3), (26, .iload_n 1, 1), (27, .aload_n 0, 1), (28, .getfield 9, 3), (31, .iload_n 1, 1), (32, .bipush 17, 2), (34, .iadd, 1), (35, .iaload, 1), (36, .iastore, 1), (37, .iinc 1 1, 3), (40, .goto (-25), 3), (43, .aload_n 0, 1), (44, .getfield 9, 3), (47, .bipush 6, 2), (49, .dup2, 1), (50, .iaload, 1), (51, .iconst 1, 1), (52, .isub, 1), (53, .iastore, 1), (54, .iconst 0, 1), (55, .istore_n 1, 1), (56, .iload_n 1, 1), (57, .bipush 17, 2), (59, .if_icmp .ge 38, 3), (62, .aload_n 0, 1), (63, .getfield 9, 3), (66, .bipush 66, 2), (68, .bipush 17, 2), (70, .aload_n 0, 1), (71, .getfield 9, 3), (74, .bipush 6, 2), (76, .iaload, 1), (77, .imul, 1), (78, .iadd, 1), (79, .iload_n 1, 1), (80, .iadd, 1), (81, .aload_n 0, 1), (82, .getfield 9, 3), (85, .bipush 7, 2), (87, .iload_n 1, 1), (88, .iadd, 1), (89, .iaload, 1), (90, .iastore, 1), (91, .iinc 1 1, 3), (94, .goto (-38), 3), (97, .aload_n 0, 1), (98, .getfield 9, 3), (101, .bipush 6, 2), (103, .dup2, 1), (104, .iaload, 1), (105, .iconst 1, 1), (106, .iadd, 1), (107, .iastore, 1), (108, .return_, 1)]
theorem dkX12_keeps : ∀ q ∈ pgX12_keeps, decode cX12_keeps q.1 = .ok q.2 := by decide +kernel
def b_X12_keeps_56 (this : Nat) (j97 : PH → Option (Unit × PH)) (rec56 : (Int32) → PH → Option (Unit × PH)) (s56 : Int32) (hh56 : PH) : Option (Unit × PH) :=
  if (17 : Int32) ≤ s56 then (j97 hh56) else (ldI hh56 (rt this 0) 1200 (6 : Int32) (fun (x7 : Int32) => ldI hh56 (rt this 0) 1200 ((7 : Int32) + s56) (fun (x8 : Int32) => stI hh56 (rt this 0) 1200 (((66 : Int32) + ((17 : Int32) * x7)) + s56) x8 (fun (h9 : PH) => lt (s56 + Int32.ofInt 1) (fun (x10 : Int32) => rec56 x10 h9)))))
def b_X12_keeps_15 (this : Nat) (j43 : PH → Option (Unit × PH)) (rec15 : (Int32) → PH → Option (Unit × PH)) (s15 : Int32) (hh15 : PH) : Option (Unit × PH) :=
  if (219 : Int32) ≤ s15 then (j43 hh15) else (ldI hh15 (rt this 0) 1200 (s15 + (17 : Int32)) (fun (x15 : Int32) => stI hh15 (rt this 0) 1200 s15 x15 (fun (h16 : PH) => lt (s15 + Int32.ofInt 1) (fun (x17 : Int32) => rec15 x17 h16))))
def f_X12_keeps (this : Nat) (h0 : PH) : Option (Unit × PH) :=
  ldI h0 (rt this 0) 1200 (6 : Int32) (fun (x1 : Int32) => lt (fun (h2 : PH) => lt (0 : Int32) (fun (x3 : Int32) => lt (fun (h4 : PH) => ldI h4 (rt this 0) 1200 (6 : Int32) (fun (x5 : Int32) => stI h4 (rt this 0) 1200 (6 : Int32) (x5 + (1 : Int32)) (fun (h6 : PH) => some ((), h6)))) (fun (j97 : PH → Option (Unit × PH)) => lp (b_X12_keeps_56 this j97) FU x3 h2))) (fun (j54 : PH → Option (Unit × PH)) => if x1 = (10 : Int32) then (lt (66 : Int32) (fun (x11 : Int32) => lt (fun (h12 : PH) => ldI h12 (rt this 0) 1200 (6 : Int32) (fun (x13 : Int32) => stI h12 (rt this 0) 1200 (6 : Int32) (x13 - (1 : Int32)) (fun (h14 : PH) => j54 h14))) (fun (j43 : PH → Option (Unit × PH)) => lp (b_X12_keeps_15 this j43) FU x11 h0))) else (j54 h0)))
set_option maxRecDepth 100000 in
set_option maxHeartbeats 4000000 in
theorem ct_X12_keeps (l : Launch) (this : Nat) (h0 : PH) (hk : (kd this).1 = 12) : CT mkV l yX12_keeps cX12_keeps 2 none (rmd 0) [.ref this] h0 (f_X12_keeps this h0) := by
  refine ct_of (by decide) (Nat.le_of_ble_eq_true rfl) ?_
  intro p e s m args below meth c D cA ad A X hr hlk
  have X : Cx p s m args c RX12 cX12_keeps 2 D cA ad A := X
  unfold f_X12_keeps
  refine so_pick (L' := [(0, .ref this)]) X [0] rfl ?_
  refine so_aload_n (i := 0) X 0 (dkX12_keeps (0, .aload_n 0, 1) (pgm 0 rfl)) rfl rfl ?_
  refine sf_getR X ff_12_0 lk_1702 hk (dkX12_keeps (1, .getfield 9, 3) (pgm 1 rfl)) ?_
  refine so_bipush (v := (6 : Int32)) X (dkX12_keeps (4, .bipush 6, 2) (pgm 2 rfl)) bp_6 ?_
  refine so_iald X (rk_12_0 this hk) (dkX12_keeps (6, .iaload, 1) (pgm 3 rfl)) (fun x1 => ?_)
  refine so_bipush (v := (10 : Int32)) X (dkX12_keeps (7, .bipush 10, 2) (pgm 4 rfl)) bp_10 ?_
  refine so_join (jf := fun (h2 : PH) => lt (0 : Int32) (fun (x3 : Int32) => lt (fun (h4 : PH) => ldI h4 (rt this 0) 1200 (6 : Int32) (fun (x5 : Int32) => stI h4 (rt this 0) 1200 (6 : Int32) (x5 + (1 : Int32)) (fun (h6 : PH) => some ((), h6)))) (fun (j97 : PH → Option (Unit × PH)) => lp (b_X12_keeps_56 this j97) FU x3 h2))) (fun (j : PH → Option (Unit × PH)) => ∀  (h2 : PH), SWo (QM mkV below args s D cA ad A) p l e (rmd 0) s m args below meth c 0 0 2 D cA ad A 54 [(0, .ref this)] [] h2 (j h2)) ?_ (fun j54 hj54 => ?_)
  · intro h2
    refine so_iconst (v := (0 : Int32)) X (dkX12_keeps (54, .iconst 0, 1) (pgm 31 rfl)) ic_0 ?_
    refine so_istore_n (i := 1) X (dkX12_keeps (55, .istore_n 1, 1) (pgm 32 rfl)) rfl (by decide) (Lf := fun x3 => [(1, .int x3), (0, .ref this)]) (fun _ => rfl) (fun x3 => ?_)
    refine so_join (jf := fun (h4 : PH) => ldI h4 (rt this 0) 1200 (6 : Int32) (fun (x5 : Int32) => stI h4 (rt this 0) 1200 (6 : Int32) (x5 + (1 : Int32)) (fun (h6 : PH) => some ((), h6)))) (fun (j : PH → Option (Unit × PH)) => ∀  (h4 : PH), SWo (QM mkV below args s D cA ad A) p l e (rmd 0) s m args below meth c 0 0 2 D cA ad A 97 [(0, .ref this)] [] h4 (j h4)) ?_ (fun j97 hj97 => ?_)
    · intro h4
      refine so_aload_n (i := 0) X 0 (dkX12_keeps (97, .aload_n 0, 1) (pgm 57 rfl)) rfl rfl ?_
      refine sf_getR X ff_12_0 lk_1702 hk (dkX12_keeps (98, .getfield 9, 3) (pgm 58 rfl)) ?_
      refine so_bipush (v := (6 : Int32)) X (dkX12_keeps (101, .bipush 6, 2) (pgm 59 rfl)) bp_6 ?_
      refine so_dup2 X (dkX12_keeps (103, .dup2, 1) (pgm 60 rfl)) rfl rfl ?_
      refine so_iald X (rk_12_0 this hk) (dkX12_keeps (104, .iaload, 1) (pgm 61 rfl)) (fun x5 => ?_)
      refine so_iconst (v := (1 : Int32)) X (dkX12_keeps (105, .iconst 1, 1) (pgm 62 rfl)) ic_1 ?_
      refine so_iadd X (dkX12_keeps (106, .iadd, 1) (pgm 63 rfl)) ?_
      refine so_iast X (rk_12_0 this hk) (dkX12_keeps (107, .iastore, 1) (pgm 64 rfl)) (fun h6 => ?_)
      exact so_vret X hr hlk (dkX12_keeps (108, .return_, 1) (pgm 65 rfl))
    refine so_pick (L' := [(0, .ref this), (1, .int x3)]) X [1, 0] rfl ?_
    refine so_loop (body := b_X12_keeps_56 this j97) (fun (s56 : Int32) => [(0, .ref this), (1, .int s56)]) (fun rec56 hrec56 s56 hh56 => ?_) FU x3 h2
    unfold b_X12_keeps_56
    refine so_iload_n (i := 1) X 1 (dkX12_keeps (56, .iload_n 1, 1) (pgm 33 rfl)) rfl rfl ?_
    refine so_bipush (v := (17 : Int32)) X (dkX12_keeps (57, .bipush 17, 2) (pgm 34 rfl)) bp_17 ?_
    refine so_icmp_ge (tgt := 97) X (dkX12_keeps (59, .if_icmp .ge 38, 3) (pgm 35 rfl)) rfl (fun _ => ?_) (fun _ => ?_)
    · exact so_pick X [0] rfl (hj97 hh56)
    · refine so_aload_n (i := 0) X 0 (dkX12_keeps (62, .aload_n 0, 1) (pgm 36 rfl)) rfl rfl ?_
      refine sf_getR X ff_12_0 lk_1702 hk (dkX12_keeps (63, .getfield 9, 3) (pgm 37 rfl)) ?_
      refine so_bipush (v := (66 : Int32)) X (dkX12_keeps (66, .bipush 66, 2) (pgm 38 rfl)) bp_66 ?_
      refine so_bipush (v := (17 : Int32)) X (dkX12_keeps (68, .bipush 17, 2) (pgm 39 rfl)) bp_17 ?_
      refine so_aload_n (i := 0) X 0 (dkX12_keeps (70, .aload_n 0, 1) (pgm 40 rfl)) rfl rfl ?_
      refine sf_getR X ff_12_0 lk_1702 hk (dkX12_keeps (71, .getfield 9, 3) (pgm 41 rfl)) ?_
      refine so_bipush (v := (6 : Int32)) X (dkX12_keeps (74, .bipush 6, 2) (pgm 42 rfl)) bp_6 ?_
      refine so_iald X (rk_12_0 this hk) (dkX12_keeps (76, .iaload, 1) (pgm 43 rfl)) (fun x7 => ?_)
      refine so_imul X (dkX12_keeps (77, .imul, 1) (pgm 44 rfl)) ?_
      refine so_iadd X (dkX12_keeps (78, .iadd, 1) (pgm 45 rfl)) ?_
      refine so_iload_n (i := 1) X 1 (dkX12_keeps (79, .iload_n 1, 1) (pgm 46 rfl)) rfl rfl ?_
      refine so_iadd X (dkX12_keeps (80, .iadd, 1) (pgm 47 rfl)) ?_
      refine so_aload_n (i := 0) X 0 (dkX12_keeps (81, .aload_n 0, 1) (pgm 48 rfl)) rfl rfl ?_
      refine sf_getR X ff_12_0 lk_1702 hk (dkX12_keeps (82, .getfield 9, 3) (pgm 49 rfl)) ?_
      refine so_bipush (v := (7 : Int32)) X (dkX12_keeps (85, .bipush 7, 2) (pgm 50 rfl)) bp_7 ?_
      refine so_iload_n (i := 1) X 1 (dkX12_keeps (87, .iload_n 1, 1) (pgm 51 rfl)) rfl rfl ?_
      refine so_iadd X (dkX12_keeps (88, .iadd, 1) (pgm 52 rfl)) ?_
      refine so_iald X (rk_12_0 this hk) (dkX12_keeps (89, .iaload, 1) (pgm 53 rfl)) (fun x8 => ?_)
      refine so_iast X (rk_12_0 this hk) (dkX12_keeps (90, .iastore, 1) (pgm 54 rfl)) (fun h9 => ?_)
      refine so_iinc (i := 1) X 1 (dkX12_keeps (91, .iinc 1 1, 3) (pgm 55 rfl)) rfl rfl (by decide) (Lf := fun x10 => [(1, .int x10), (0, .ref this)]) (fun _ => rfl) (fun x10 => ?_)
      refine so_goto (tgt := 56) X (dkX12_keeps (94, .goto (-38), 3) (pgm 56 rfl)) rfl ?_
      exact so_pick X [1, 0] rfl (hrec56 x10 h9)
  refine so_icmp_ne (tgt := 54) X (dkX12_keeps (9, .if_icmp .ne 45, 3) (pgm 5 rfl)) rfl (fun _ => ?_) (fun _ => ?_)
  · exact so_pick X [0] rfl (hj54 h0)
  · refine so_bipush (v := (66 : Int32)) X (dkX12_keeps (12, .bipush 66, 2) (pgm 6 rfl)) bp_66 ?_
    refine so_istore_n (i := 1) X (dkX12_keeps (14, .istore_n 1, 1) (pgm 7 rfl)) rfl (by decide) (Lf := fun x11 => [(1, .int x11), (0, .ref this)]) (fun _ => rfl) (fun x11 => ?_)
    refine so_join (jf := fun (h12 : PH) => ldI h12 (rt this 0) 1200 (6 : Int32) (fun (x13 : Int32) => stI h12 (rt this 0) 1200 (6 : Int32) (x13 - (1 : Int32)) (fun (h14 : PH) => j54 h14))) (fun (j : PH → Option (Unit × PH)) => ∀  (h12 : PH), SWo (QM mkV below args s D cA ad A) p l e (rmd 0) s m args below meth c 0 0 2 D cA ad A 43 [(0, .ref this)] [] h12 (j h12)) ?_ (fun j43 hj43 => ?_)
    · intro h12
      refine so_aload_n (i := 0) X 0 (dkX12_keeps (43, .aload_n 0, 1) (pgm 23 rfl)) rfl rfl ?_
      refine sf_getR X ff_12_0 lk_1702 hk (dkX12_keeps (44, .getfield 9, 3) (pgm 24 rfl)) ?_
      refine so_bipush (v := (6 : Int32)) X (dkX12_keeps (47, .bipush 6, 2) (pgm 25 rfl)) bp_6 ?_
      refine so_dup2 X (dkX12_keeps (49, .dup2, 1) (pgm 26 rfl)) rfl rfl ?_
      refine so_iald X (rk_12_0 this hk) (dkX12_keeps (50, .iaload, 1) (pgm 27 rfl)) (fun x13 => ?_)
      refine so_iconst (v := (1 : Int32)) X (dkX12_keeps (51, .iconst 1, 1) (pgm 28 rfl)) ic_1 ?_
      refine so_isub X (dkX12_keeps (52, .isub, 1) (pgm 29 rfl)) ?_
      refine so_iast X (rk_12_0 this hk) (dkX12_keeps (53, .iastore, 1) (pgm 30 rfl)) (fun h14 => ?_)
      exact so_pick X [0] rfl (hj54 h14)
    refine so_pick (L' := [(0, .ref this), (1, .int x11)]) X [1, 0] rfl ?_
    refine so_loop (body := b_X12_keeps_15 this j43) (fun (s15 : Int32) => [(0, .ref this), (1, .int s15)]) (fun rec15 hrec15 s15 hh15 => ?_) FU x11 h0
    unfold b_X12_keeps_15
    refine so_iload_n (i := 1) X 1 (dkX12_keeps (15, .iload_n 1, 1) (pgm 8 rfl)) rfl rfl ?_
    refine so_sipush (v := (219 : Int32)) X (dkX12_keeps (16, .sipush 219, 3) (pgm 9 rfl)) sp_219 ?_
    refine so_icmp_ge (tgt := 43) X (dkX12_keeps (19, .if_icmp .ge 24, 3) (pgm 10 rfl)) rfl (fun _ => ?_) (fun _ => ?_)
    · exact so_pick X [0] rfl (hj43 hh15)
    · refine so_aload_n (i := 0) X 0 (dkX12_keeps (22, .aload_n 0, 1) (pgm 11 rfl)) rfl rfl ?_
      refine sf_getR X ff_12_0 lk_1702 hk (dkX12_keeps (23, .getfield 9, 3) (pgm 12 rfl)) ?_
      refine so_iload_n (i := 1) X 1 (dkX12_keeps (26, .iload_n 1, 1) (pgm 13 rfl)) rfl rfl ?_
      refine so_aload_n (i := 0) X 0 (dkX12_keeps (27, .aload_n 0, 1) (pgm 14 rfl)) rfl rfl ?_
      refine sf_getR X ff_12_0 lk_1702 hk (dkX12_keeps (28, .getfield 9, 3) (pgm 15 rfl)) ?_
      refine so_iload_n (i := 1) X 1 (dkX12_keeps (31, .iload_n 1, 1) (pgm 16 rfl)) rfl rfl ?_
      refine so_bipush (v := (17 : Int32)) X (dkX12_keeps (32, .bipush 17, 2) (pgm 17 rfl)) bp_17 ?_
      refine so_iadd X (dkX12_keeps (34, .iadd, 1) (pgm 18 rfl)) ?_
      refine so_iald X (rk_12_0 this hk) (dkX12_keeps (35, .iaload, 1) (pgm 19 rfl)) (fun x15 => ?_)
      refine so_iast X (rk_12_0 this hk) (dkX12_keeps (36, .iastore, 1) (pgm 20 rfl)) (fun h16 => ?_)
      refine so_iinc (i := 1) X 1 (dkX12_keeps (37, .iinc 1 1, 3) (pgm 21 rfl)) rfl rfl (by decide) (Lf := fun x17 => [(1, .int x17), (0, .ref this)]) (fun _ => rfl) (fun x17 => ?_)
      refine so_goto (tgt := 15) X (dkX12_keeps (40, .goto (-25), 3) (pgm 22 rfl)) rfl ?_
      exact so_pick X [1, 0] rfl (hrec15 x17 h16)
def pgX12_goesBy : List (Nat × Instr × Nat) := [(0, .aload_n 0, 1), (1, .aload_n 0, 1), (2, .getfield 37, 3), (5, .iload_n 1, 1), (6, .iaload, 1), (7, .invokevirtual 302, 3), (10, .istore_n 2, 1), (11, .aload_n 0, 1), (12, .getfield 9, 3), (15, .bipush 7, 2), (17, .dup2, 1), (18, .iaload, 1), (19, .iload_n 2, 1), (20, .iconst (-1), 1), (21, .ixor, 1), (22, .iand, 1), (23, .iastore, 1), (24, .iconst 0, 1), (25, .istore_n 3, 1), (26, .iload_n 3, 1), (27, .aload_n 0, 1), (28, .getfield 9, 3), (31, .iconst 5, 1), (32, .iaload, 1), (33, .if_icmp .ge 67, 3), (36, .iload_n 2, 1), (37, .iload_n 3, 1), (38, .invokestatic 279, 3), (41, .ifCond .eq 32, 3), (44, .aload_n 0, 1), (45, .getfield 9, 3), (48, .bipush 18, 2), (50, .aload_n 0, 1), (51, .getfield 9, 3), (54, .bipush 24, 2), (56, .iload_n 3, 1), (57, .iadd, 1), (58, .iaload, 1), (59, .iadd, 1), (60, .dup2, 1), (61, .iaload, 1), (62, .aload_n 0, 1), (63, .getfield 9, 3), (66, .bipush 34, 2), (68, .iload_n 3, 1), (69, .iadd, 1), (70, .iaload, 1), (71, .iadd, 1), (72, .iastore, 1), (73, .aload_n 0, 1), (74, .iload_n 3, 1), (75, .invokevirtual 289, 3), (78, .ifCond .eq 16, 3), (81, .aload_n 0, 1), (82, .getfield 9, 3), (85, .bipush 8, 2), (87, .iload_n 3, 1), (88, .iadd, 1), (89, .dup2, 1), (90, .iaload, 1), (91, .iconst 1, 1), (92, .iadd, 1), (93, .iastore, 1), (94, .iinc 3 1, 3), (97, .goto (-71), 3), (100, .aload_n 0, 1), (101, .iload_n 2, 1), (102, .invokevirtual 327, 3), (105, .ireturn, 1)]
theorem dkX12_goesBy : ∀ q ∈ pgX12_goesBy, decode cX12_goesBy q.1 = .ok q.2 := by decide +kernel
def b_X12_goesBy_26 (this : Nat) (x4 : Int32) (j100 : PH → Option (Int32 × PH)) (rec26 : (Int32) → PH → Option (Int32 × PH)) (s26 : Int32) (hh26 : PH) : Option (Int32 × PH) :=
  ldI hh26 (rt this 0) 1200 (5 : Int32) (fun (x11 : Int32) => if x11 ≤ s26 then (j100 hh26) else (cb (f_X12_has x4 s26 hh26) (fun (r12 : Int32) (h13 : PH) => lt (fun (h14 : PH) => cb (f_X12_isOpen this s26 h14) (fun (r15 : Int32) (h16 : PH) => lt (fun (h17 : PH) => lt (s26 + Int32.ofInt 1) (fun (x18 : Int32) => rec26 x18 h17)) (fun (j94 : PH → Option (Int32 × PH)) => if r15 = 0 then (j94 h16) else (ldI h16 (rt this 0) 1200 ((8 : Int32) + s26) (fun (x19 : Int32) => stI h16 (rt this 0) 1200 ((8 : Int32) + s26) (x19 + (1 : Int32)) (fun (h20 : PH) => j94 h20)))))) (fun (j73 : PH → Option (Int32 × PH)) => if r12 = 0 then (j73 h13) else (ldI h13 (rt this 0) 1200 ((24 : Int32) + s26) (fun (x21 : Int32) => ldI h13 (rt this 0) 1200 ((18 : Int32) + x21) (fun (x22 : Int32) => ldI h13 (rt this 0) 1200 ((34 : Int32) + s26) (fun (x23 : Int32) => stI h13 (rt this 0) 1200 ((18 : Int32) + x21) (x22 + x23) (fun (h24 : PH) => j73 h24)))))))))
def f_X12_goesBy (this : Nat) (a1 : Int32) (h0 : PH) : Option (Int32 × PH) :=
  ldI h0 (rt this 19) 4096 a1 (fun (x1 : Int32) => cb (f_X12_grantedIn this x1 h0) (fun (r2 : Int32) (h3 : PH) => lt r2 (fun (x4 : Int32) => ldI h3 (rt this 0) 1200 (7 : Int32) (fun (x5 : Int32) => stI h3 (rt this 0) 1200 (7 : Int32) (x5 &&& (x4 ^^^ (-1 : Int32))) (fun (h6 : PH) => lt (0 : Int32) (fun (x7 : Int32) => lt (fun (h8 : PH) => cb (f_X12_weight this x4 h8) (fun (r9 : Int32) (h10 : PH) => some (r9, h10))) (fun (j100 : PH → Option (Int32 × PH)) => lp (b_X12_goesBy_26 this x4 j100) FU x7 h6)))))))
set_option maxRecDepth 100000 in
set_option maxHeartbeats 4000000 in
theorem ct_X12_goesBy (l : Launch) (this : Nat) (a1 : Int32) (h0 : PH) (hk : (kd this).1 = 12) : CT mkI l yX12_goesBy cX12_goesBy 4 (some .int) (rmd 3) [.ref this, .int a1] h0 (f_X12_goesBy this a1 h0) := by
  refine ct_of (by decide) (Nat.le_of_ble_eq_true rfl) ?_
  intro p e s m args below meth c D cA ad A X hr hlk
  have X : Cx p s m args c RX12 cX12_goesBy 4 D cA ad A := X
  unfold f_X12_goesBy
  refine so_pick (L' := [(0, .ref this), (1, .int a1)]) X [0, 1] rfl ?_
  refine so_aload_n (i := 0) X 0 (dkX12_goesBy (0, .aload_n 0, 1) (pgm 0 rfl)) rfl rfl ?_
  refine so_aload_n (i := 0) X 0 (dkX12_goesBy (1, .aload_n 0, 1) (pgm 1 rfl)) rfl rfl ?_
  refine sf_getR X ff_12_19 lk_1721 hk (dkX12_goesBy (2, .getfield 37, 3) (pgm 2 rfl)) ?_
  refine so_iload_n (i := 1) X 1 (dkX12_goesBy (5, .iload_n 1, 1) (pgm 3 rfl)) rfl rfl ?_
  refine so_iald X (rk_12_19 this hk) (dkX12_goesBy (6, .iaload, 1) (pgm 4 rfl)) (fun x1 => ?_)
  refine so_callV (n := 1) (As := [.int x1]) X (ct_X12_grantedIn l this x1 h0 hk) hk (by decide) rfl lk_1990 lk_1992 lk_88 lk_134 lk_1993 (by decide +kernel) rfl rfl rfl (rm_ok (by omega) (by decide)) ⟨Nat.zero_le _, Nat.zero_le _⟩ (Nat.le_of_ble_eq_true rfl) (dkX12_goesBy (7, .invokevirtual 302, 3) (pgm 5 rfl)) (fun r2 h3 => ?_) rfl
  refine so_istore_n (i := 2) X (dkX12_goesBy (10, .istore_n 2, 1) (pgm 6 rfl)) rfl (by decide) (Lf := fun x4 => [(2, .int x4), (0, .ref this), (1, .int a1)]) (fun _ => rfl) (fun x4 => ?_)
  refine so_aload_n (i := 0) X 1 (dkX12_goesBy (11, .aload_n 0, 1) (pgm 7 rfl)) rfl rfl ?_
  refine sf_getR X ff_12_0 lk_1702 hk (dkX12_goesBy (12, .getfield 9, 3) (pgm 8 rfl)) ?_
  refine so_bipush (v := (7 : Int32)) X (dkX12_goesBy (15, .bipush 7, 2) (pgm 9 rfl)) bp_7 ?_
  refine so_dup2 X (dkX12_goesBy (17, .dup2, 1) (pgm 10 rfl)) rfl rfl ?_
  refine so_iald X (rk_12_0 this hk) (dkX12_goesBy (18, .iaload, 1) (pgm 11 rfl)) (fun x5 => ?_)
  refine so_iload_n (i := 2) X 0 (dkX12_goesBy (19, .iload_n 2, 1) (pgm 12 rfl)) rfl rfl ?_
  refine so_iconst (v := (-1 : Int32)) X (dkX12_goesBy (20, .iconst (-1), 1) (pgm 13 rfl)) ic_m1 ?_
  refine so_ixor X (dkX12_goesBy (21, .ixor, 1) (pgm 14 rfl)) ?_
  refine so_iand X (dkX12_goesBy (22, .iand, 1) (pgm 15 rfl)) ?_
  refine so_iast X (rk_12_0 this hk) (dkX12_goesBy (23, .iastore, 1) (pgm 16 rfl)) (fun h6 => ?_)
  refine so_iconst (v := (0 : Int32)) X (dkX12_goesBy (24, .iconst 0, 1) (pgm 17 rfl)) ic_0 ?_
  refine so_istore_n (i := 3) X (dkX12_goesBy (25, .istore_n 3, 1) (pgm 18 rfl)) rfl (by decide) (Lf := fun x7 => [(3, .int x7), (2, .int x4), (0, .ref this), (1, .int a1)]) (fun _ => rfl) (fun x7 => ?_)
  refine so_join (jf := fun (h8 : PH) => cb (f_X12_weight this x4 h8) (fun (r9 : Int32) (h10 : PH) => some (r9, h10))) (fun (j : PH → Option (Int32 × PH)) => ∀  (h8 : PH), SWo (QM mkI below args s D cA ad A) p l e (rmd 3) s m args below meth c 0 0 4 D cA ad A 100 [(0, .ref this), (2, .int x4)] [] h8 (j h8)) ?_ (fun j100 hj100 => ?_)
  · intro h8
    refine so_aload_n (i := 0) X 0 (dkX12_goesBy (100, .aload_n 0, 1) (pgm 65 rfl)) rfl rfl ?_
    refine so_iload_n (i := 2) X 1 (dkX12_goesBy (101, .iload_n 2, 1) (pgm 66 rfl)) rfl rfl ?_
    refine so_callV (n := 1) (As := [.int x4]) X (ct_X12_weight l this x4 h8 hk) hk (by decide) rfl lk_2035 lk_2037 lk_93 lk_134 lk_2038 (by decide +kernel) rfl rfl rfl (rm_ok (by omega) (by decide)) ⟨Nat.zero_le _, Nat.zero_le _⟩ (Nat.le_of_ble_eq_true rfl) (dkX12_goesBy (102, .invokevirtual 327, 3) (pgm 67 rfl)) (fun r9 h10 => ?_) rfl
    exact so_iret X hr hlk (dkX12_goesBy (105, .ireturn, 1) (pgm 68 rfl))
  refine so_pick (L' := [(0, .ref this), (2, .int x4), (3, .int x7)]) X [2, 1, 0] rfl ?_
  refine so_loop (body := b_X12_goesBy_26 this x4 j100) (fun (s26 : Int32) => [(0, .ref this), (2, .int x4), (3, .int s26)]) (fun rec26 hrec26 s26 hh26 => ?_) FU x7 h6
  unfold b_X12_goesBy_26
  refine so_iload_n (i := 3) X 2 (dkX12_goesBy (26, .iload_n 3, 1) (pgm 19 rfl)) rfl rfl ?_
  refine so_aload_n (i := 0) X 0 (dkX12_goesBy (27, .aload_n 0, 1) (pgm 20 rfl)) rfl rfl ?_
  refine sf_getR X ff_12_0 lk_1702 hk (dkX12_goesBy (28, .getfield 9, 3) (pgm 21 rfl)) ?_
  refine so_iconst (v := (5 : Int32)) X (dkX12_goesBy (31, .iconst 5, 1) (pgm 22 rfl)) ic_5 ?_
  refine so_iald X (rk_12_0 this hk) (dkX12_goesBy (32, .iaload, 1) (pgm 23 rfl)) (fun x11 => ?_)
  refine so_icmp_ge (tgt := 100) X (dkX12_goesBy (33, .if_icmp .ge 67, 3) (pgm 24 rfl)) rfl (fun _ => ?_) (fun _ => ?_)
  · exact so_pick X [0, 1] rfl (hj100 hh26)
  · refine so_iload_n (i := 2) X 1 (dkX12_goesBy (36, .iload_n 2, 1) (pgm 25 rfl)) rfl rfl ?_
    refine so_iload_n (i := 3) X 2 (dkX12_goesBy (37, .iload_n 3, 1) (pgm 26 rfl)) rfl rfl ?_
    refine so_callS (n := 2) (As := [.int x4, .int s26]) X (ct_X12_has l x4 s26 hh26 ) lk_1676 lk_1677 lk_134 lk_1678 (by decide +kernel) rfl rfl rfl (rm_ok (by omega) (by decide)) ⟨Nat.zero_le _, Nat.zero_le _⟩ (Nat.le_of_ble_eq_true rfl) (dkX12_goesBy (38, .invokestatic 279, 3) (pgm 27 rfl)) (fun r12 h13 => ?_) rfl
    refine so_join (jf := fun (h14 : PH) => cb (f_X12_isOpen this s26 h14) (fun (r15 : Int32) (h16 : PH) => lt (fun (h17 : PH) => lt (s26 + Int32.ofInt 1) (fun (x18 : Int32) => rec26 x18 h17)) (fun (j94 : PH → Option (Int32 × PH)) => if r15 = 0 then (j94 h16) else (ldI h16 (rt this 0) 1200 ((8 : Int32) + s26) (fun (x19 : Int32) => stI h16 (rt this 0) 1200 ((8 : Int32) + s26) (x19 + (1 : Int32)) (fun (h20 : PH) => j94 h20)))))) (fun (j : PH → Option (Int32 × PH)) => ∀  (h14 : PH), SWo (QM mkI below args s D cA ad A) p l e (rmd 3) s m args below meth c 0 0 4 D cA ad A 73 [(0, .ref this), (2, .int x4), (3, .int s26)] [] h14 (j h14)) ?_ (fun j73 hj73 => ?_)
    · intro h14
      refine so_aload_n (i := 0) X 0 (dkX12_goesBy (73, .aload_n 0, 1) (pgm 49 rfl)) rfl rfl ?_
      refine so_iload_n (i := 3) X 2 (dkX12_goesBy (74, .iload_n 3, 1) (pgm 50 rfl)) rfl rfl ?_
      refine so_callV (n := 1) (As := [.int s26]) X (ct_X12_isOpen l this s26 h14 hk) hk (by decide) rfl lk_1962 lk_1964 lk_84 lk_134 lk_1965 (by decide +kernel) rfl rfl rfl (rm_ok (by omega) (by decide)) ⟨Nat.zero_le _, Nat.zero_le _⟩ (Nat.le_of_ble_eq_true rfl) (dkX12_goesBy (75, .invokevirtual 289, 3) (pgm 51 rfl)) (fun r15 h16 => ?_) rfl
      refine so_join (jf := fun (h17 : PH) => lt (s26 + Int32.ofInt 1) (fun (x18 : Int32) => rec26 x18 h17)) (fun (j : PH → Option (Int32 × PH)) => ∀  (h17 : PH), SWo (QM mkI below args s D cA ad A) p l e (rmd 3) s m args below meth c 0 0 4 D cA ad A 94 [(0, .ref this), (2, .int x4), (3, .int s26)] [] h17 (j h17)) ?_ (fun j94 hj94 => ?_)
      · intro h17
        refine so_iinc (i := 3) X 2 (dkX12_goesBy (94, .iinc 3 1, 3) (pgm 63 rfl)) rfl rfl (by decide) (Lf := fun x18 => [(3, .int x18), (0, .ref this), (2, .int x4)]) (fun _ => rfl) (fun x18 => ?_)
        refine so_goto (tgt := 26) X (dkX12_goesBy (97, .goto (-71), 3) (pgm 64 rfl)) rfl ?_
        exact so_pick X [1, 2, 0] rfl (hrec26 x18 h17)
      refine so_if_eq (tgt := 94) X (dkX12_goesBy (78, .ifCond .eq 16, 3) (pgm 52 rfl)) rfl (fun _ => ?_) (fun _ => ?_)
      · exact so_pick X [0, 1, 2] rfl (hj94 h16)
      · refine so_aload_n (i := 0) X 0 (dkX12_goesBy (81, .aload_n 0, 1) (pgm 53 rfl)) rfl rfl ?_
        refine sf_getR X ff_12_0 lk_1702 hk (dkX12_goesBy (82, .getfield 9, 3) (pgm 54 rfl)) ?_
        refine so_bipush (v := (8 : Int32)) X (dkX12_goesBy (85, .bipush 8, 2) (pgm 55 rfl)) bp_8 ?_
        refine so_iload_n (i := 3) X 2 (dkX12_goesBy (87, .iload_n 3, 1) (pgm 56 rfl)) rfl rfl ?_
        refine so_iadd X (dkX12_goesBy (88, .iadd, 1) (pgm 57 rfl)) ?_
        refine so_dup2 X (dkX12_goesBy (89, .dup2, 1) (pgm 58 rfl)) rfl rfl ?_
        refine so_iald X (rk_12_0 this hk) (dkX12_goesBy (90, .iaload, 1) (pgm 59 rfl)) (fun x19 => ?_)
        refine so_iconst (v := (1 : Int32)) X (dkX12_goesBy (91, .iconst 1, 1) (pgm 60 rfl)) ic_1 ?_
        refine so_iadd X (dkX12_goesBy (92, .iadd, 1) (pgm 61 rfl)) ?_
        refine so_iast X (rk_12_0 this hk) (dkX12_goesBy (93, .iastore, 1) (pgm 62 rfl)) (fun h20 => ?_)
        exact so_pick X [0, 1, 2] rfl (hj94 h20)
    refine so_if_eq (tgt := 73) X (dkX12_goesBy (41, .ifCond .eq 32, 3) (pgm 28 rfl)) rfl (fun _ => ?_) (fun _ => ?_)
    · exact so_pick X [0, 1, 2] rfl (hj73 h13)
    · refine so_aload_n (i := 0) X 0 (dkX12_goesBy (44, .aload_n 0, 1) (pgm 29 rfl)) rfl rfl ?_
      refine sf_getR X ff_12_0 lk_1702 hk (dkX12_goesBy (45, .getfield 9, 3) (pgm 30 rfl)) ?_
      refine so_bipush (v := (18 : Int32)) X (dkX12_goesBy (48, .bipush 18, 2) (pgm 31 rfl)) bp_18 ?_
      refine so_aload_n (i := 0) X 0 (dkX12_goesBy (50, .aload_n 0, 1) (pgm 32 rfl)) rfl rfl ?_
      refine sf_getR X ff_12_0 lk_1702 hk (dkX12_goesBy (51, .getfield 9, 3) (pgm 33 rfl)) ?_
      refine so_bipush (v := (24 : Int32)) X (dkX12_goesBy (54, .bipush 24, 2) (pgm 34 rfl)) bp_24 ?_
      refine so_iload_n (i := 3) X 2 (dkX12_goesBy (56, .iload_n 3, 1) (pgm 35 rfl)) rfl rfl ?_
      refine so_iadd X (dkX12_goesBy (57, .iadd, 1) (pgm 36 rfl)) ?_
      refine so_iald X (rk_12_0 this hk) (dkX12_goesBy (58, .iaload, 1) (pgm 37 rfl)) (fun x21 => ?_)
      refine so_iadd X (dkX12_goesBy (59, .iadd, 1) (pgm 38 rfl)) ?_
      refine so_dup2 X (dkX12_goesBy (60, .dup2, 1) (pgm 39 rfl)) rfl rfl ?_
      refine so_iald X (rk_12_0 this hk) (dkX12_goesBy (61, .iaload, 1) (pgm 40 rfl)) (fun x22 => ?_)
      refine so_aload_n (i := 0) X 0 (dkX12_goesBy (62, .aload_n 0, 1) (pgm 41 rfl)) rfl rfl ?_
      refine sf_getR X ff_12_0 lk_1702 hk (dkX12_goesBy (63, .getfield 9, 3) (pgm 42 rfl)) ?_
      refine so_bipush (v := (34 : Int32)) X (dkX12_goesBy (66, .bipush 34, 2) (pgm 43 rfl)) bp_34 ?_
      refine so_iload_n (i := 3) X 2 (dkX12_goesBy (68, .iload_n 3, 1) (pgm 44 rfl)) rfl rfl ?_
      refine so_iadd X (dkX12_goesBy (69, .iadd, 1) (pgm 45 rfl)) ?_
      refine so_iald X (rk_12_0 this hk) (dkX12_goesBy (70, .iaload, 1) (pgm 46 rfl)) (fun x23 => ?_)
      refine so_iadd X (dkX12_goesBy (71, .iadd, 1) (pgm 47 rfl)) ?_
      refine so_iast X (rk_12_0 this hk) (dkX12_goesBy (72, .iastore, 1) (pgm 48 rfl)) (fun h24 => ?_)
      exact so_pick X [0, 1, 2] rfl (hj73 h24)
def pgX12_night : List (Nat × Instr × Nat) := [(0, .aload_n 0, 1), (1, .iconst 0, 1), (2, .putfield 92, 3), (5, .aload_n 0, 1), (6, .iload_n 1, 1), (7, .i2l, 1), (8, .invokevirtual 310, 3), (11, .istore_n 2, 1), (12, .iload_n 2, 1), (13, .ifCond .eq 6, 3), (16, .iload_n 2, 1), (17, .ineg, 1), (18, .ireturn, 1), (19, .aload_n 0, 1), (20, .invokevirtual 423, 3), (23, .aload_n 0, 1), (24, .iload_n 1, 1), (25, .invokevirtual 426, 3), (28, .ireturn, 1)]
theorem dkX12_night : ∀ q ∈ pgX12_night, decode cX12_night q.1 = .ok q.2 := by decide +kernel
def f_X12_night (this : Nat) (a1 : Int32) (h0 : PH) : Option (Int32 × PH) :=
  lt (pI h0 this 5 (0 : Int32)) (fun (h1 : PH) => cb (f_X12_whyNot this a1.toInt64 h1) (fun (r2 : Int32) (h3 : PH) => lt r2 (fun (x4 : Int32) => if x4 = 0 then (cb (f_X12_keeps this h3) (fun (r5 : Unit) (h6 : PH) => cb (f_X12_goesBy this a1 h6) (fun (r7 : Int32) (h8 : PH) => some (r7, h8)))) else (some ((-x4), h3)))))
set_option maxRecDepth 100000 in
set_option maxHeartbeats 4000000 in
theorem ct_X12_night (l : Launch) (this : Nat) (a1 : Int32) (h0 : PH) (hk : (kd this).1 = 12) : CT mkI l yX12_night cX12_night 3 (some .int) (rmd 4) [.ref this, .int a1] h0 (f_X12_night this a1 h0) := by
  refine ct_of (by decide) (Nat.le_of_ble_eq_true rfl) ?_
  intro p e s m args below meth c D cA ad A X hr hlk
  have X : Cx p s m args c RX12 cX12_night 3 D cA ad A := X
  unfold f_X12_night
  refine so_pick (L' := [(0, .ref this), (1, .int a1)]) X [0, 1] rfl ?_
  refine so_aload_n (i := 0) X 0 (dkX12_night (0, .aload_n 0, 1) (pgm 0 rfl)) rfl rfl ?_
  refine so_iconst (v := (0 : Int32)) X (dkX12_night (1, .iconst 0, 1) (pgm 1 rfl)) ic_0 ?_
  refine sf_putI X ff_12_5 ft_12 rfl lk_1707 hk rfl rfl (dkX12_night (2, .putfield 92, 3) (pgm 2 rfl)) (fun h1 => ?_)
  refine so_aload_n (i := 0) X 0 (dkX12_night (5, .aload_n 0, 1) (pgm 3 rfl)) rfl rfl ?_
  refine so_iload_n (i := 1) X 1 (dkX12_night (6, .iload_n 1, 1) (pgm 4 rfl)) rfl rfl ?_
  refine so_i2l X (dkX12_night (7, .i2l, 1) (pgm 5 rfl)) ?_
  refine so_callV (n := 1) (As := [.long a1.toInt64]) X (ct_X12_whyNot l this a1.toInt64 h1 hk) hk (by decide) rfl lk_1982 lk_1984 lk_86 lk_134 lk_1985 (by decide +kernel) rfl rfl rfl (rm_ok (by omega) (by decide)) ⟨Nat.zero_le _, Nat.zero_le _⟩ (Nat.le_of_ble_eq_true rfl) (dkX12_night (8, .invokevirtual 310, 3) (pgm 6 rfl)) (fun r2 h3 => ?_) rfl
  refine so_istore_n (i := 2) X (dkX12_night (11, .istore_n 2, 1) (pgm 7 rfl)) rfl (by decide) (Lf := fun x4 => [(2, .int x4), (0, .ref this), (1, .int a1)]) (fun _ => rfl) (fun x4 => ?_)
  refine so_iload_n (i := 2) X 0 (dkX12_night (12, .iload_n 2, 1) (pgm 8 rfl)) rfl rfl ?_
  refine so_if_eq (tgt := 19) X (dkX12_night (13, .ifCond .eq 6, 3) (pgm 9 rfl)) rfl (fun _ => ?_) (fun _ => ?_)
  · refine so_aload_n (i := 0) X 1 (dkX12_night (19, .aload_n 0, 1) (pgm 13 rfl)) rfl rfl ?_
    refine so_callV (n := 0) (As := []) X (ct_X12_keeps l this h3 hk) hk (by decide) rfl lk_2187 lk_2189 lk_113 lk_134 lk_2190 (by decide +kernel) rfl rfl rfl (rm_ok (by omega) (by decide)) ⟨Nat.zero_le _, Nat.zero_le _⟩ (Nat.le_of_ble_eq_true rfl) (dkX12_night (20, .invokevirtual 423, 3) (pgm 14 rfl)) (fun r5 h6 => ?_) rfl
    refine so_aload_n (i := 0) X 1 (dkX12_night (23, .aload_n 0, 1) (pgm 15 rfl)) rfl rfl ?_
    refine so_iload_n (i := 1) X 2 (dkX12_night (24, .iload_n 1, 1) (pgm 16 rfl)) rfl rfl ?_
    refine so_callV (n := 1) (As := [.int a1]) X (ct_X12_goesBy l this a1 h6 hk) hk (by decide) rfl lk_2191 lk_2193 lk_114 lk_134 lk_2194 (by decide +kernel) rfl rfl rfl (rm_ok (by omega) (by decide)) ⟨Nat.zero_le _, Nat.zero_le _⟩ (Nat.le_of_ble_eq_true rfl) (dkX12_night (25, .invokevirtual 426, 3) (pgm 17 rfl)) (fun r7 h8 => ?_) rfl
    exact so_iret X hr hlk (dkX12_night (28, .ireturn, 1) (pgm 18 rfl))
  · refine so_iload_n (i := 2) X 0 (dkX12_night (16, .iload_n 2, 1) (pgm 10 rfl)) rfl rfl ?_
    refine so_ineg X (dkX12_night (17, .ineg, 1) (pgm 11 rfl)) ?_
    exact so_iret X hr hlk (dkX12_night (18, .ireturn, 1) (pgm 12 rfl))
def pgX12_thank : List (Nat × Instr × Nat) := [(0, .aload_n 0, 1), (1, .iconst 0, 1), (2, .putfield 92, 3), (5, .iload_n 1, 1), (6, .invokestatic 360, 3), (9, .ifCond .eq 15, 3), (12, .iload_n 2, 1), (13, .i2l, 1), (14, .lconst 1, 1), (15, .ldc2_w 429, 3), (18, .invokestatic 156, 3), (21, .ifCond .ne 9, 3), (24, .aload_n 0, 1), (25, .iconst 1, 1), (26, .invokevirtual 233, 3), (29, .ireturn, 1), (30, .aload_n 0, 1), (31, .invokevirtual 423, 3), (34, .aload_n 0, 1), (35, .getfield 9, 3), (38, .bipush 18, 2), (40, .iload_n 1, 1), (41, .iadd, 1), (42, .dup2, 1), (43, .iaload, 1), (44, .iload_n 2, 1), (45, .isub, 1), (46, .iastore, 1), (47, .aload_n 0, 1), (48, .getfield 9, 3), (51, .bipush 18, 2), (53, .iload_n 1, 1), (54, .iadd, 1), (55, .iaload, 1), (56, .ireturn, 1)]
theorem dkX12_thank : ∀ q ∈ pgX12_thank, decode cX12_thank q.1 = .ok q.2 := by decide +kernel
def f_X12_thank (this : Nat) (a1 : Int32) (a2 : Int32) (h0 : PH) : Option (Int32 × PH) :=
  lt (pI h0 this 5 (0 : Int32)) (fun (h1 : PH) => cb (f_X12_isBody a1 h1) (fun (r2 : Int32) (h3 : PH) => lt (fun (h4 : PH) => cb (f_X12_fails this (1 : Int32) h4) (fun (r5 : Int32) (h6 : PH) => some (r5, h6))) (fun (j24 : PH → Option (Int32 × PH)) => if r2 = 0 then (j24 h3) else (cb (f_X12_within a2.toInt64 (1 : Int64) (99 : Int64) h3) (fun (r7 : Int32) (h8 : PH) => if r7 = 0 then (j24 h8) else (cb (f_X12_keeps this h8) (fun (r9 : Unit) (h10 : PH) => ldI h10 (rt this 0) 1200 ((18 : Int32) + a1) (fun (x11 : Int32) => stI h10 (rt this 0) 1200 ((18 : Int32) + a1) (x11 - a2) (fun (h12 : PH) => ldI h12 (rt this 0) 1200 ((18 : Int32) + a1) (fun (x13 : Int32) => some (x13, h12)))))))))))
set_option maxRecDepth 100000 in
set_option maxHeartbeats 4000000 in
theorem ct_X12_thank (l : Launch) (this : Nat) (a1 : Int32) (a2 : Int32) (h0 : PH) (hk : (kd this).1 = 12) : CT mkI l yX12_thank cX12_thank 3 (some .int) (rmd 2) [.ref this, .int a1, .int a2] h0 (f_X12_thank this a1 a2 h0) := by
  refine ct_of (by decide) (Nat.le_of_ble_eq_true rfl) ?_
  intro p e s m args below meth c D cA ad A X hr hlk
  have X : Cx p s m args c RX12 cX12_thank 3 D cA ad A := X
  unfold f_X12_thank
  refine so_pick (L' := [(0, .ref this), (1, .int a1), (2, .int a2)]) X [0, 1, 2] rfl ?_
  refine so_aload_n (i := 0) X 0 (dkX12_thank (0, .aload_n 0, 1) (pgm 0 rfl)) rfl rfl ?_
  refine so_iconst (v := (0 : Int32)) X (dkX12_thank (1, .iconst 0, 1) (pgm 1 rfl)) ic_0 ?_
  refine sf_putI X ff_12_5 ft_12 rfl lk_1707 hk rfl rfl (dkX12_thank (2, .putfield 92, 3) (pgm 2 rfl)) (fun h1 => ?_)
  refine so_iload_n (i := 1) X 1 (dkX12_thank (5, .iload_n 1, 1) (pgm 3 rfl)) rfl rfl ?_
  refine so_callS (n := 1) (As := [.int a1]) X (ct_X12_isBody l a1 h1 ) lk_2103 lk_2104 lk_134 lk_2105 (by decide +kernel) rfl rfl rfl (rm_ok (by omega) (by decide)) ⟨Nat.zero_le _, Nat.zero_le _⟩ (Nat.le_of_ble_eq_true rfl) (dkX12_thank (6, .invokestatic 360, 3) (pgm 4 rfl)) (fun r2 h3 => ?_) rfl
  refine so_join (jf := fun (h4 : PH) => cb (f_X12_fails this (1 : Int32) h4) (fun (r5 : Int32) (h6 : PH) => some (r5, h6))) (fun (j : PH → Option (Int32 × PH)) => ∀  (h4 : PH), SWo (QM mkI below args s D cA ad A) p l e (rmd 2) s m args below meth c 0 0 3 D cA ad A 24 [(0, .ref this)] [] h4 (j h4)) ?_ (fun j24 hj24 => ?_)
  · intro h4
    refine so_aload_n (i := 0) X 0 (dkX12_thank (24, .aload_n 0, 1) (pgm 12 rfl)) rfl rfl ?_
    refine so_iconst (v := (1 : Int32)) X (dkX12_thank (25, .iconst 1, 1) (pgm 13 rfl)) ic_1 ?_
    refine so_callV (n := 1) (As := [.int (1 : Int32)]) X (ct_X12_fails l this (1 : Int32) h4 hk) hk (by decide) rfl lk_1835 lk_1837 lk_61 lk_134 lk_1838 (by decide +kernel) rfl rfl rfl (rm_ok (by omega) (by decide)) ⟨Nat.zero_le _, Nat.zero_le _⟩ (Nat.le_of_ble_eq_true rfl) (dkX12_thank (26, .invokevirtual 233, 3) (pgm 14 rfl)) (fun r5 h6 => ?_) rfl
    exact so_iret X hr hlk (dkX12_thank (29, .ireturn, 1) (pgm 15 rfl))
  refine so_if_eq (tgt := 24) X (dkX12_thank (9, .ifCond .eq 15, 3) (pgm 5 rfl)) rfl (fun _ => ?_) (fun _ => ?_)
  · exact so_pick X [0] rfl (hj24 h3)
  · refine so_iload_n (i := 2) X 2 (dkX12_thank (12, .iload_n 2, 1) (pgm 6 rfl)) rfl rfl ?_
    refine so_i2l X (dkX12_thank (13, .i2l, 1) (pgm 7 rfl)) ?_
    refine so_lconst (v := (1 : Int64)) X (dkX12_thank (14, .lconst 1, 1) (pgm 8 rfl)) lc_1 ?_
    refine so_ldc2 X lk_2199 (dkX12_thank (15, .ldc2_w 429, 3) (pgm 9 rfl)) ?_
    refine so_callS (n := 3) (As := [.long a2.toInt64, .long (1 : Int64), .long (99 : Int64)]) X (ct_X12_within l a2.toInt64 (1 : Int64) (99 : Int64) h3 ) lk_1832 lk_1833 lk_134 lk_1834 (by decide +kernel) rfl rfl rfl (rm_ok (by omega) (by decide)) ⟨Nat.zero_le _, Nat.zero_le _⟩ (Nat.le_of_ble_eq_true rfl) (dkX12_thank (18, .invokestatic 156, 3) (pgm 10 rfl)) (fun r7 h8 => ?_) rfl
    refine so_if_ne (tgt := 30) X (dkX12_thank (21, .ifCond .ne 9, 3) (pgm 11 rfl)) rfl (fun _ => ?_) (fun _ => ?_)
    · refine so_aload_n (i := 0) X 0 (dkX12_thank (30, .aload_n 0, 1) (pgm 16 rfl)) rfl rfl ?_
      refine so_callV (n := 0) (As := []) X (ct_X12_keeps l this h8 hk) hk (by decide) rfl lk_2187 lk_2189 lk_113 lk_134 lk_2190 (by decide +kernel) rfl rfl rfl (rm_ok (by omega) (by decide)) ⟨Nat.zero_le _, Nat.zero_le _⟩ (Nat.le_of_ble_eq_true rfl) (dkX12_thank (31, .invokevirtual 423, 3) (pgm 17 rfl)) (fun r9 h10 => ?_) rfl
      refine so_aload_n (i := 0) X 0 (dkX12_thank (34, .aload_n 0, 1) (pgm 18 rfl)) rfl rfl ?_
      refine sf_getR X ff_12_0 lk_1702 hk (dkX12_thank (35, .getfield 9, 3) (pgm 19 rfl)) ?_
      refine so_bipush (v := (18 : Int32)) X (dkX12_thank (38, .bipush 18, 2) (pgm 20 rfl)) bp_18 ?_
      refine so_iload_n (i := 1) X 1 (dkX12_thank (40, .iload_n 1, 1) (pgm 21 rfl)) rfl rfl ?_
      refine so_iadd X (dkX12_thank (41, .iadd, 1) (pgm 22 rfl)) ?_
      refine so_dup2 X (dkX12_thank (42, .dup2, 1) (pgm 23 rfl)) rfl rfl ?_
      refine so_iald X (rk_12_0 this hk) (dkX12_thank (43, .iaload, 1) (pgm 24 rfl)) (fun x11 => ?_)
      refine so_iload_n (i := 2) X 2 (dkX12_thank (44, .iload_n 2, 1) (pgm 25 rfl)) rfl rfl ?_
      refine so_isub X (dkX12_thank (45, .isub, 1) (pgm 26 rfl)) ?_
      refine so_iast X (rk_12_0 this hk) (dkX12_thank (46, .iastore, 1) (pgm 27 rfl)) (fun h12 => ?_)
      refine so_aload_n (i := 0) X 0 (dkX12_thank (47, .aload_n 0, 1) (pgm 28 rfl)) rfl rfl ?_
      refine sf_getR X ff_12_0 lk_1702 hk (dkX12_thank (48, .getfield 9, 3) (pgm 29 rfl)) ?_
      refine so_bipush (v := (18 : Int32)) X (dkX12_thank (51, .bipush 18, 2) (pgm 30 rfl)) bp_18 ?_
      refine so_iload_n (i := 1) X 1 (dkX12_thank (53, .iload_n 1, 1) (pgm 31 rfl)) rfl rfl ?_
      refine so_iadd X (dkX12_thank (54, .iadd, 1) (pgm 32 rfl)) ?_
      refine so_iald X (rk_12_0 this hk) (dkX12_thank (55, .iaload, 1) (pgm 33 rfl)) (fun x13 => ?_)
      exact so_iret X hr hlk (dkX12_thank (56, .ireturn, 1) (pgm 34 rfl))
    · exact so_pick X [0] rfl (hj24 h8)
def pgX12_owes : List (Nat × Instr × Nat) := [(0, .aload_n 0, 1), (1, .iconst 0, 1), (2, .putfield 92, 3), (5, .iload_n 1, 1), (6, .invokestatic 360, 3), (9, .ifCond .eq 15, 3), (12, .aload_n 0, 1), (13, .getfield 9, 3), (16, .bipush 18, 2), (18, .iload_n 1, 1), (19, .iadd, 1), (20, .iaload, 1), (21, .goto 8, 3), (24, .aload_n 0, 1), (25, .iconst 1, 1), (26, .invokevirtual 233, 3), (29, .ireturn, 1)]
theorem dkX12_owes : ∀ q ∈ pgX12_owes, decode cX12_owes q.1 = .ok q.2 := by decide +kernel
def f_X12_owes (this : Nat) (a1 : Int32) (h0 : PH) : Option (Int32 × PH) :=
  lt (pI h0 this 5 (0 : Int32)) (fun (h1 : PH) => cb (f_X12_isBody a1 h1) (fun (r2 : Int32) (h3 : PH) => lt (fun (t4 : Int32) (h5 : PH) => some (t4, h5)) (fun (j29 : Int32 → PH → Option (Int32 × PH)) => if r2 = 0 then (cb (f_X12_fails this (1 : Int32) h3) (fun (r6 : Int32) (h7 : PH) => j29 r6 h7)) else (ldI h3 (rt this 0) 1200 ((18 : Int32) + a1) (fun (x8 : Int32) => j29 x8 h3)))))
set_option maxRecDepth 100000 in
set_option maxHeartbeats 4000000 in
theorem ct_X12_owes (l : Launch) (this : Nat) (a1 : Int32) (h0 : PH) (hk : (kd this).1 = 12) : CT mkI l yX12_owes cX12_owes 2 (some .int) (rmd 2) [.ref this, .int a1] h0 (f_X12_owes this a1 h0) := by
  refine ct_of (by decide) (Nat.le_of_ble_eq_true rfl) ?_
  intro p e s m args below meth c D cA ad A X hr hlk
  have X : Cx p s m args c RX12 cX12_owes 2 D cA ad A := X
  unfold f_X12_owes
  refine so_pick (L' := [(0, .ref this), (1, .int a1)]) X [0, 1] rfl ?_
  refine so_aload_n (i := 0) X 0 (dkX12_owes (0, .aload_n 0, 1) (pgm 0 rfl)) rfl rfl ?_
  refine so_iconst (v := (0 : Int32)) X (dkX12_owes (1, .iconst 0, 1) (pgm 1 rfl)) ic_0 ?_
  refine sf_putI X ff_12_5 ft_12 rfl lk_1707 hk rfl rfl (dkX12_owes (2, .putfield 92, 3) (pgm 2 rfl)) (fun h1 => ?_)
  refine so_iload_n (i := 1) X 1 (dkX12_owes (5, .iload_n 1, 1) (pgm 3 rfl)) rfl rfl ?_
  refine so_callS (n := 1) (As := [.int a1]) X (ct_X12_isBody l a1 h1 ) lk_2103 lk_2104 lk_134 lk_2105 (by decide +kernel) rfl rfl rfl (rm_ok (by omega) (by decide)) ⟨Nat.zero_le _, Nat.zero_le _⟩ (Nat.le_of_ble_eq_true rfl) (dkX12_owes (6, .invokestatic 360, 3) (pgm 4 rfl)) (fun r2 h3 => ?_) rfl
  refine so_join (jf := fun (t4 : Int32) (h5 : PH) => some (t4, h5)) (fun (j : Int32 → PH → Option (Int32 × PH)) => ∀ (t4 : Int32) (h5 : PH), SWo (QM mkI below args s D cA ad A) p l e (rmd 2) s m args below meth c 0 0 2 D cA ad A 29 [] [.int t4] h5 (j t4 h5)) ?_ (fun j29 hj29 => ?_)
  · intro t4 h5
    exact so_iret X hr hlk (dkX12_owes (29, .ireturn, 1) (pgm 16 rfl))
  refine so_if_eq (tgt := 24) X (dkX12_owes (9, .ifCond .eq 15, 3) (pgm 5 rfl)) rfl (fun _ => ?_) (fun _ => ?_)
  · refine so_aload_n (i := 0) X 0 (dkX12_owes (24, .aload_n 0, 1) (pgm 13 rfl)) rfl rfl ?_
    refine so_iconst (v := (1 : Int32)) X (dkX12_owes (25, .iconst 1, 1) (pgm 14 rfl)) ic_1 ?_
    refine so_callV (n := 1) (As := [.int (1 : Int32)]) X (ct_X12_fails l this (1 : Int32) h3 hk) hk (by decide) rfl lk_1835 lk_1837 lk_61 lk_134 lk_1838 (by decide +kernel) rfl rfl rfl (rm_ok (by omega) (by decide)) ⟨Nat.zero_le _, Nat.zero_le _⟩ (Nat.le_of_ble_eq_true rfl) (dkX12_owes (26, .invokevirtual 233, 3) (pgm 15 rfl)) (fun r6 h7 => ?_) rfl
    exact so_pick X [] rfl (hj29 r6 h7)
  · refine so_aload_n (i := 0) X 0 (dkX12_owes (12, .aload_n 0, 1) (pgm 6 rfl)) rfl rfl ?_
    refine sf_getR X ff_12_0 lk_1702 hk (dkX12_owes (13, .getfield 9, 3) (pgm 7 rfl)) ?_
    refine so_bipush (v := (18 : Int32)) X (dkX12_owes (16, .bipush 18, 2) (pgm 8 rfl)) bp_18 ?_
    refine so_iload_n (i := 1) X 1 (dkX12_owes (18, .iload_n 1, 1) (pgm 9 rfl)) rfl rfl ?_
    refine so_iadd X (dkX12_owes (19, .iadd, 1) (pgm 10 rfl)) ?_
    refine so_iald X (rk_12_0 this hk) (dkX12_owes (20, .iaload, 1) (pgm 11 rfl)) (fun x8 => ?_)
    refine so_goto (tgt := 29) X (dkX12_owes (21, .goto 8, 3) (pgm 12 rfl)) rfl ?_
    exact so_pick X [] rfl (hj29 x8 h3)
def pgX12_withdraw : List (Nat × Instr × Nat) := [(0, .aload_n 0, 1), (1, .aload_n 0, 1), (2, .iload_n 1, 1), (3, .invokevirtual 322, 3), (6, .putfield 92, 3), (9, .aload_n 0, 1), (10, .getfield 92, 3), (13, .ifCond .le 5, 3), (16, .iconst 0, 1), (17, .ireturn, 1), (18, .aload_n 0, 1), (19, .invokevirtual 423, 3), (22, .aload_n 0, 1), (23, .getfield 9, 3), (26, .bipush 7, 2), (28, .dup2, 1), (29, .iaload, 1), (30, .iconst 1, 1), (31, .iload_n 1, 1), (32, .ishl, 1), (33, .iconst (-1), 1), (34, .ixor, 1), (35, .iand, 1), (36, .iastore, 1), (37, .aload_n 0, 1), (38, .getfield 9, 3), (41, .bipush 7, 2), (43, .iaload, 1), (44, .invokestatic 269, 3), (47, .ireturn, 1)]
theorem dkX12_withdraw : ∀ q ∈ pgX12_withdraw, decode cX12_withdraw q.1 = .ok q.2 := by decide +kernel
def f_X12_withdraw (this : Nat) (a1 : Int32) (h0 : PH) : Option (Int32 × PH) :=
  cb (f_X12_openFault this a1 h0) (fun (r1 : Int32) (h2 : PH) => lt (pI h2 this 5 r1) (fun (h3 : PH) => if (h3.1 this 5) ≤ 0 then (cb (f_X12_keeps this h3) (fun (r4 : Unit) (h5 : PH) => ldI h5 (rt this 0) 1200 (7 : Int32) (fun (x6 : Int32) => stI h5 (rt this 0) 1200 (7 : Int32) (x6 &&& (((1 : Int32) <<< (a1 &&& 31)) ^^^ (-1 : Int32))) (fun (h7 : PH) => ldI h7 (rt this 0) 1200 (7 : Int32) (fun (x8 : Int32) => cb (f_X12_size x8 h7) (fun (r9 : Int32) (h10 : PH) => some (r9, h10))))))) else (some ((0 : Int32), h3))))
set_option maxRecDepth 100000 in
set_option maxHeartbeats 4000000 in
theorem ct_X12_withdraw (l : Launch) (this : Nat) (a1 : Int32) (h0 : PH) (hk : (kd this).1 = 12) : CT mkI l yX12_withdraw cX12_withdraw 2 (some .int) (rmd 3) [.ref this, .int a1] h0 (f_X12_withdraw this a1 h0) := by
  refine ct_of (by decide) (Nat.le_of_ble_eq_true rfl) ?_
  intro p e s m args below meth c D cA ad A X hr hlk
  have X : Cx p s m args c RX12 cX12_withdraw 2 D cA ad A := X
  unfold f_X12_withdraw
  refine so_pick (L' := [(0, .ref this), (1, .int a1)]) X [0, 1] rfl ?_
  refine so_aload_n (i := 0) X 0 (dkX12_withdraw (0, .aload_n 0, 1) (pgm 0 rfl)) rfl rfl ?_
  refine so_aload_n (i := 0) X 0 (dkX12_withdraw (1, .aload_n 0, 1) (pgm 1 rfl)) rfl rfl ?_
  refine so_iload_n (i := 1) X 1 (dkX12_withdraw (2, .iload_n 1, 1) (pgm 2 rfl)) rfl rfl ?_
  refine so_callV (n := 1) (As := [.int a1]) X (ct_X12_openFault l this a1 h0 hk) hk (by decide) rfl lk_2026 lk_2028 lk_92 lk_134 lk_2029 (by decide +kernel) rfl rfl rfl (rm_ok (by omega) (by decide)) ⟨Nat.zero_le _, Nat.zero_le _⟩ (Nat.le_of_ble_eq_true rfl) (dkX12_withdraw (3, .invokevirtual 322, 3) (pgm 3 rfl)) (fun r1 h2 => ?_) rfl
  refine sf_putI X ff_12_5 ft_12 rfl lk_1707 hk rfl rfl (dkX12_withdraw (6, .putfield 92, 3) (pgm 4 rfl)) (fun h3 => ?_)
  refine so_aload_n (i := 0) X 0 (dkX12_withdraw (9, .aload_n 0, 1) (pgm 5 rfl)) rfl rfl ?_
  refine sf_getI X ff_12_5 lk_1707 hk (dkX12_withdraw (10, .getfield 92, 3) (pgm 6 rfl)) ?_
  refine so_if_le (tgt := 18) X (dkX12_withdraw (13, .ifCond .le 5, 3) (pgm 7 rfl)) rfl (fun _ => ?_) (fun _ => ?_)
  · refine so_aload_n (i := 0) X 0 (dkX12_withdraw (18, .aload_n 0, 1) (pgm 10 rfl)) rfl rfl ?_
    refine so_callV (n := 0) (As := []) X (ct_X12_keeps l this h3 hk) hk (by decide) rfl lk_2187 lk_2189 lk_113 lk_134 lk_2190 (by decide +kernel) rfl rfl rfl (rm_ok (by omega) (by decide)) ⟨Nat.zero_le _, Nat.zero_le _⟩ (Nat.le_of_ble_eq_true rfl) (dkX12_withdraw (19, .invokevirtual 423, 3) (pgm 11 rfl)) (fun r4 h5 => ?_) rfl
    refine so_aload_n (i := 0) X 0 (dkX12_withdraw (22, .aload_n 0, 1) (pgm 12 rfl)) rfl rfl ?_
    refine sf_getR X ff_12_0 lk_1702 hk (dkX12_withdraw (23, .getfield 9, 3) (pgm 13 rfl)) ?_
    refine so_bipush (v := (7 : Int32)) X (dkX12_withdraw (26, .bipush 7, 2) (pgm 14 rfl)) bp_7 ?_
    refine so_dup2 X (dkX12_withdraw (28, .dup2, 1) (pgm 15 rfl)) rfl rfl ?_
    refine so_iald X (rk_12_0 this hk) (dkX12_withdraw (29, .iaload, 1) (pgm 16 rfl)) (fun x6 => ?_)
    refine so_iconst (v := (1 : Int32)) X (dkX12_withdraw (30, .iconst 1, 1) (pgm 17 rfl)) ic_1 ?_
    refine so_iload_n (i := 1) X 1 (dkX12_withdraw (31, .iload_n 1, 1) (pgm 18 rfl)) rfl rfl ?_
    refine so_ishl X (dkX12_withdraw (32, .ishl, 1) (pgm 19 rfl)) ?_
    refine so_iconst (v := (-1 : Int32)) X (dkX12_withdraw (33, .iconst (-1), 1) (pgm 20 rfl)) ic_m1 ?_
    refine so_ixor X (dkX12_withdraw (34, .ixor, 1) (pgm 21 rfl)) ?_
    refine so_iand X (dkX12_withdraw (35, .iand, 1) (pgm 22 rfl)) ?_
    refine so_iast X (rk_12_0 this hk) (dkX12_withdraw (36, .iastore, 1) (pgm 23 rfl)) (fun h7 => ?_)
    refine so_aload_n (i := 0) X 0 (dkX12_withdraw (37, .aload_n 0, 1) (pgm 24 rfl)) rfl rfl ?_
    refine sf_getR X ff_12_0 lk_1702 hk (dkX12_withdraw (38, .getfield 9, 3) (pgm 25 rfl)) ?_
    refine so_bipush (v := (7 : Int32)) X (dkX12_withdraw (41, .bipush 7, 2) (pgm 26 rfl)) bp_7 ?_
    refine so_iald X (rk_12_0 this hk) (dkX12_withdraw (43, .iaload, 1) (pgm 27 rfl)) (fun x8 => ?_)
    refine so_callS (n := 1) (As := [.int x8]) X (ct_X12_size l x8 h7 ) lk_1687 lk_1688 lk_134 lk_1689 (by decide +kernel) rfl rfl rfl (rm_ok (by omega) (by decide)) ⟨Nat.zero_le _, Nat.zero_le _⟩ (Nat.le_of_ble_eq_true rfl) (dkX12_withdraw (44, .invokestatic 269, 3) (pgm 28 rfl)) (fun r9 h10 => ?_) rfl
    exact so_iret X hr hlk (dkX12_withdraw (47, .ireturn, 1) (pgm 29 rfl))
  · refine so_iconst (v := (0 : Int32)) X (dkX12_withdraw (16, .iconst 0, 1) (pgm 8 rfl)) ic_0 ?_
    exact so_iret X hr hlk (dkX12_withdraw (17, .ireturn, 1) (pgm 9 rfl))
def pgX12_again : List (Nat × Instr × Nat) := [(0, .aload_n 0, 1), (1, .aload_n 0, 1), (2, .iload_n 1, 1), (3, .invokevirtual 305, 3), (6, .ifCond .ne 7, 3), (9, .iconst 1, 1), (10, .goto 16, 3), (13, .aload_n 0, 1), (14, .iload_n 1, 1), (15, .invokevirtual 289, 3), (18, .ifCond .eq 7, 3), (21, .iconst 2, 1), (22, .goto 4, 3), (25, .iconst 0, 1), (26, .putfield 92, 3), (29, .aload_n 0, 1), (30, .getfield 92, 3), (33, .ifCond .le 5, 3), (36, .iconst 0, 1), (37, .ireturn, 1), (38, .aload_n 0, 1), (39, .invokevirtual 423, 3), (42, .aload_n 0, 1), (43, .getfield 9, 3), (46, .bipush 7, 2), (48, .dup2, 1), (49, .iaload, 1), (50, .iconst 1, 1), (51, .iload_n 1, 1), (52, .ishl, 1), (53, .ior, 1), (54, .iastore, 1), (55, .aload_n 0, 1), (56, .getfield 9, 3), (59, .bipush 8, 2), (61, .iload_n 1, 1), (62, .iadd, 1), (63, .iconst 0, 1), (64, .iastore, 1), (65, .aload_n 0, 1), (66, .getfield 9, 3), (69, .bipush 7, 2), (71, .iaload, 1), (72, .invokestatic 269, 3), (75, .ireturn, 1)]
theorem dkX12_again : ∀ q ∈ pgX12_again, decode cX12_again q.1 = .ok q.2 := by decide +kernel
def f_X12_again (this : Nat) (a1 : Int32) (h0 : PH) : Option (Int32 × PH) :=
  cb (f_X12_isWish this a1 h0) (fun (r1 : Int32) (h2 : PH) => lt (fun (t3 : Int32) (h4 : PH) => lt (pI h4 this 5 t3) (fun (h5 : PH) => if (h5.1 this 5) ≤ 0 then (cb (f_X12_keeps this h5) (fun (r6 : Unit) (h7 : PH) => ldI h7 (rt this 0) 1200 (7 : Int32) (fun (x8 : Int32) => stI h7 (rt this 0) 1200 (7 : Int32) (x8 ||| ((1 : Int32) <<< (a1 &&& 31))) (fun (h9 : PH) => stI h9 (rt this 0) 1200 ((8 : Int32) + a1) (0 : Int32) (fun (h10 : PH) => ldI h10 (rt this 0) 1200 (7 : Int32) (fun (x11 : Int32) => cb (f_X12_size x11 h10) (fun (r12 : Int32) (h13 : PH) => some (r12, h13)))))))) else (some ((0 : Int32), h5)))) (fun (j26 : Int32 → PH → Option (Int32 × PH)) => if r1 = 0 then (j26 (1 : Int32) h2) else (cb (f_X12_isOpen this a1 h2) (fun (r14 : Int32) (h15 : PH) => if r14 = 0 then (j26 (0 : Int32) h15) else (j26 (2 : Int32) h15)))))
set_option maxRecDepth 100000 in
set_option maxHeartbeats 4000000 in
theorem ct_X12_again (l : Launch) (this : Nat) (a1 : Int32) (h0 : PH) (hk : (kd this).1 = 12) : CT mkI l yX12_again cX12_again 2 (some .int) (rmd 2) [.ref this, .int a1] h0 (f_X12_again this a1 h0) := by
  refine ct_of (by decide) (Nat.le_of_ble_eq_true rfl) ?_
  intro p e s m args below meth c D cA ad A X hr hlk
  have X : Cx p s m args c RX12 cX12_again 2 D cA ad A := X
  unfold f_X12_again
  refine so_pick (L' := [(0, .ref this), (1, .int a1)]) X [0, 1] rfl ?_
  refine so_aload_n (i := 0) X 0 (dkX12_again (0, .aload_n 0, 1) (pgm 0 rfl)) rfl rfl ?_
  refine so_aload_n (i := 0) X 0 (dkX12_again (1, .aload_n 0, 1) (pgm 1 rfl)) rfl rfl ?_
  refine so_iload_n (i := 1) X 1 (dkX12_again (2, .iload_n 1, 1) (pgm 2 rfl)) rfl rfl ?_
  refine so_callV (n := 1) (As := [.int a1]) X (ct_X12_isWish l this a1 h0 hk) hk (by decide) rfl lk_1953 lk_1955 lk_82 lk_134 lk_1956 (by decide +kernel) rfl rfl rfl (rm_ok (by omega) (by decide)) ⟨Nat.zero_le _, Nat.zero_le _⟩ (Nat.le_of_ble_eq_true rfl) (dkX12_again (3, .invokevirtual 305, 3) (pgm 3 rfl)) (fun r1 h2 => ?_) rfl
  refine so_join (jf := fun (t3 : Int32) (h4 : PH) => lt (pI h4 this 5 t3) (fun (h5 : PH) => if (h5.1 this 5) ≤ 0 then (cb (f_X12_keeps this h5) (fun (r6 : Unit) (h7 : PH) => ldI h7 (rt this 0) 1200 (7 : Int32) (fun (x8 : Int32) => stI h7 (rt this 0) 1200 (7 : Int32) (x8 ||| ((1 : Int32) <<< (a1 &&& 31))) (fun (h9 : PH) => stI h9 (rt this 0) 1200 ((8 : Int32) + a1) (0 : Int32) (fun (h10 : PH) => ldI h10 (rt this 0) 1200 (7 : Int32) (fun (x11 : Int32) => cb (f_X12_size x11 h10) (fun (r12 : Int32) (h13 : PH) => some (r12, h13)))))))) else (some ((0 : Int32), h5)))) (fun (j : Int32 → PH → Option (Int32 × PH)) => ∀ (t3 : Int32) (h4 : PH), SWo (QM mkI below args s D cA ad A) p l e (rmd 2) s m args below meth c 0 0 2 D cA ad A 26 [(0, .ref this), (1, .int a1)] [.int t3, .ref this] h4 (j t3 h4)) ?_ (fun j26 hj26 => ?_)
  · intro t3 h4
    refine sf_putI X ff_12_5 ft_12 rfl lk_1707 hk rfl rfl (dkX12_again (26, .putfield 92, 3) (pgm 14 rfl)) (fun h5 => ?_)
    refine so_aload_n (i := 0) X 0 (dkX12_again (29, .aload_n 0, 1) (pgm 15 rfl)) rfl rfl ?_
    refine sf_getI X ff_12_5 lk_1707 hk (dkX12_again (30, .getfield 92, 3) (pgm 16 rfl)) ?_
    refine so_if_le (tgt := 38) X (dkX12_again (33, .ifCond .le 5, 3) (pgm 17 rfl)) rfl (fun _ => ?_) (fun _ => ?_)
    · refine so_aload_n (i := 0) X 0 (dkX12_again (38, .aload_n 0, 1) (pgm 20 rfl)) rfl rfl ?_
      refine so_callV (n := 0) (As := []) X (ct_X12_keeps l this h5 hk) hk (by decide) rfl lk_2187 lk_2189 lk_113 lk_134 lk_2190 (by decide +kernel) rfl rfl rfl (rm_ok (by omega) (by decide)) ⟨Nat.zero_le _, Nat.zero_le _⟩ (Nat.le_of_ble_eq_true rfl) (dkX12_again (39, .invokevirtual 423, 3) (pgm 21 rfl)) (fun r6 h7 => ?_) rfl
      refine so_aload_n (i := 0) X 0 (dkX12_again (42, .aload_n 0, 1) (pgm 22 rfl)) rfl rfl ?_
      refine sf_getR X ff_12_0 lk_1702 hk (dkX12_again (43, .getfield 9, 3) (pgm 23 rfl)) ?_
      refine so_bipush (v := (7 : Int32)) X (dkX12_again (46, .bipush 7, 2) (pgm 24 rfl)) bp_7 ?_
      refine so_dup2 X (dkX12_again (48, .dup2, 1) (pgm 25 rfl)) rfl rfl ?_
      refine so_iald X (rk_12_0 this hk) (dkX12_again (49, .iaload, 1) (pgm 26 rfl)) (fun x8 => ?_)
      refine so_iconst (v := (1 : Int32)) X (dkX12_again (50, .iconst 1, 1) (pgm 27 rfl)) ic_1 ?_
      refine so_iload_n (i := 1) X 1 (dkX12_again (51, .iload_n 1, 1) (pgm 28 rfl)) rfl rfl ?_
      refine so_ishl X (dkX12_again (52, .ishl, 1) (pgm 29 rfl)) ?_
      refine so_ior X (dkX12_again (53, .ior, 1) (pgm 30 rfl)) ?_
      refine so_iast X (rk_12_0 this hk) (dkX12_again (54, .iastore, 1) (pgm 31 rfl)) (fun h9 => ?_)
      refine so_aload_n (i := 0) X 0 (dkX12_again (55, .aload_n 0, 1) (pgm 32 rfl)) rfl rfl ?_
      refine sf_getR X ff_12_0 lk_1702 hk (dkX12_again (56, .getfield 9, 3) (pgm 33 rfl)) ?_
      refine so_bipush (v := (8 : Int32)) X (dkX12_again (59, .bipush 8, 2) (pgm 34 rfl)) bp_8 ?_
      refine so_iload_n (i := 1) X 1 (dkX12_again (61, .iload_n 1, 1) (pgm 35 rfl)) rfl rfl ?_
      refine so_iadd X (dkX12_again (62, .iadd, 1) (pgm 36 rfl)) ?_
      refine so_iconst (v := (0 : Int32)) X (dkX12_again (63, .iconst 0, 1) (pgm 37 rfl)) ic_0 ?_
      refine so_iast X (rk_12_0 this hk) (dkX12_again (64, .iastore, 1) (pgm 38 rfl)) (fun h10 => ?_)
      refine so_aload_n (i := 0) X 0 (dkX12_again (65, .aload_n 0, 1) (pgm 39 rfl)) rfl rfl ?_
      refine sf_getR X ff_12_0 lk_1702 hk (dkX12_again (66, .getfield 9, 3) (pgm 40 rfl)) ?_
      refine so_bipush (v := (7 : Int32)) X (dkX12_again (69, .bipush 7, 2) (pgm 41 rfl)) bp_7 ?_
      refine so_iald X (rk_12_0 this hk) (dkX12_again (71, .iaload, 1) (pgm 42 rfl)) (fun x11 => ?_)
      refine so_callS (n := 1) (As := [.int x11]) X (ct_X12_size l x11 h10 ) lk_1687 lk_1688 lk_134 lk_1689 (by decide +kernel) rfl rfl rfl (rm_ok (by omega) (by decide)) ⟨Nat.zero_le _, Nat.zero_le _⟩ (Nat.le_of_ble_eq_true rfl) (dkX12_again (72, .invokestatic 269, 3) (pgm 43 rfl)) (fun r12 h13 => ?_) rfl
      exact so_iret X hr hlk (dkX12_again (75, .ireturn, 1) (pgm 44 rfl))
    · refine so_iconst (v := (0 : Int32)) X (dkX12_again (36, .iconst 0, 1) (pgm 18 rfl)) ic_0 ?_
      exact so_iret X hr hlk (dkX12_again (37, .ireturn, 1) (pgm 19 rfl))
  refine so_if_ne (tgt := 13) X (dkX12_again (6, .ifCond .ne 7, 3) (pgm 4 rfl)) rfl (fun _ => ?_) (fun _ => ?_)
  · refine so_aload_n (i := 0) X 0 (dkX12_again (13, .aload_n 0, 1) (pgm 7 rfl)) rfl rfl ?_
    refine so_iload_n (i := 1) X 1 (dkX12_again (14, .iload_n 1, 1) (pgm 8 rfl)) rfl rfl ?_
    refine so_callV (n := 1) (As := [.int a1]) X (ct_X12_isOpen l this a1 h2 hk) hk (by decide) rfl lk_1962 lk_1964 lk_84 lk_134 lk_1965 (by decide +kernel) rfl rfl rfl (rm_ok (by omega) (by decide)) ⟨Nat.zero_le _, Nat.zero_le _⟩ (Nat.le_of_ble_eq_true rfl) (dkX12_again (15, .invokevirtual 289, 3) (pgm 9 rfl)) (fun r14 h15 => ?_) rfl
    refine so_if_eq (tgt := 25) X (dkX12_again (18, .ifCond .eq 7, 3) (pgm 10 rfl)) rfl (fun _ => ?_) (fun _ => ?_)
    · refine so_iconst (v := (0 : Int32)) X (dkX12_again (25, .iconst 0, 1) (pgm 13 rfl)) ic_0 ?_
      exact so_pick X [0, 1] rfl (hj26 (0 : Int32) h15)
    · refine so_iconst (v := (2 : Int32)) X (dkX12_again (21, .iconst 2, 1) (pgm 11 rfl)) ic_2 ?_
      refine so_goto (tgt := 26) X (dkX12_again (22, .goto 4, 3) (pgm 12 rfl)) rfl ?_
      exact so_pick X [0, 1] rfl (hj26 (2 : Int32) h15)
  · refine so_iconst (v := (1 : Int32)) X (dkX12_again (9, .iconst 1, 1) (pgm 5 rfl)) ic_1 ?_
    refine so_goto (tgt := 26) X (dkX12_again (10, .goto 16, 3) (pgm 6 rfl)) rfl ?_
    exact so_pick X [0, 1] rfl (hj26 (1 : Int32) h2)
def pgX12_undo : List (Nat × Instr × Nat) := [(0, .aload_n 0, 1), (1, .iconst 0, 1), (2, .putfield 92, 3), (5, .iload_n 1, 1), (6, .i2l, 1), (7, .lconst 1, 1), (8, .ldc2_w 388, 3), (11, .invokestatic 156, 3), (14, .ifCond .eq 14, 3), (17, .iload_n 1, 1), (18, .aload_n 0, 1), (19, .getfield 9, 3), (22, .bipush 6, 2), (24, .iaload, 1), (25, .if_icmp .le 9, 3), (28, .aload_n 0, 1), (29, .iconst 1, 1), (30, .invokevirtual 233, 3), (33, .ireturn, 1), (34, .aload_n 0, 1), (35, .getfield 9, 3), (38, .bipush 6, 2), (40, .dup2, 1), (41, .iaload, 1), (42, .iload_n 1, 1), (43, .isub, 1), (44, .iastore, 1), (45, .iconst 0, 1), (46, .istore_n 2, 1), (47, .iload_n 2, 1), (48, .bipush 17, 2), (50, .if_icmp .ge 38, 3), (53, .aload_n 0, 1), (54, .getfield 9, 3), (57, .bipush 7, 2), (59, .iload_n 2, 1), (60, .iadd, 1), (61, .aload_n 0, 1), (62, .getfield 9, 3), (65, .bipush 66, 2), (67, .bipush 17, 2), (69, .aload_n 0, 1), (70, .getfield 9, 3), (73, .bipush 6, 2), (75, .iaload, 1), (76, .imul, 1), (77, .iadd, 1), (78, .iload_n 2, 1), (79, .iadd, 1), (80, .iaload, 1), (81, .iastore, 1), (82, .iinc 2 1, 3), (85, .goto (-38), 3), (88, .aload_n 0, 1), (89, .getfield 9, 3), (92, .bipush 6, 2), (94, .iaload, 1), (95, .ireturn, 1)]
theorem dkX12_undo : ∀ q ∈ pgX12_undo, decode cX12_undo q.1 = .ok q.2 := by decide +kernel
def b_X12_undo_47 (this : Nat) (rec47 : (Int32) → PH → Option (Int32 × PH)) (s47 : Int32) (hh47 : PH) : Option (Int32 × PH) :=
  if (17 : Int32) ≤ s47 then (ldI hh47 (rt this 0) 1200 (6 : Int32) (fun (x11 : Int32) => some (x11, hh47))) else (ldI hh47 (rt this 0) 1200 (6 : Int32) (fun (x12 : Int32) => ldI hh47 (rt this 0) 1200 (((66 : Int32) + ((17 : Int32) * x12)) + s47) (fun (x13 : Int32) => stI hh47 (rt this 0) 1200 ((7 : Int32) + s47) x13 (fun (h14 : PH) => lt (s47 + Int32.ofInt 1) (fun (x15 : Int32) => rec47 x15 h14)))))
def f_X12_undo (this : Nat) (a1 : Int32) (h0 : PH) : Option (Int32 × PH) :=
  lt (pI h0 this 5 (0 : Int32)) (fun (h1 : PH) => cb (f_X12_within a1.toInt64 (1 : Int64) (10 : Int64) h1) (fun (r2 : Int32) (h3 : PH) => lt (fun (h4 : PH) => cb (f_X12_fails this (1 : Int32) h4) (fun (r5 : Int32) (h6 : PH) => some (r5, h6))) (fun (j28 : PH → Option (Int32 × PH)) => if r2 = 0 then (j28 h3) else (ldI h3 (rt this 0) 1200 (6 : Int32) (fun (x7 : Int32) => if a1 ≤ x7 then (ldI h3 (rt this 0) 1200 (6 : Int32) (fun (x8 : Int32) => stI h3 (rt this 0) 1200 (6 : Int32) (x8 - a1) (fun (h9 : PH) => lt (0 : Int32) (fun (x10 : Int32) => lp (b_X12_undo_47 this) FU x10 h9)))) else (j28 h3))))))
set_option maxRecDepth 100000 in
set_option maxHeartbeats 4000000 in
theorem ct_X12_undo (l : Launch) (this : Nat) (a1 : Int32) (h0 : PH) (hk : (kd this).1 = 12) : CT mkI l yX12_undo cX12_undo 3 (some .int) (rmd 1) [.ref this, .int a1] h0 (f_X12_undo this a1 h0) := by
  refine ct_of (by decide) (Nat.le_of_ble_eq_true rfl) ?_
  intro p e s m args below meth c D cA ad A X hr hlk
  have X : Cx p s m args c RX12 cX12_undo 3 D cA ad A := X
  unfold f_X12_undo
  refine so_pick (L' := [(0, .ref this), (1, .int a1)]) X [0, 1] rfl ?_
  refine so_aload_n (i := 0) X 0 (dkX12_undo (0, .aload_n 0, 1) (pgm 0 rfl)) rfl rfl ?_
  refine so_iconst (v := (0 : Int32)) X (dkX12_undo (1, .iconst 0, 1) (pgm 1 rfl)) ic_0 ?_
  refine sf_putI X ff_12_5 ft_12 rfl lk_1707 hk rfl rfl (dkX12_undo (2, .putfield 92, 3) (pgm 2 rfl)) (fun h1 => ?_)
  refine so_iload_n (i := 1) X 1 (dkX12_undo (5, .iload_n 1, 1) (pgm 3 rfl)) rfl rfl ?_
  refine so_i2l X (dkX12_undo (6, .i2l, 1) (pgm 4 rfl)) ?_
  refine so_lconst (v := (1 : Int64)) X (dkX12_undo (7, .lconst 1, 1) (pgm 5 rfl)) lc_1 ?_
  refine so_ldc2 X lk_2137 (dkX12_undo (8, .ldc2_w 388, 3) (pgm 6 rfl)) ?_
  refine so_callS (n := 3) (As := [.long a1.toInt64, .long (1 : Int64), .long (10 : Int64)]) X (ct_X12_within l a1.toInt64 (1 : Int64) (10 : Int64) h1 ) lk_1832 lk_1833 lk_134 lk_1834 (by decide +kernel) rfl rfl rfl (rm_ok (by omega) (by decide)) ⟨Nat.zero_le _, Nat.zero_le _⟩ (Nat.le_of_ble_eq_true rfl) (dkX12_undo (11, .invokestatic 156, 3) (pgm 7 rfl)) (fun r2 h3 => ?_) rfl
  refine so_join (jf := fun (h4 : PH) => cb (f_X12_fails this (1 : Int32) h4) (fun (r5 : Int32) (h6 : PH) => some (r5, h6))) (fun (j : PH → Option (Int32 × PH)) => ∀  (h4 : PH), SWo (QM mkI below args s D cA ad A) p l e (rmd 1) s m args below meth c 0 0 3 D cA ad A 28 [(0, .ref this)] [] h4 (j h4)) ?_ (fun j28 hj28 => ?_)
  · intro h4
    refine so_aload_n (i := 0) X 0 (dkX12_undo (28, .aload_n 0, 1) (pgm 15 rfl)) rfl rfl ?_
    refine so_iconst (v := (1 : Int32)) X (dkX12_undo (29, .iconst 1, 1) (pgm 16 rfl)) ic_1 ?_
    refine so_callV (n := 1) (As := [.int (1 : Int32)]) X (ct_X12_fails l this (1 : Int32) h4 hk) hk (by decide) rfl lk_1835 lk_1837 lk_61 lk_134 lk_1838 (by decide +kernel) rfl rfl rfl (rm_ok (by omega) (by decide)) ⟨Nat.zero_le _, Nat.zero_le _⟩ (Nat.le_of_ble_eq_true rfl) (dkX12_undo (30, .invokevirtual 233, 3) (pgm 17 rfl)) (fun r5 h6 => ?_) rfl
    exact so_iret X hr hlk (dkX12_undo (33, .ireturn, 1) (pgm 18 rfl))
  refine so_if_eq (tgt := 28) X (dkX12_undo (14, .ifCond .eq 14, 3) (pgm 8 rfl)) rfl (fun _ => ?_) (fun _ => ?_)
  · exact so_pick X [0] rfl (hj28 h3)
  · refine so_iload_n (i := 1) X 1 (dkX12_undo (17, .iload_n 1, 1) (pgm 9 rfl)) rfl rfl ?_
    refine so_aload_n (i := 0) X 0 (dkX12_undo (18, .aload_n 0, 1) (pgm 10 rfl)) rfl rfl ?_
    refine sf_getR X ff_12_0 lk_1702 hk (dkX12_undo (19, .getfield 9, 3) (pgm 11 rfl)) ?_
    refine so_bipush (v := (6 : Int32)) X (dkX12_undo (22, .bipush 6, 2) (pgm 12 rfl)) bp_6 ?_
    refine so_iald X (rk_12_0 this hk) (dkX12_undo (24, .iaload, 1) (pgm 13 rfl)) (fun x7 => ?_)
    refine so_icmp_le (tgt := 34) X (dkX12_undo (25, .if_icmp .le 9, 3) (pgm 14 rfl)) rfl (fun _ => ?_) (fun _ => ?_)
    · refine so_aload_n (i := 0) X 0 (dkX12_undo (34, .aload_n 0, 1) (pgm 19 rfl)) rfl rfl ?_
      refine sf_getR X ff_12_0 lk_1702 hk (dkX12_undo (35, .getfield 9, 3) (pgm 20 rfl)) ?_
      refine so_bipush (v := (6 : Int32)) X (dkX12_undo (38, .bipush 6, 2) (pgm 21 rfl)) bp_6 ?_
      refine so_dup2 X (dkX12_undo (40, .dup2, 1) (pgm 22 rfl)) rfl rfl ?_
      refine so_iald X (rk_12_0 this hk) (dkX12_undo (41, .iaload, 1) (pgm 23 rfl)) (fun x8 => ?_)
      refine so_iload_n (i := 1) X 1 (dkX12_undo (42, .iload_n 1, 1) (pgm 24 rfl)) rfl rfl ?_
      refine so_isub X (dkX12_undo (43, .isub, 1) (pgm 25 rfl)) ?_
      refine so_iast X (rk_12_0 this hk) (dkX12_undo (44, .iastore, 1) (pgm 26 rfl)) (fun h9 => ?_)
      refine so_iconst (v := (0 : Int32)) X (dkX12_undo (45, .iconst 0, 1) (pgm 27 rfl)) ic_0 ?_
      refine so_istore_n (i := 2) X (dkX12_undo (46, .istore_n 2, 1) (pgm 28 rfl)) rfl (by decide) (Lf := fun x10 => [(2, .int x10), (0, .ref this), (1, .int a1)]) (fun _ => rfl) (fun x10 => ?_)
      refine so_pick (L' := [(0, .ref this), (2, .int x10)]) X [1, 0] rfl ?_
      refine so_loop (body := b_X12_undo_47 this) (fun (s47 : Int32) => [(0, .ref this), (2, .int s47)]) (fun rec47 hrec47 s47 hh47 => ?_) FU x10 h9
      unfold b_X12_undo_47
      refine so_iload_n (i := 2) X 1 (dkX12_undo (47, .iload_n 2, 1) (pgm 29 rfl)) rfl rfl ?_
      refine so_bipush (v := (17 : Int32)) X (dkX12_undo (48, .bipush 17, 2) (pgm 30 rfl)) bp_17 ?_
      refine so_icmp_ge (tgt := 88) X (dkX12_undo (50, .if_icmp .ge 38, 3) (pgm 31 rfl)) rfl (fun _ => ?_) (fun _ => ?_)
      · refine so_aload_n (i := 0) X 0 (dkX12_undo (88, .aload_n 0, 1) (pgm 53 rfl)) rfl rfl ?_
        refine sf_getR X ff_12_0 lk_1702 hk (dkX12_undo (89, .getfield 9, 3) (pgm 54 rfl)) ?_
        refine so_bipush (v := (6 : Int32)) X (dkX12_undo (92, .bipush 6, 2) (pgm 55 rfl)) bp_6 ?_
        refine so_iald X (rk_12_0 this hk) (dkX12_undo (94, .iaload, 1) (pgm 56 rfl)) (fun x11 => ?_)
        exact so_iret X hr hlk (dkX12_undo (95, .ireturn, 1) (pgm 57 rfl))
      · refine so_aload_n (i := 0) X 0 (dkX12_undo (53, .aload_n 0, 1) (pgm 32 rfl)) rfl rfl ?_
        refine sf_getR X ff_12_0 lk_1702 hk (dkX12_undo (54, .getfield 9, 3) (pgm 33 rfl)) ?_
        refine so_bipush (v := (7 : Int32)) X (dkX12_undo (57, .bipush 7, 2) (pgm 34 rfl)) bp_7 ?_
        refine so_iload_n (i := 2) X 1 (dkX12_undo (59, .iload_n 2, 1) (pgm 35 rfl)) rfl rfl ?_
        refine so_iadd X (dkX12_undo (60, .iadd, 1) (pgm 36 rfl)) ?_
        refine so_aload_n (i := 0) X 0 (dkX12_undo (61, .aload_n 0, 1) (pgm 37 rfl)) rfl rfl ?_
        refine sf_getR X ff_12_0 lk_1702 hk (dkX12_undo (62, .getfield 9, 3) (pgm 38 rfl)) ?_
        refine so_bipush (v := (66 : Int32)) X (dkX12_undo (65, .bipush 66, 2) (pgm 39 rfl)) bp_66 ?_
        refine so_bipush (v := (17 : Int32)) X (dkX12_undo (67, .bipush 17, 2) (pgm 40 rfl)) bp_17 ?_
        refine so_aload_n (i := 0) X 0 (dkX12_undo (69, .aload_n 0, 1) (pgm 41 rfl)) rfl rfl ?_
        refine sf_getR X ff_12_0 lk_1702 hk (dkX12_undo (70, .getfield 9, 3) (pgm 42 rfl)) ?_
        refine so_bipush (v := (6 : Int32)) X (dkX12_undo (73, .bipush 6, 2) (pgm 43 rfl)) bp_6 ?_
        refine so_iald X (rk_12_0 this hk) (dkX12_undo (75, .iaload, 1) (pgm 44 rfl)) (fun x12 => ?_)
        refine so_imul X (dkX12_undo (76, .imul, 1) (pgm 45 rfl)) ?_
        refine so_iadd X (dkX12_undo (77, .iadd, 1) (pgm 46 rfl)) ?_
        refine so_iload_n (i := 2) X 1 (dkX12_undo (78, .iload_n 2, 1) (pgm 47 rfl)) rfl rfl ?_
        refine so_iadd X (dkX12_undo (79, .iadd, 1) (pgm 48 rfl)) ?_
        refine so_iald X (rk_12_0 this hk) (dkX12_undo (80, .iaload, 1) (pgm 49 rfl)) (fun x13 => ?_)
        refine so_iast X (rk_12_0 this hk) (dkX12_undo (81, .iastore, 1) (pgm 50 rfl)) (fun h14 => ?_)
        refine so_iinc (i := 2) X 1 (dkX12_undo (82, .iinc 2 1, 3) (pgm 51 rfl)) rfl rfl (by decide) (Lf := fun x15 => [(2, .int x15), (0, .ref this)]) (fun _ => rfl) (fun x15 => ?_)
        refine so_goto (tgt := 47) X (dkX12_undo (85, .goto (-38), 3) (pgm 52 rfl)) rfl ?_
        exact so_pick X [1, 0] rfl (hrec47 x15 h14)
    · exact so_pick X [0] rfl (hj28 h3)
def pgX12_draw : List (Nat × Instr × Nat) := [(0, .aload_n 0, 1), (1, .ldc_w 431, 3), (4, .aload_n 0, 1), (5, .getfield 432, 3), (8, .imul, 1), (9, .sipush 12345, 3), (12, .iadd, 1), (13, .putfield 432, 3), (16, .aload_n 0, 1), (17, .getfield 432, 3), (20, .bipush 16, 2), (22, .iushr, 1), (23, .iload_n 1, 1), (24, .irem, 1), (25, .ireturn, 1)]
theorem dkX12_draw : ∀ q ∈ pgX12_draw, decode cX12_draw q.1 = .ok q.2 := by decide +kernel
def f_X12_draw (this : Nat) (a1 : Int32) (h0 : PH) : Option (Int32 × PH) :=
  lt (pI h0 this 34 (((1103515245 : Int32) * (h0.1 this 34)) + (12345 : Int32))) (fun (h1 : PH) => nz a1 (some (((((h1.1 this 34).toUInt32 >>> ((16 : Int32).toUInt32 &&& Int32.toUInt32 31)).toInt32) - (((h1.1 this 34).toUInt32 >>> ((16 : Int32).toUInt32 &&& Int32.toUInt32 31)).toInt32) / a1 * a1), h1)))
set_option maxRecDepth 100000 in
set_option maxHeartbeats 4000000 in
theorem ct_X12_draw (l : Launch) (this : Nat) (a1 : Int32) (h0 : PH) (hk : (kd this).1 = 12) : CT mkI l yX12_draw cX12_draw 2 (some .int) (rmd 0) [.ref this, .int a1] h0 (f_X12_draw this a1 h0) := by
  refine ct_of (by decide) (Nat.le_of_ble_eq_true rfl) ?_
  intro p e s m args below meth c D cA ad A X hr hlk
  have X : Cx p s m args c RX12 cX12_draw 2 D cA ad A := X
  unfold f_X12_draw
  refine so_pick (L' := [(0, .ref this), (1, .int a1)]) X [0, 1] rfl ?_
  refine so_aload_n (i := 0) X 0 (dkX12_draw (0, .aload_n 0, 1) (pgm 0 rfl)) rfl rfl ?_
  refine so_ldcw X lk_2233 (dkX12_draw (1, .ldc_w 431, 3) (pgm 1 rfl)) ?_
  refine so_aload_n (i := 0) X 0 (dkX12_draw (4, .aload_n 0, 1) (pgm 2 rfl)) rfl rfl ?_
  refine sf_getI X ff_12_34 lk_1736 hk (dkX12_draw (5, .getfield 432, 3) (pgm 3 rfl)) ?_
  refine so_imul X (dkX12_draw (8, .imul, 1) (pgm 4 rfl)) ?_
  refine so_sipush (v := (12345 : Int32)) X (dkX12_draw (9, .sipush 12345, 3) (pgm 5 rfl)) sp_12345 ?_
  refine so_iadd X (dkX12_draw (12, .iadd, 1) (pgm 6 rfl)) ?_
  refine sf_putI X ff_12_34 ft_12 rfl lk_1736 hk rfl rfl (dkX12_draw (13, .putfield 432, 3) (pgm 7 rfl)) (fun h1 => ?_)
  refine so_aload_n (i := 0) X 0 (dkX12_draw (16, .aload_n 0, 1) (pgm 8 rfl)) rfl rfl ?_
  refine sf_getI X ff_12_34 lk_1736 hk (dkX12_draw (17, .getfield 432, 3) (pgm 9 rfl)) ?_
  refine so_bipush (v := (16 : Int32)) X (dkX12_draw (20, .bipush 16, 2) (pgm 10 rfl)) bp_16 ?_
  refine so_iushr X (dkX12_draw (22, .iushr, 1) (pgm 11 rfl)) rfl ?_
  refine so_iload_n (i := 1) X 1 (dkX12_draw (23, .iload_n 1, 1) (pgm 12 rfl)) rfl rfl ?_
  refine so_irem X (dkX12_draw (24, .irem, 1) (pgm 13 rfl)) (fun _ => ?_)
  exact so_iret X hr hlk (dkX12_draw (25, .ireturn, 1) (pgm 14 rfl))
def pgX12_season : List (Nat × Instr × Nat) := [(0, .aload_n 0, 1), (1, .iload_n 2, 1), (2, .i2l, 1), (3, .lconst 1, 1), (4, .ldc2_w 435, 3), (7, .invokestatic 156, 3), (10, .ifCond .ne 7, 3), (13, .iconst 1, 1), (14, .goto 17, 3), (17, .aload_n 0, 1), (18, .getfield 9, 3), (21, .iconst 1, 1), (22, .iaload, 1), (23, .ifCond .ne 7, 3), (26, .iconst 2, 1), (27, .goto 4, 3), (30, .iconst 0, 1), (31, .putfield 92, 3), (34, .aload_n 0, 1), (35, .getfield 92, 3), (38, .ifCond .le 5, 3), (41, .iconst 0, 1), (42, .ireturn, 1), (43, .aload_n 0, 1), (44, .iload_n 1, 1), (45, .putfield 432, 3), (48, .iconst 0, 1), (49, .istore_n 3, 1), (50, .iconst 0, 1), (51, .istore 4, 2), (53, .iload 4, 2), (55, .iload_n 2, 1), (56, .if_icmp .ge 79, 3), (59, .iconst 0, 1), (60, .istore 5, 2), (62, .aload_n 0, 1), (63, .aload_n 0, 1), (64, .getfield 9, 3), (67, .iconst 3, 1), (68, .iaload, 1), (69, .iconst 1, 1), (70, .iadd, 1), (71, .invokevirtual 437, 3), (74, .istore 6, 2), (76, .iload 6, 2), (78, .ifCond .le 24, 3), (81, .iload 5, 2), (83, .iconst 1, 1), (84, .aload_n 0, 1), (85, .aload_n 0, 1), (86, .invokevirtual 249, 3), (89, .invokevirtual 437, 3), (92, .ishl, 1), (93, .ior, 1), (94, .istore 5, 2), (96, .iinc 6 (-1), 3), (99, .goto (-23), 3), (102, .aload_n 0, 1), (103, .iload 5, 2), (105, .i2l, 1), (106, .invokevirtual 310, 3), (109, .ifCond .eq 6, 3), (112, .goto 17, 3), (115, .aload_n 0, 1), (116, .invokevirtual 423, 3), (119, .aload_n 0, 1), (120, .iload 5, 2), (122, .invokevirtual 426, 3), (125, .pop, 1), (126, .iinc 3 1, 3), (129, .iinc 4 1, 3), (132, .goto (-79), 3), (135, .iload_n 3, 1), (136, .ireturn, 1)]
theorem dkX12_season : ∀ q ∈ pgX12_season, decode cX12_season q.1 = .ok q.2 := by decide +kernel
def b_X12_season_76 (this : Nat) (j102 : Int32 → PH → Option (Int32 × PH)) (rec76 : (Int32 × Int32) → PH → Option (Int32 × PH)) (s76 : Int32 × Int32) (hh76 : PH) : Option (Int32 × PH) :=
  if s76.2 ≤ 0 then (j102 s76.1 hh76) else (cb (f_X12_cells this hh76) (fun (r26 : Int32) (h27 : PH) => cb (f_X12_draw this r26 h27) (fun (r28 : Int32) (h29 : PH) => lt (s76.1 ||| ((1 : Int32) <<< (r28 &&& 31))) (fun (x30 : Int32) => lt (s76.2 + Int32.ofInt (-1)) (fun (x31 : Int32) => rec76 (x30, x31) h29)))))
def b_X12_season_53 (this : Nat) (a2 : Int32) (rec53 : (Int32 × Int32) → PH → Option (Int32 × PH)) (s53 : Int32 × Int32) (hh53 : PH) : Option (Int32 × PH) :=
  if a2 ≤ s53.2 then (some (s53.1, hh53)) else (lt (0 : Int32) (fun (x9 : Int32) => ldI hh53 (rt this 0) 1200 (3 : Int32) (fun (x10 : Int32) => cb (f_X12_draw this (x10 + (1 : Int32)) hh53) (fun (r11 : Int32) (h12 : PH) => lt r11 (fun (x13 : Int32) => lt (fun (y14 : Int32) (h15 : PH) => cb (f_X12_whyNot this y14.toInt64 h15) (fun (r16 : Int32) (h17 : PH) => lt (fun (y18 : Int32) (h19 : PH) => lt (s53.2 + Int32.ofInt 1) (fun (x20 : Int32) => rec53 (y18, x20) h19)) (fun (j129 : Int32 → PH → Option (Int32 × PH)) => if r16 = 0 then (cb (f_X12_keeps this h17) (fun (r21 : Unit) (h22 : PH) => cb (f_X12_goesBy this y14 h22) (fun (r23 : Int32) (h24 : PH) => lt (s53.1 + Int32.ofInt 1) (fun (x25 : Int32) => j129 x25 h24)))) else (j129 s53.1 h17)))) (fun (j102 : Int32 → PH → Option (Int32 × PH)) => lp (b_X12_season_76 this j102) FU (x9, x13) h12))))))
def f_X12_season (this : Nat) (a1 : Int32) (a2 : Int32) (h0 : PH) : Option (Int32 × PH) :=
  cb (f_X12_within a2.toInt64 (1 : Int64) (30 : Int64) h0) (fun (r1 : Int32) (h2 : PH) => lt (fun (t3 : Int32) (h4 : PH) => lt (pI h4 this 5 t3) (fun (h5 : PH) => if (h5.1 this 5) ≤ 0 then (lt (pI h5 this 34 a1) (fun (h6 : PH) => lt (0 : Int32) (fun (x7 : Int32) => lt (0 : Int32) (fun (x8 : Int32) => lp (b_X12_season_53 this a2) FU (x7, x8) h6)))) else (some ((0 : Int32), h5)))) (fun (j31 : Int32 → PH → Option (Int32 × PH)) => if r1 = 0 then (j31 (1 : Int32) h2) else (ldI h2 (rt this 0) 1200 (1 : Int32) (fun (x32 : Int32) => if x32 = 0 then (j31 (2 : Int32) h2) else (j31 (0 : Int32) h2)))))
set_option maxRecDepth 100000 in
set_option maxHeartbeats 4000000 in
theorem ct_X12_season (l : Launch) (this : Nat) (a1 : Int32) (a2 : Int32) (h0 : PH) (hk : (kd this).1 = 12) : CT mkI l yX12_season cX12_season 7 (some .int) (rmd 4) [.ref this, .int a1, .int a2] h0 (f_X12_season this a1 a2 h0) := by
  refine ct_of (by decide) (Nat.le_of_ble_eq_true rfl) ?_
  intro p e s m args below meth c D cA ad A X hr hlk
  have X : Cx p s m args c RX12 cX12_season 7 D cA ad A := X
  unfold f_X12_season
  refine so_pick (L' := [(0, .ref this), (1, .int a1), (2, .int a2)]) X [0, 1, 2] rfl ?_
  refine so_aload_n (i := 0) X 0 (dkX12_season (0, .aload_n 0, 1) (pgm 0 rfl)) rfl rfl ?_
  refine so_iload_n (i := 2) X 2 (dkX12_season (1, .iload_n 2, 1) (pgm 1 rfl)) rfl rfl ?_
  refine so_i2l X (dkX12_season (2, .i2l, 1) (pgm 2 rfl)) ?_
  refine so_lconst (v := (1 : Int64)) X (dkX12_season (3, .lconst 1, 1) (pgm 3 rfl)) lc_1 ?_
  refine so_ldc2 X lk_2228 (dkX12_season (4, .ldc2_w 435, 3) (pgm 4 rfl)) ?_
  refine so_callS (n := 3) (As := [.long a2.toInt64, .long (1 : Int64), .long (30 : Int64)]) X (ct_X12_within l a2.toInt64 (1 : Int64) (30 : Int64) h0 ) lk_1832 lk_1833 lk_134 lk_1834 (by decide +kernel) rfl rfl rfl (rm_ok (by omega) (by decide)) ⟨Nat.zero_le _, Nat.zero_le _⟩ (Nat.le_of_ble_eq_true rfl) (dkX12_season (7, .invokestatic 156, 3) (pgm 5 rfl)) (fun r1 h2 => ?_) rfl
  refine so_join (jf := fun (t3 : Int32) (h4 : PH) => lt (pI h4 this 5 t3) (fun (h5 : PH) => if (h5.1 this 5) ≤ 0 then (lt (pI h5 this 34 a1) (fun (h6 : PH) => lt (0 : Int32) (fun (x7 : Int32) => lt (0 : Int32) (fun (x8 : Int32) => lp (b_X12_season_53 this a2) FU (x7, x8) h6)))) else (some ((0 : Int32), h5)))) (fun (j : Int32 → PH → Option (Int32 × PH)) => ∀ (t3 : Int32) (h4 : PH), SWo (QM mkI below args s D cA ad A) p l e (rmd 4) s m args below meth c 0 0 7 D cA ad A 31 [(0, .ref this), (1, .int a1), (2, .int a2)] [.int t3, .ref this] h4 (j t3 h4)) ?_ (fun j31 hj31 => ?_)
  · intro t3 h4
    refine sf_putI X ff_12_5 ft_12 rfl lk_1707 hk rfl rfl (dkX12_season (31, .putfield 92, 3) (pgm 17 rfl)) (fun h5 => ?_)
    refine so_aload_n (i := 0) X 0 (dkX12_season (34, .aload_n 0, 1) (pgm 18 rfl)) rfl rfl ?_
    refine sf_getI X ff_12_5 lk_1707 hk (dkX12_season (35, .getfield 92, 3) (pgm 19 rfl)) ?_
    refine so_if_le (tgt := 43) X (dkX12_season (38, .ifCond .le 5, 3) (pgm 20 rfl)) rfl (fun _ => ?_) (fun _ => ?_)
    · refine so_aload_n (i := 0) X 0 (dkX12_season (43, .aload_n 0, 1) (pgm 23 rfl)) rfl rfl ?_
      refine so_iload_n (i := 1) X 1 (dkX12_season (44, .iload_n 1, 1) (pgm 24 rfl)) rfl rfl ?_
      refine sf_putI X ff_12_34 ft_12 rfl lk_1736 hk rfl rfl (dkX12_season (45, .putfield 432, 3) (pgm 25 rfl)) (fun h6 => ?_)
      refine so_iconst (v := (0 : Int32)) X (dkX12_season (48, .iconst 0, 1) (pgm 26 rfl)) ic_0 ?_
      refine so_istore_n (i := 3) X (dkX12_season (49, .istore_n 3, 1) (pgm 27 rfl)) rfl (by decide) (Lf := fun x7 => [(3, .int x7), (0, .ref this), (1, .int a1), (2, .int a2)]) (fun _ => rfl) (fun x7 => ?_)
      refine so_iconst (v := (0 : Int32)) X (dkX12_season (50, .iconst 0, 1) (pgm 28 rfl)) ic_0 ?_
      refine so_istore (i := 4) X (dkX12_season (51, .istore 4, 2) (pgm 29 rfl)) (by decide) (Lf := fun x8 => [(4, .int x8), (3, .int x7), (0, .ref this), (1, .int a1), (2, .int a2)]) (fun _ => rfl) (fun x8 => ?_)
      refine so_pick (L' := [(0, .ref this), (2, .int a2), (3, .int x7), (4, .int x8)]) X [2, 4, 1, 0] rfl ?_
      refine so_loop (body := b_X12_season_53 this a2) (fun (s53 : Int32 × Int32) => [(0, .ref this), (2, .int a2), (3, .int s53.1), (4, .int s53.2)]) (fun rec53 hrec53 s53 hh53 => ?_) FU (x7, x8) h6
      unfold b_X12_season_53
      refine so_iload (i := 4) X 3 (dkX12_season (53, .iload 4, 2) (pgm 30 rfl)) rfl ?_
      refine so_iload_n (i := 2) X 1 (dkX12_season (55, .iload_n 2, 1) (pgm 31 rfl)) rfl rfl ?_
      refine so_icmp_ge (tgt := 135) X (dkX12_season (56, .if_icmp .ge 79, 3) (pgm 32 rfl)) rfl (fun _ => ?_) (fun _ => ?_)
      · refine so_iload_n (i := 3) X 2 (dkX12_season (135, .iload_n 3, 1) (pgm 72 rfl)) rfl rfl ?_
        exact so_iret X hr hlk (dkX12_season (136, .ireturn, 1) (pgm 73 rfl))
      · refine so_iconst (v := (0 : Int32)) X (dkX12_season (59, .iconst 0, 1) (pgm 33 rfl)) ic_0 ?_
        refine so_istore (i := 5) X (dkX12_season (60, .istore 5, 2) (pgm 34 rfl)) (by decide) (Lf := fun x9 => [(5, .int x9), (0, .ref this), (2, .int a2), (3, .int s53.1), (4, .int s53.2)]) (fun _ => rfl) (fun x9 => ?_)
        refine so_aload_n (i := 0) X 1 (dkX12_season (62, .aload_n 0, 1) (pgm 35 rfl)) rfl rfl ?_
        refine so_aload_n (i := 0) X 1 (dkX12_season (63, .aload_n 0, 1) (pgm 36 rfl)) rfl rfl ?_
        refine sf_getR X ff_12_0 lk_1702 hk (dkX12_season (64, .getfield 9, 3) (pgm 37 rfl)) ?_
        refine so_iconst (v := (3 : Int32)) X (dkX12_season (67, .iconst 3, 1) (pgm 38 rfl)) ic_3 ?_
        refine so_iald X (rk_12_0 this hk) (dkX12_season (68, .iaload, 1) (pgm 39 rfl)) (fun x10 => ?_)
        refine so_iconst (v := (1 : Int32)) X (dkX12_season (69, .iconst 1, 1) (pgm 40 rfl)) ic_1 ?_
        refine so_iadd X (dkX12_season (70, .iadd, 1) (pgm 41 rfl)) ?_
        refine so_callV (n := 1) (As := [.int (x10 + (1 : Int32))]) X (ct_X12_draw l this (x10 + (1 : Int32)) hh53 hk) hk (by decide) rfl lk_2229 lk_2231 lk_115 lk_134 lk_2232 (by decide +kernel) rfl rfl rfl (rm_ok (by omega) (by decide)) ⟨Nat.zero_le _, Nat.zero_le _⟩ (Nat.le_of_ble_eq_true rfl) (dkX12_season (71, .invokevirtual 437, 3) (pgm 42 rfl)) (fun r11 h12 => ?_) rfl
        refine so_istore (i := 6) X (dkX12_season (74, .istore 6, 2) (pgm 43 rfl)) (by decide) (Lf := fun x13 => [(6, .int x13), (5, .int x9), (0, .ref this), (2, .int a2), (3, .int s53.1), (4, .int s53.2)]) (fun _ => rfl) (fun x13 => ?_)
        refine so_join (jf := fun (y14 : Int32) (h15 : PH) => cb (f_X12_whyNot this y14.toInt64 h15) (fun (r16 : Int32) (h17 : PH) => lt (fun (y18 : Int32) (h19 : PH) => lt (s53.2 + Int32.ofInt 1) (fun (x20 : Int32) => rec53 (y18, x20) h19)) (fun (j129 : Int32 → PH → Option (Int32 × PH)) => if r16 = 0 then (cb (f_X12_keeps this h17) (fun (r21 : Unit) (h22 : PH) => cb (f_X12_goesBy this y14 h22) (fun (r23 : Int32) (h24 : PH) => lt (s53.1 + Int32.ofInt 1) (fun (x25 : Int32) => j129 x25 h24)))) else (j129 s53.1 h17)))) (fun (j : Int32 → PH → Option (Int32 × PH)) => ∀ (y14 : Int32) (h15 : PH), SWo (QM mkI below args s D cA ad A) p l e (rmd 4) s m args below meth c 0 0 7 D cA ad A 102 [(0, .ref this), (2, .int a2), (3, .int s53.1), (4, .int s53.2), (5, .int y14)] [] h15 (j y14 h15)) ?_ (fun j102 hj102 => ?_)
        · intro y14 h15
          refine so_aload_n (i := 0) X 0 (dkX12_season (102, .aload_n 0, 1) (pgm 57 rfl)) rfl rfl ?_
          refine so_iload (i := 5) X 4 (dkX12_season (103, .iload 5, 2) (pgm 58 rfl)) rfl ?_
          refine so_i2l X (dkX12_season (105, .i2l, 1) (pgm 59 rfl)) ?_
          refine so_callV (n := 1) (As := [.long y14.toInt64]) X (ct_X12_whyNot l this y14.toInt64 h15 hk) hk (by decide) rfl lk_1982 lk_1984 lk_86 lk_134 lk_1985 (by decide +kernel) rfl rfl rfl (rm_ok (by omega) (by decide)) ⟨Nat.zero_le _, Nat.zero_le _⟩ (Nat.le_of_ble_eq_true rfl) (dkX12_season (106, .invokevirtual 310, 3) (pgm 60 rfl)) (fun r16 h17 => ?_) rfl
          refine so_join (jf := fun (y18 : Int32) (h19 : PH) => lt (s53.2 + Int32.ofInt 1) (fun (x20 : Int32) => rec53 (y18, x20) h19)) (fun (j : Int32 → PH → Option (Int32 × PH)) => ∀ (y18 : Int32) (h19 : PH), SWo (QM mkI below args s D cA ad A) p l e (rmd 4) s m args below meth c 0 0 7 D cA ad A 129 [(0, .ref this), (2, .int a2), (3, .int y18), (4, .int s53.2)] [] h19 (j y18 h19)) ?_ (fun j129 hj129 => ?_)
          · intro y18 h19
            refine so_iinc (i := 4) X 3 (dkX12_season (129, .iinc 4 1, 3) (pgm 70 rfl)) rfl rfl (by decide) (Lf := fun x20 => [(4, .int x20), (0, .ref this), (2, .int a2), (3, .int y18)]) (fun _ => rfl) (fun x20 => ?_)
            refine so_goto (tgt := 53) X (dkX12_season (132, .goto (-79), 3) (pgm 71 rfl)) rfl ?_
            exact so_pick X [1, 2, 3, 0] rfl (hrec53 (y18, x20) h19)
          refine so_if_eq (tgt := 115) X (dkX12_season (109, .ifCond .eq 6, 3) (pgm 61 rfl)) rfl (fun _ => ?_) (fun _ => ?_)
          · refine so_aload_n (i := 0) X 0 (dkX12_season (115, .aload_n 0, 1) (pgm 63 rfl)) rfl rfl ?_
            refine so_callV (n := 0) (As := []) X (ct_X12_keeps l this h17 hk) hk (by decide) rfl lk_2187 lk_2189 lk_113 lk_134 lk_2190 (by decide +kernel) rfl rfl rfl (rm_ok (by omega) (by decide)) ⟨Nat.zero_le _, Nat.zero_le _⟩ (Nat.le_of_ble_eq_true rfl) (dkX12_season (116, .invokevirtual 423, 3) (pgm 64 rfl)) (fun r21 h22 => ?_) rfl
            refine so_aload_n (i := 0) X 0 (dkX12_season (119, .aload_n 0, 1) (pgm 65 rfl)) rfl rfl ?_
            refine so_iload (i := 5) X 4 (dkX12_season (120, .iload 5, 2) (pgm 66 rfl)) rfl ?_
            refine so_callV (n := 1) (As := [.int y14]) X (ct_X12_goesBy l this y14 h22 hk) hk (by decide) rfl lk_2191 lk_2193 lk_114 lk_134 lk_2194 (by decide +kernel) rfl rfl rfl (rm_ok (by omega) (by decide)) ⟨Nat.zero_le _, Nat.zero_le _⟩ (Nat.le_of_ble_eq_true rfl) (dkX12_season (122, .invokevirtual 426, 3) (pgm 67 rfl)) (fun r23 h24 => ?_) rfl
            refine so_pop X (dkX12_season (125, .pop, 1) (pgm 68 rfl)) rfl ?_
            refine so_iinc (i := 3) X 2 (dkX12_season (126, .iinc 3 1, 3) (pgm 69 rfl)) rfl rfl (by decide) (Lf := fun x25 => [(3, .int x25), (0, .ref this), (2, .int a2), (4, .int s53.2), (5, .int y14)]) (fun _ => rfl) (fun x25 => ?_)
            exact so_pick X [1, 2, 0, 3] rfl (hj129 x25 h24)
          · refine so_goto (tgt := 129) X (dkX12_season (112, .goto 17, 3) (pgm 62 rfl)) rfl ?_
            exact so_pick X [0, 1, 2, 3] rfl (hj129 s53.1 h17)
        refine so_pick (L' := [(0, .ref this), (2, .int a2), (3, .int s53.1), (4, .int s53.2), (5, .int x9), (6, .int x13)]) X [2, 3, 4, 5, 1, 0] rfl ?_
        refine so_loop (body := b_X12_season_76 this j102) (fun (s76 : Int32 × Int32) => [(0, .ref this), (2, .int a2), (3, .int s53.1), (4, .int s53.2), (5, .int s76.1), (6, .int s76.2)]) (fun rec76 hrec76 s76 hh76 => ?_) FU (x9, x13) h12
        unfold b_X12_season_76
        refine so_iload (i := 6) X 5 (dkX12_season (76, .iload 6, 2) (pgm 44 rfl)) rfl ?_
        refine so_if_le (tgt := 102) X (dkX12_season (78, .ifCond .le 24, 3) (pgm 45 rfl)) rfl (fun _ => ?_) (fun _ => ?_)
        · exact so_pick X [0, 1, 2, 3, 4] rfl (hj102 s76.1 hh76)
        · refine so_iload (i := 5) X 4 (dkX12_season (81, .iload 5, 2) (pgm 46 rfl)) rfl ?_
          refine so_iconst (v := (1 : Int32)) X (dkX12_season (83, .iconst 1, 1) (pgm 47 rfl)) ic_1 ?_
          refine so_aload_n (i := 0) X 0 (dkX12_season (84, .aload_n 0, 1) (pgm 48 rfl)) rfl rfl ?_
          refine so_aload_n (i := 0) X 0 (dkX12_season (85, .aload_n 0, 1) (pgm 49 rfl)) rfl rfl ?_
          refine so_callV (n := 0) (As := []) X (ct_X12_cells l this hh76 hk) hk (by decide) rfl lk_1668 lk_1670 lk_57 lk_134 lk_1671 (by decide +kernel) rfl rfl rfl (rm_ok (by omega) (by decide)) ⟨Nat.zero_le _, Nat.zero_le _⟩ (Nat.le_of_ble_eq_true rfl) (dkX12_season (86, .invokevirtual 249, 3) (pgm 50 rfl)) (fun r26 h27 => ?_) rfl
          refine so_callV (n := 1) (As := [.int r26]) X (ct_X12_draw l this r26 h27 hk) hk (by decide) rfl lk_2229 lk_2231 lk_115 lk_134 lk_2232 (by decide +kernel) rfl rfl rfl (rm_ok (by omega) (by decide)) ⟨Nat.zero_le _, Nat.zero_le _⟩ (Nat.le_of_ble_eq_true rfl) (dkX12_season (89, .invokevirtual 437, 3) (pgm 51 rfl)) (fun r28 h29 => ?_) rfl
          refine so_ishl X (dkX12_season (92, .ishl, 1) (pgm 52 rfl)) ?_
          refine so_ior X (dkX12_season (93, .ior, 1) (pgm 53 rfl)) ?_
          refine so_istore (i := 5) X (dkX12_season (94, .istore 5, 2) (pgm 54 rfl)) (by decide) (Lf := fun x30 => [(5, .int x30), (0, .ref this), (2, .int a2), (3, .int s53.1), (4, .int s53.2), (6, .int s76.2)]) (fun _ => rfl) (fun x30 => ?_)
          refine so_iinc (i := 6) X 5 (dkX12_season (96, .iinc 6 (-1), 3) (pgm 55 rfl)) rfl rfl (by decide) (Lf := fun x31 => [(6, .int x31), (5, .int x30), (0, .ref this), (2, .int a2), (3, .int s53.1), (4, .int s53.2)]) (fun _ => rfl) (fun x31 => ?_)
          refine so_goto (tgt := 76) X (dkX12_season (99, .goto (-23), 3) (pgm 56 rfl)) rfl ?_
          exact so_pick X [2, 3, 4, 5, 1, 0] rfl (hrec76 (x30, x31) h29)
    · refine so_iconst (v := (0 : Int32)) X (dkX12_season (41, .iconst 0, 1) (pgm 21 rfl)) ic_0 ?_
      exact so_iret X hr hlk (dkX12_season (42, .ireturn, 1) (pgm 22 rfl))
  refine so_if_ne (tgt := 17) X (dkX12_season (10, .ifCond .ne 7, 3) (pgm 6 rfl)) rfl (fun _ => ?_) (fun _ => ?_)
  · refine so_aload_n (i := 0) X 0 (dkX12_season (17, .aload_n 0, 1) (pgm 9 rfl)) rfl rfl ?_
    refine sf_getR X ff_12_0 lk_1702 hk (dkX12_season (18, .getfield 9, 3) (pgm 10 rfl)) ?_
    refine so_iconst (v := (1 : Int32)) X (dkX12_season (21, .iconst 1, 1) (pgm 11 rfl)) ic_1 ?_
    refine so_iald X (rk_12_0 this hk) (dkX12_season (22, .iaload, 1) (pgm 12 rfl)) (fun x32 => ?_)
    refine so_if_ne (tgt := 30) X (dkX12_season (23, .ifCond .ne 7, 3) (pgm 13 rfl)) rfl (fun _ => ?_) (fun _ => ?_)
    · refine so_iconst (v := (0 : Int32)) X (dkX12_season (30, .iconst 0, 1) (pgm 16 rfl)) ic_0 ?_
      exact so_pick X [0, 1, 2] rfl (hj31 (0 : Int32) h2)
    · refine so_iconst (v := (2 : Int32)) X (dkX12_season (26, .iconst 2, 1) (pgm 14 rfl)) ic_2 ?_
      refine so_goto (tgt := 31) X (dkX12_season (27, .goto 4, 3) (pgm 15 rfl)) rfl ?_
      exact so_pick X [0, 1, 2] rfl (hj31 (2 : Int32) h2)
  · refine so_iconst (v := (1 : Int32)) X (dkX12_season (13, .iconst 1, 1) (pgm 7 rfl)) ic_1 ?_
    refine so_goto (tgt := 31) X (dkX12_season (14, .goto 17, 3) (pgm 8 rfl)) rfl ?_
    exact so_pick X [0, 1, 2] rfl (hj31 (1 : Int32) h2)
def pgX12_grantsNow : List (Nat × Instr × Nat) := [(0, .lload_n 2, 1), (1, .aload_n 0, 1), (2, .getfield 83, 3), (5, .iload_n 1, 1), (6, .iaload, 1), (7, .i2l, 1), (8, .iload 4, 2), (10, .invokestatic 332, 3), (13, .lmul, 1), (14, .aload_n 0, 1), (15, .getfield 77, 3), (18, .bipush 7, 2), (20, .iload 4, 2), (22, .imul, 1), (23, .iload 5, 2), (25, .iadd, 1), (26, .iconst 1, 1), (27, .isub, 1), (28, .laload, 1), (29, .ladd, 1), (30, .lreturn, 1)]
theorem dkX12_grantsNow : ∀ q ∈ pgX12_grantsNow, decode cX12_grantsNow q.1 = .ok q.2 := by decide +kernel
def f_X12_grantsNow (this : Nat) (a1 : Int32) (a2 : Int64) (a3 : Int32) (a4 : Int32) (h0 : PH) : Option (Int64 × PH) :=
  ldI h0 (rt this 37) 4 a1 (fun (x1 : Int32) => cb (f_X12_power x1.toInt64 a3 h0) (fun (r2 : Int64) (h3 : PH) => ldL h3 (rt this 35) 49 ((((7 : Int32) * a3) + a4) - (1 : Int32)) (fun (x4 : Int64) => some (((a2 * r2) + x4), h3))))
set_option maxRecDepth 100000 in
set_option maxHeartbeats 4000000 in
theorem ct_X12_grantsNow (l : Launch) (this : Nat) (a1 : Int32) (a2 : Int64) (a3 : Int32) (a4 : Int32) (h0 : PH) (hk : (kd this).1 = 12) : CT mkL l yX12_grantsNow cX12_grantsNow 6 (some .long) (rmd 1) [.ref this, .int a1, .long a2, .int a3, .int a4] h0 (f_X12_grantsNow this a1 a2 a3 a4 h0) := by
  refine ct_of (by decide) (Nat.le_of_ble_eq_true rfl) ?_
  intro p e s m args below meth c D cA ad A X hr hlk
  have X : Cx p s m args c RX12 cX12_grantsNow 6 D cA ad A := X
  unfold f_X12_grantsNow
  refine so_pick (L' := [(0, .ref this), (1, .int a1), (2, .long a2), (4, .int a3), (5, .int a4)]) X [0, 1, 2, 3, 4] rfl ?_
  refine so_lload_n (i := 2) X 2 (dkX12_grantsNow (0, .lload_n 2, 1) (pgm 0 rfl)) rfl rfl ?_
  refine so_aload_n (i := 0) X 0 (dkX12_grantsNow (1, .aload_n 0, 1) (pgm 1 rfl)) rfl rfl ?_
  refine sf_getR X ff_12_37 lk_1739 hk (dkX12_grantsNow (2, .getfield 83, 3) (pgm 2 rfl)) ?_
  refine so_iload_n (i := 1) X 1 (dkX12_grantsNow (5, .iload_n 1, 1) (pgm 3 rfl)) rfl rfl ?_
  refine so_iald X (rk_12_37 this hk) (dkX12_grantsNow (6, .iaload, 1) (pgm 4 rfl)) (fun x1 => ?_)
  refine so_i2l X (dkX12_grantsNow (7, .i2l, 1) (pgm 5 rfl)) ?_
  refine so_iload (i := 4) X 3 (dkX12_grantsNow (8, .iload 4, 2) (pgm 6 rfl)) rfl ?_
  refine so_callS (n := 2) (As := [.long x1.toInt64, .int a3]) X (ct_X12_power l x1.toInt64 a3 h0 ) lk_2068 lk_2069 lk_134 lk_2070 (by decide +kernel) rfl rfl rfl (rm_ok (by omega) (by decide)) ⟨Nat.zero_le _, Nat.zero_le _⟩ (Nat.le_of_ble_eq_true rfl) (dkX12_grantsNow (10, .invokestatic 332, 3) (pgm 7 rfl)) (fun r2 h3 => ?_) rfl
  refine so_lmul X (dkX12_grantsNow (13, .lmul, 1) (pgm 8 rfl)) ?_
  refine so_aload_n (i := 0) X 0 (dkX12_grantsNow (14, .aload_n 0, 1) (pgm 9 rfl)) rfl rfl ?_
  refine sf_getR X ff_12_35 lk_1737 hk (dkX12_grantsNow (15, .getfield 77, 3) (pgm 10 rfl)) ?_
  refine so_bipush (v := (7 : Int32)) X (dkX12_grantsNow (18, .bipush 7, 2) (pgm 11 rfl)) bp_7 ?_
  refine so_iload (i := 4) X 3 (dkX12_grantsNow (20, .iload 4, 2) (pgm 12 rfl)) rfl ?_
  refine so_imul X (dkX12_grantsNow (22, .imul, 1) (pgm 13 rfl)) ?_
  refine so_iload (i := 5) X 4 (dkX12_grantsNow (23, .iload 5, 2) (pgm 14 rfl)) rfl ?_
  refine so_iadd X (dkX12_grantsNow (25, .iadd, 1) (pgm 15 rfl)) ?_
  refine so_iconst (v := (1 : Int32)) X (dkX12_grantsNow (26, .iconst 1, 1) (pgm 16 rfl)) ic_1 ?_
  refine so_isub X (dkX12_grantsNow (27, .isub, 1) (pgm 17 rfl)) ?_
  refine so_lald X (rk_12_35 this hk) (dkX12_grantsNow (28, .laload, 1) (pgm 18 rfl)) (fun x4 => ?_)
  refine so_ladd X (dkX12_grantsNow (29, .ladd, 1) (pgm 19 rfl)) ?_
  exact so_lret X hr hlk (dkX12_grantsNow (30, .lreturn, 1) (pgm 20 rfl))
def pgX12_laysWorth : List (Nat × Instr × Nat) := [(0, .iconst 0, 1), (1, .istore_n 2, 1), (2, .iload_n 2, 1), (3, .bipush 6, 2), (5, .if_icmp .gt 16, 3), (8, .aload_n 0, 1), (9, .getfield 77, 3), (12, .iload_n 2, 1), (13, .lconst 0, 1), (14, .lastore, 1), (15, .iinc 2 1, 3), (18, .goto (-16), 3), (21, .iconst 1, 1), (22, .istore_n 2, 1), (23, .iload_n 2, 1), (24, .bipush 6, 2), (26, .if_icmp .gt 114, 3), (29, .iconst 0, 1), (30, .istore_n 3, 1), (31, .iload_n 3, 1), (32, .bipush 6, 2), (34, .if_icmp .gt 100, 3), (37, .lconst 0, 1), (38, .lstore 4, 2), (40, .iconst 0, 1), (41, .istore 6, 2), (43, .iload 6, 2), (45, .aload_n 0, 1), (46, .getfield 83, 3), (49, .iload_n 1, 1), (50, .iaload, 1), (51, .if_icmp .ge 64, 3), (54, .aload_n 0, 1), (55, .getfield 77, 3), (58, .bipush 7, 2), (60, .iload_n 2, 1), (61, .iconst 1, 1), (62, .isub, 1), (63, .imul, 1), (64, .iload_n 3, 1), (65, .iadd, 1), (66, .laload, 1), (67, .lstore 7, 2), (69, .lload 4, 2), (71, .iload_n 3, 1), (72, .ifCond .ne 8, 3), (75, .lload 7, 2), (77, .goto 29, 3), (80, .lload 7, 2), (82, .aload_n 0, 1), (83, .iload_n 1, 1), (84, .aload_n 0, 1), (85, .getfield 86, 3), (88, .bipush 30, 2), (90, .iload_n 1, 1), (91, .imul, 1), (92, .iload 6, 2), (94, .iadd, 1), (95, .laload, 1), (96, .iload_n 2, 1), (97, .iconst 1, 1), (98, .isub, 1), (99, .iload_n 3, 1), (100, .invokevirtual 442, 3), (103, .invokestatic 262, 3), (106, .ladd, 1), (107, .lstore 4, 2), (109, .iinc 6 1, 3), (112, .goto (-69), 3), (115, .aload_n 0, 1), (116, .getfield 77, 3), (119, .bipush 7, 2), (121, .iload_n 2, 1), (122, .imul, 1), (123, .iload_n 3, 1), (124, .iadd, 1), (125, .lload 4, 2), (127, .lastore, 1), (128, .iinc 3 1, 3), (131, .goto (-100), 3), (134, .iinc 2 1, 3), (137, .goto (-114), 3), (140, .return_, 1)]
theorem dkX12_laysWorth : ∀ q ∈ pgX12_laysWorth, decode cX12_laysWorth q.1 = .ok q.2 := by decide +kernel
def b_X12_laysWorth_43 (this : Nat) (a1 : Int32) (s23 : Int32) (s31 : Int32) (j115 : Int64 → PH → Option (Unit × PH)) (rec43 : (Int64 × Int32) → PH → Option (Unit × PH)) (s43 : Int64 × Int32) (hh43 : PH) : Option (Unit × PH) :=
  ldI hh43 (rt this 37) 4 a1 (fun (x13 : Int32) => if x13 ≤ s43.2 then (j115 s43.1 hh43) else (ldL hh43 (rt this 35) 49 (((7 : Int32) * (s23 - (1 : Int32))) + s31) (fun (x14 : Int64) => lt x14 (fun (x15 : Int64) => lt (fun (t16 : Int64) (h17 : PH) => lt (s43.1 + t16) (fun (x18 : Int64) => lt (s43.2 + Int32.ofInt 1) (fun (x19 : Int32) => rec43 (x18, x19) h17))) (fun (j106 : Int64 → PH → Option (Unit × PH)) => if s31 = 0 then (j106 x15 hh43) else (ldL hh43 (rt this 38) 120 (((30 : Int32) * a1) + s43.2) (fun (x20 : Int64) => cb (f_X12_grantsNow this a1 x20 (s23 - (1 : Int32)) s31 hh43) (fun (r21 : Int64) (h22 : PH) => j106 (if r21 < x15 then x15 else r21) h22))))))))
def b_X12_laysWorth_31 (this : Nat) (a1 : Int32) (s23 : Int32) (j134 : PH → Option (Unit × PH)) (rec31 : (Int32) → PH → Option (Unit × PH)) (s31 : Int32) (hh31 : PH) : Option (Unit × PH) :=
  if (6 : Int32) < s31 then (j134 hh31) else (lt (0 : Int64) (fun (x7 : Int64) => lt (0 : Int32) (fun (x8 : Int32) => lt (fun (y9 : Int64) (h10 : PH) => stL h10 (rt this 35) 49 (((7 : Int32) * s23) + s31) y9 (fun (h11 : PH) => lt (s31 + Int32.ofInt 1) (fun (x12 : Int32) => rec31 x12 h11))) (fun (j115 : Int64 → PH → Option (Unit × PH)) => lp (b_X12_laysWorth_43 this a1 s23 s31 j115) FU (x7, x8) hh31))))
def b_X12_laysWorth_23 (this : Nat) (a1 : Int32) (rec23 : (Int32) → PH → Option (Unit × PH)) (s23 : Int32) (hh23 : PH) : Option (Unit × PH) :=
  if (6 : Int32) < s23 then (some ((), hh23)) else (lt (0 : Int32) (fun (x4 : Int32) => lt (fun (h5 : PH) => lt (s23 + Int32.ofInt 1) (fun (x6 : Int32) => rec23 x6 h5)) (fun (j134 : PH → Option (Unit × PH)) => lp (b_X12_laysWorth_31 this a1 s23 j134) FU x4 hh23)))
def b_X12_laysWorth_2 (this : Nat) (j21 : PH → Option (Unit × PH)) (rec2 : (Int32) → PH → Option (Unit × PH)) (s2 : Int32) (hh2 : PH) : Option (Unit × PH) :=
  if (6 : Int32) < s2 then (j21 hh2) else (stL hh2 (rt this 35) 49 s2 (0 : Int64) (fun (h23 : PH) => lt (s2 + Int32.ofInt 1) (fun (x24 : Int32) => rec2 x24 h23)))
def f_X12_laysWorth (this : Nat) (a1 : Int32) (h0 : PH) : Option (Unit × PH) :=
  lt (0 : Int32) (fun (x1 : Int32) => lt (fun (h2 : PH) => lt (1 : Int32) (fun (x3 : Int32) => lp (b_X12_laysWorth_23 this a1) FU x3 h2)) (fun (j21 : PH → Option (Unit × PH)) => lp (b_X12_laysWorth_2 this j21) FU x1 h0))
set_option maxRecDepth 100000 in
set_option maxHeartbeats 4000000 in
theorem ct_X12_laysWorth (l : Launch) (this : Nat) (a1 : Int32) (h0 : PH) (hk : (kd this).1 = 12) : CT mkV l yX12_laysWorth cX12_laysWorth 9 none (rmd 2) [.ref this, .int a1] h0 (f_X12_laysWorth this a1 h0) := by
  refine ct_of (by decide) (Nat.le_of_ble_eq_true rfl) ?_
  intro p e s m args below meth c D cA ad A X hr hlk
  have X : Cx p s m args c RX12 cX12_laysWorth 9 D cA ad A := X
  unfold f_X12_laysWorth
  refine so_pick (L' := [(0, .ref this), (1, .int a1)]) X [0, 1] rfl ?_
  refine so_iconst (v := (0 : Int32)) X (dkX12_laysWorth (0, .iconst 0, 1) (pgm 0 rfl)) ic_0 ?_
  refine so_istore_n (i := 2) X (dkX12_laysWorth (1, .istore_n 2, 1) (pgm 1 rfl)) rfl (by decide) (Lf := fun x1 => [(2, .int x1), (0, .ref this), (1, .int a1)]) (fun _ => rfl) (fun x1 => ?_)
  refine so_join (jf := fun (h2 : PH) => lt (1 : Int32) (fun (x3 : Int32) => lp (b_X12_laysWorth_23 this a1) FU x3 h2)) (fun (j : PH → Option (Unit × PH)) => ∀  (h2 : PH), SWo (QM mkV below args s D cA ad A) p l e (rmd 2) s m args below meth c 0 0 9 D cA ad A 21 [(0, .ref this), (1, .int a1)] [] h2 (j h2)) ?_ (fun j21 hj21 => ?_)
  · intro h2
    refine so_iconst (v := (1 : Int32)) X (dkX12_laysWorth (21, .iconst 1, 1) (pgm 12 rfl)) ic_1 ?_
    refine so_istore_n (i := 2) X (dkX12_laysWorth (22, .istore_n 2, 1) (pgm 13 rfl)) rfl (by decide) (Lf := fun x3 => [(2, .int x3), (0, .ref this), (1, .int a1)]) (fun _ => rfl) (fun x3 => ?_)
    refine so_pick (L' := [(0, .ref this), (1, .int a1), (2, .int x3)]) X [1, 2, 0] rfl ?_
    refine so_loop (body := b_X12_laysWorth_23 this a1) (fun (s23 : Int32) => [(0, .ref this), (1, .int a1), (2, .int s23)]) (fun rec23 hrec23 s23 hh23 => ?_) FU x3 h2
    unfold b_X12_laysWorth_23
    refine so_iload_n (i := 2) X 2 (dkX12_laysWorth (23, .iload_n 2, 1) (pgm 14 rfl)) rfl rfl ?_
    refine so_bipush (v := (6 : Int32)) X (dkX12_laysWorth (24, .bipush 6, 2) (pgm 15 rfl)) bp_6 ?_
    refine so_icmp_gt (tgt := 140) X (dkX12_laysWorth (26, .if_icmp .gt 114, 3) (pgm 16 rfl)) rfl (fun _ => ?_) (fun _ => ?_)
    · exact so_vret X hr hlk (dkX12_laysWorth (140, .return_, 1) (pgm 82 rfl))
    · refine so_iconst (v := (0 : Int32)) X (dkX12_laysWorth (29, .iconst 0, 1) (pgm 17 rfl)) ic_0 ?_
      refine so_istore_n (i := 3) X (dkX12_laysWorth (30, .istore_n 3, 1) (pgm 18 rfl)) rfl (by decide) (Lf := fun x4 => [(3, .int x4), (0, .ref this), (1, .int a1), (2, .int s23)]) (fun _ => rfl) (fun x4 => ?_)
      refine so_join (jf := fun (h5 : PH) => lt (s23 + Int32.ofInt 1) (fun (x6 : Int32) => rec23 x6 h5)) (fun (j : PH → Option (Unit × PH)) => ∀  (h5 : PH), SWo (QM mkV below args s D cA ad A) p l e (rmd 2) s m args below meth c 0 0 9 D cA ad A 134 [(0, .ref this), (1, .int a1), (2, .int s23)] [] h5 (j h5)) ?_ (fun j134 hj134 => ?_)
      · intro h5
        refine so_iinc (i := 2) X 2 (dkX12_laysWorth (134, .iinc 2 1, 3) (pgm 80 rfl)) rfl rfl (by decide) (Lf := fun x6 => [(2, .int x6), (0, .ref this), (1, .int a1)]) (fun _ => rfl) (fun x6 => ?_)
        refine so_goto (tgt := 23) X (dkX12_laysWorth (137, .goto (-114), 3) (pgm 81 rfl)) rfl ?_
        exact so_pick X [1, 2, 0] rfl (hrec23 x6 h5)
      refine so_pick (L' := [(0, .ref this), (1, .int a1), (2, .int s23), (3, .int x4)]) X [1, 2, 3, 0] rfl ?_
      refine so_loop (body := b_X12_laysWorth_31 this a1 s23 j134) (fun (s31 : Int32) => [(0, .ref this), (1, .int a1), (2, .int s23), (3, .int s31)]) (fun rec31 hrec31 s31 hh31 => ?_) FU x4 hh23
      unfold b_X12_laysWorth_31
      refine so_iload_n (i := 3) X 3 (dkX12_laysWorth (31, .iload_n 3, 1) (pgm 19 rfl)) rfl rfl ?_
      refine so_bipush (v := (6 : Int32)) X (dkX12_laysWorth (32, .bipush 6, 2) (pgm 20 rfl)) bp_6 ?_
      refine so_icmp_gt (tgt := 134) X (dkX12_laysWorth (34, .if_icmp .gt 100, 3) (pgm 21 rfl)) rfl (fun _ => ?_) (fun _ => ?_)
      · exact so_pick X [0, 1, 2] rfl (hj134 hh31)
      · refine so_lconst (v := (0 : Int64)) X (dkX12_laysWorth (37, .lconst 0, 1) (pgm 22 rfl)) lc_0 ?_
        refine so_lstore (i := 4) X (dkX12_laysWorth (38, .lstore 4, 2) (pgm 23 rfl)) (by decide) (Lf := fun x7 => [(4, .long x7), (0, .ref this), (1, .int a1), (2, .int s23), (3, .int s31)]) (fun _ => rfl) (fun x7 => ?_)
        refine so_iconst (v := (0 : Int32)) X (dkX12_laysWorth (40, .iconst 0, 1) (pgm 24 rfl)) ic_0 ?_
        refine so_istore (i := 6) X (dkX12_laysWorth (41, .istore 6, 2) (pgm 25 rfl)) (by decide) (Lf := fun x8 => [(6, .int x8), (4, .long x7), (0, .ref this), (1, .int a1), (2, .int s23), (3, .int s31)]) (fun _ => rfl) (fun x8 => ?_)
        refine so_join (jf := fun (y9 : Int64) (h10 : PH) => stL h10 (rt this 35) 49 (((7 : Int32) * s23) + s31) y9 (fun (h11 : PH) => lt (s31 + Int32.ofInt 1) (fun (x12 : Int32) => rec31 x12 h11))) (fun (j : Int64 → PH → Option (Unit × PH)) => ∀ (y9 : Int64) (h10 : PH), SWo (QM mkV below args s D cA ad A) p l e (rmd 2) s m args below meth c 0 0 9 D cA ad A 115 [(0, .ref this), (1, .int a1), (2, .int s23), (3, .int s31), (4, .long y9)] [] h10 (j y9 h10)) ?_ (fun j115 hj115 => ?_)
        · intro y9 h10
          refine so_aload_n (i := 0) X 0 (dkX12_laysWorth (115, .aload_n 0, 1) (pgm 69 rfl)) rfl rfl ?_
          refine sf_getR X ff_12_35 lk_1737 hk (dkX12_laysWorth (116, .getfield 77, 3) (pgm 70 rfl)) ?_
          refine so_bipush (v := (7 : Int32)) X (dkX12_laysWorth (119, .bipush 7, 2) (pgm 71 rfl)) bp_7 ?_
          refine so_iload_n (i := 2) X 2 (dkX12_laysWorth (121, .iload_n 2, 1) (pgm 72 rfl)) rfl rfl ?_
          refine so_imul X (dkX12_laysWorth (122, .imul, 1) (pgm 73 rfl)) ?_
          refine so_iload_n (i := 3) X 3 (dkX12_laysWorth (123, .iload_n 3, 1) (pgm 74 rfl)) rfl rfl ?_
          refine so_iadd X (dkX12_laysWorth (124, .iadd, 1) (pgm 75 rfl)) ?_
          refine so_lload (i := 4) X 4 (dkX12_laysWorth (125, .lload 4, 2) (pgm 76 rfl)) rfl ?_
          refine so_last X (rk_12_35 this hk) (dkX12_laysWorth (127, .lastore, 1) (pgm 77 rfl)) (fun h11 => ?_)
          refine so_iinc (i := 3) X 3 (dkX12_laysWorth (128, .iinc 3 1, 3) (pgm 78 rfl)) rfl rfl (by decide) (Lf := fun x12 => [(3, .int x12), (0, .ref this), (1, .int a1), (2, .int s23), (4, .long y9)]) (fun _ => rfl) (fun x12 => ?_)
          refine so_goto (tgt := 31) X (dkX12_laysWorth (131, .goto (-100), 3) (pgm 79 rfl)) rfl ?_
          exact so_pick X [1, 2, 3, 0] rfl (hrec31 x12 h11)
        refine so_pick (L' := [(0, .ref this), (1, .int a1), (2, .int s23), (3, .int s31), (4, .long x7), (6, .int x8)]) X [2, 3, 4, 5, 1, 0] rfl ?_
        refine so_loop (body := b_X12_laysWorth_43 this a1 s23 s31 j115) (fun (s43 : Int64 × Int32) => [(0, .ref this), (1, .int a1), (2, .int s23), (3, .int s31), (4, .long s43.1), (6, .int s43.2)]) (fun rec43 hrec43 s43 hh43 => ?_) FU (x7, x8) hh31
        unfold b_X12_laysWorth_43
        refine so_iload (i := 6) X 5 (dkX12_laysWorth (43, .iload 6, 2) (pgm 26 rfl)) rfl ?_
        refine so_aload_n (i := 0) X 0 (dkX12_laysWorth (45, .aload_n 0, 1) (pgm 27 rfl)) rfl rfl ?_
        refine sf_getR X ff_12_37 lk_1739 hk (dkX12_laysWorth (46, .getfield 83, 3) (pgm 28 rfl)) ?_
        refine so_iload_n (i := 1) X 1 (dkX12_laysWorth (49, .iload_n 1, 1) (pgm 29 rfl)) rfl rfl ?_
        refine so_iald X (rk_12_37 this hk) (dkX12_laysWorth (50, .iaload, 1) (pgm 30 rfl)) (fun x13 => ?_)
        refine so_icmp_ge (tgt := 115) X (dkX12_laysWorth (51, .if_icmp .ge 64, 3) (pgm 31 rfl)) rfl (fun _ => ?_) (fun _ => ?_)
        · exact so_pick X [0, 1, 2, 3, 4] rfl (hj115 s43.1 hh43)
        · refine so_aload_n (i := 0) X 0 (dkX12_laysWorth (54, .aload_n 0, 1) (pgm 32 rfl)) rfl rfl ?_
          refine sf_getR X ff_12_35 lk_1737 hk (dkX12_laysWorth (55, .getfield 77, 3) (pgm 33 rfl)) ?_
          refine so_bipush (v := (7 : Int32)) X (dkX12_laysWorth (58, .bipush 7, 2) (pgm 34 rfl)) bp_7 ?_
          refine so_iload_n (i := 2) X 2 (dkX12_laysWorth (60, .iload_n 2, 1) (pgm 35 rfl)) rfl rfl ?_
          refine so_iconst (v := (1 : Int32)) X (dkX12_laysWorth (61, .iconst 1, 1) (pgm 36 rfl)) ic_1 ?_
          refine so_isub X (dkX12_laysWorth (62, .isub, 1) (pgm 37 rfl)) ?_
          refine so_imul X (dkX12_laysWorth (63, .imul, 1) (pgm 38 rfl)) ?_
          refine so_iload_n (i := 3) X 3 (dkX12_laysWorth (64, .iload_n 3, 1) (pgm 39 rfl)) rfl rfl ?_
          refine so_iadd X (dkX12_laysWorth (65, .iadd, 1) (pgm 40 rfl)) ?_
          refine so_lald X (rk_12_35 this hk) (dkX12_laysWorth (66, .laload, 1) (pgm 41 rfl)) (fun x14 => ?_)
          refine so_lstore (i := 7) X (dkX12_laysWorth (67, .lstore 7, 2) (pgm 42 rfl)) (by decide) (Lf := fun x15 => [(7, .long x15), (0, .ref this), (1, .int a1), (2, .int s23), (3, .int s31), (4, .long s43.1), (6, .int s43.2)]) (fun _ => rfl) (fun x15 => ?_)
          refine so_lload (i := 4) X 5 (dkX12_laysWorth (69, .lload 4, 2) (pgm 43 rfl)) rfl ?_
          refine so_iload_n (i := 3) X 4 (dkX12_laysWorth (71, .iload_n 3, 1) (pgm 44 rfl)) rfl rfl ?_
          refine so_join (jf := fun (t16 : Int64) (h17 : PH) => lt (s43.1 + t16) (fun (x18 : Int64) => lt (s43.2 + Int32.ofInt 1) (fun (x19 : Int32) => rec43 (x18, x19) h17))) (fun (j : Int64 → PH → Option (Unit × PH)) => ∀ (t16 : Int64) (h17 : PH), SWo (QM mkV below args s D cA ad A) p l e (rmd 2) s m args below meth c 0 0 9 D cA ad A 106 [(0, .ref this), (1, .int a1), (2, .int s23), (3, .int s31), (6, .int s43.2)] [.long t16, .long s43.1] h17 (j t16 h17)) ?_ (fun j106 hj106 => ?_)
          · intro t16 h17
            refine so_ladd X (dkX12_laysWorth (106, .ladd, 1) (pgm 65 rfl)) ?_
            refine so_lstore (i := 4) X (dkX12_laysWorth (107, .lstore 4, 2) (pgm 66 rfl)) (by decide) (Lf := fun x18 => [(4, .long x18), (0, .ref this), (1, .int a1), (2, .int s23), (3, .int s31), (6, .int s43.2)]) (fun _ => rfl) (fun x18 => ?_)
            refine so_iinc (i := 6) X 5 (dkX12_laysWorth (109, .iinc 6 1, 3) (pgm 67 rfl)) rfl rfl (by decide) (Lf := fun x19 => [(6, .int x19), (4, .long x18), (0, .ref this), (1, .int a1), (2, .int s23), (3, .int s31)]) (fun _ => rfl) (fun x19 => ?_)
            refine so_goto (tgt := 43) X (dkX12_laysWorth (112, .goto (-69), 3) (pgm 68 rfl)) rfl ?_
            exact so_pick X [2, 3, 4, 5, 1, 0] rfl (hrec43 (x18, x19) h17)
          refine so_if_ne (tgt := 80) X (dkX12_laysWorth (72, .ifCond .ne 8, 3) (pgm 45 rfl)) rfl (fun _ => ?_) (fun _ => ?_)
          · refine so_lload (i := 7) X 0 (dkX12_laysWorth (80, .lload 7, 2) (pgm 48 rfl)) rfl ?_
            refine so_aload_n (i := 0) X 1 (dkX12_laysWorth (82, .aload_n 0, 1) (pgm 49 rfl)) rfl rfl ?_
            refine so_iload_n (i := 1) X 2 (dkX12_laysWorth (83, .iload_n 1, 1) (pgm 50 rfl)) rfl rfl ?_
            refine so_aload_n (i := 0) X 1 (dkX12_laysWorth (84, .aload_n 0, 1) (pgm 51 rfl)) rfl rfl ?_
            refine sf_getR X ff_12_38 lk_1740 hk (dkX12_laysWorth (85, .getfield 86, 3) (pgm 52 rfl)) ?_
            refine so_bipush (v := (30 : Int32)) X (dkX12_laysWorth (88, .bipush 30, 2) (pgm 53 rfl)) bp_30 ?_
            refine so_iload_n (i := 1) X 2 (dkX12_laysWorth (90, .iload_n 1, 1) (pgm 54 rfl)) rfl rfl ?_
            refine so_imul X (dkX12_laysWorth (91, .imul, 1) (pgm 55 rfl)) ?_
            refine so_iload (i := 6) X 6 (dkX12_laysWorth (92, .iload 6, 2) (pgm 56 rfl)) rfl ?_
            refine so_iadd X (dkX12_laysWorth (94, .iadd, 1) (pgm 57 rfl)) ?_
            refine so_lald X (rk_12_38 this hk) (dkX12_laysWorth (95, .laload, 1) (pgm 58 rfl)) (fun x20 => ?_)
            refine so_iload_n (i := 2) X 3 (dkX12_laysWorth (96, .iload_n 2, 1) (pgm 59 rfl)) rfl rfl ?_
            refine so_iconst (v := (1 : Int32)) X (dkX12_laysWorth (97, .iconst 1, 1) (pgm 60 rfl)) ic_1 ?_
            refine so_isub X (dkX12_laysWorth (98, .isub, 1) (pgm 61 rfl)) ?_
            refine so_iload_n (i := 3) X 4 (dkX12_laysWorth (99, .iload_n 3, 1) (pgm 62 rfl)) rfl rfl ?_
            refine so_callV (n := 4) (As := [.int a1, .long x20, .int (s23 - (1 : Int32)), .int s31]) X (ct_X12_grantsNow l this a1 x20 (s23 - (1 : Int32)) s31 hh43 hk) hk (by decide) rfl lk_2247 lk_2249 lk_118 lk_134 lk_2250 (by decide +kernel) rfl rfl rfl (rm_ok (by omega) (by decide)) ⟨Nat.zero_le _, Nat.zero_le _⟩ (Nat.le_of_ble_eq_true rfl) (dkX12_laysWorth (100, .invokevirtual 442, 3) (pgm 63 rfl)) (fun r21 h22 => ?_) rfl
            refine so_mmaxl X lk_1701 lk_1561 lk_135 lk_1562 (Nat.le_of_ble_eq_true rfl) (Nat.le_of_ble_eq_true rfl) ⟨Nat.zero_le _, Nat.zero_le _⟩ (dkX12_laysWorth (103, .invokestatic 262, 3) (pgm 64 rfl)) ?_
            exact so_pick X [1, 2, 3, 4, 6] rfl (hj106 (if r21 < x15 then x15 else r21) h22)
          · refine so_lload (i := 7) X 0 (dkX12_laysWorth (75, .lload 7, 2) (pgm 46 rfl)) rfl ?_
            refine so_goto (tgt := 106) X (dkX12_laysWorth (77, .goto 29, 3) (pgm 47 rfl)) rfl ?_
            exact so_pick X [1, 2, 3, 4, 6] rfl (hj106 x15 hh43)
  refine so_pick (L' := [(0, .ref this), (1, .int a1), (2, .int x1)]) X [1, 2, 0] rfl ?_
  refine so_loop (body := b_X12_laysWorth_2 this j21) (fun (s2 : Int32) => [(0, .ref this), (1, .int a1), (2, .int s2)]) (fun rec2 hrec2 s2 hh2 => ?_) FU x1 h0
  unfold b_X12_laysWorth_2
  refine so_iload_n (i := 2) X 2 (dkX12_laysWorth (2, .iload_n 2, 1) (pgm 2 rfl)) rfl rfl ?_
  refine so_bipush (v := (6 : Int32)) X (dkX12_laysWorth (3, .bipush 6, 2) (pgm 3 rfl)) bp_6 ?_
  refine so_icmp_gt (tgt := 21) X (dkX12_laysWorth (5, .if_icmp .gt 16, 3) (pgm 4 rfl)) rfl (fun _ => ?_) (fun _ => ?_)
  · exact so_pick X [0, 1] rfl (hj21 hh2)
  · refine so_aload_n (i := 0) X 0 (dkX12_laysWorth (8, .aload_n 0, 1) (pgm 5 rfl)) rfl rfl ?_
    refine sf_getR X ff_12_35 lk_1737 hk (dkX12_laysWorth (9, .getfield 77, 3) (pgm 6 rfl)) ?_
    refine so_iload_n (i := 2) X 2 (dkX12_laysWorth (12, .iload_n 2, 1) (pgm 7 rfl)) rfl rfl ?_
    refine so_lconst (v := (0 : Int64)) X (dkX12_laysWorth (13, .lconst 0, 1) (pgm 8 rfl)) lc_0 ?_
    refine so_last X (rk_12_35 this hk) (dkX12_laysWorth (14, .lastore, 1) (pgm 9 rfl)) (fun h23 => ?_)
    refine so_iinc (i := 2) X 2 (dkX12_laysWorth (15, .iinc 2 1, 3) (pgm 10 rfl)) rfl rfl (by decide) (Lf := fun x24 => [(2, .int x24), (0, .ref this), (1, .int a1)]) (fun _ => rfl) (fun x24 => ?_)
    refine so_goto (tgt := 2) X (dkX12_laysWorth (18, .goto (-16), 3) (pgm 11 rfl)) rfl ?_
    exact so_pick X [1, 2, 0] rfl (hrec2 x24 h23)
def pgX12_isTray : List (Nat × Instr × Nat) := [(0, .iload_n 0, 1), (1, .i2l, 1), (2, .lconst 0, 1), (3, .ldc2_w 349, 3), (6, .invokestatic 156, 3), (9, .ireturn, 1)]
theorem dkX12_isTray : ∀ q ∈ pgX12_isTray, decode cX12_isTray q.1 = .ok q.2 := by decide +kernel
def f_X12_isTray (a1 : Int32) (h0 : PH) : Option (Int32 × PH) :=
  cb (f_X12_within a1.toInt64 (0 : Int64) (3 : Int64) h0) (fun (r1 : Int32) (h2 : PH) => zr r1 h2)
set_option maxRecDepth 100000 in
set_option maxHeartbeats 4000000 in
theorem ct_X12_isTray (l : Launch) (a1 : Int32) (h0 : PH)  : CT mkI l yX12_isTray cX12_isTray 1 (some .boolean) (rmd 1) [.int a1] h0 (f_X12_isTray a1 h0) := by
  refine ct_of (by decide) (Nat.le_of_ble_eq_true rfl) ?_
  intro p e s m args below meth c D cA ad A X hr hlk
  have X : Cx p s m args c RX12 cX12_isTray 1 D cA ad A := X
  unfold f_X12_isTray
  refine so_pick (L' := [(0, .int a1)]) X [0] rfl ?_
  refine so_iload_n (i := 0) X 0 (dkX12_isTray (0, .iload_n 0, 1) (pgm 0 rfl)) rfl rfl ?_
  refine so_i2l X (dkX12_isTray (1, .i2l, 1) (pgm 1 rfl)) ?_
  refine so_lconst (v := (0 : Int64)) X (dkX12_isTray (2, .lconst 0, 1) (pgm 2 rfl)) lc_0 ?_
  refine so_ldc2 X lk_2082 (dkX12_isTray (3, .ldc2_w 349, 3) (pgm 3 rfl)) ?_
  refine so_callS (n := 3) (As := [.long a1.toInt64, .long (0 : Int64), .long (3 : Int64)]) X (ct_X12_within l a1.toInt64 (0 : Int64) (3 : Int64) h0 ) lk_1832 lk_1833 lk_134 lk_1834 (by decide +kernel) rfl rfl rfl (rm_ok (by omega) (by decide)) ⟨Nat.zero_le _, Nat.zero_le _⟩ (Nat.le_of_ble_eq_true rfl) (dkX12_isTray (6, .invokestatic 156, 3) (pgm 4 rfl)) (fun r1 h2 => ?_) rfl
  exact so_zret X hr hlk (dkX12_isTray (9, .ireturn, 1) (pgm 5 rfl))
def pgX12_tray : List (Nat × Instr × Nat) := [(0, .aload_n 0, 1), (1, .iload_n 1, 1), (2, .invokestatic 369, 3), (5, .ifCond .ne 7, 3), (8, .iconst 1, 1), (9, .goto 32, 3), (12, .iload_n 2, 1), (13, .i2l, 1), (14, .lconst 0, 1), (15, .ldc2_w 349, 3), (18, .invokestatic 156, 3), (21, .ifCond .eq 15, 3), (24, .iload_n 3, 1), (25, .i2l, 1), (26, .lconst 0, 1), (27, .ldc2_w 435, 3), (30, .invokestatic 156, 3), (33, .ifCond .ne 7, 3), (36, .iconst 2, 1), (37, .goto 4, 3), (40, .iconst 0, 1), (41, .putfield 92, 3), (44, .aload_n 0, 1), (45, .getfield 92, 3), (48, .ifCond .le 4, 3), (51, .return_, 1), (52, .aload_n 0, 1), (53, .getfield 80, 3), (56, .iload_n 1, 1), (57, .iload_n 2, 1), (58, .iastore, 1), (59, .aload_n 0, 1), (60, .getfield 83, 3), (63, .iload_n 1, 1), (64, .iload_n 3, 1), (65, .iastore, 1), (66, .iconst 0, 1), (67, .istore 4, 2), (69, .iload 4, 2), (71, .bipush 30, 2), (73, .if_icmp .ge 22, 3), (76, .aload_n 0, 1), (77, .getfield 86, 3), (80, .bipush 30, 2), (82, .iload_n 1, 1), (83, .imul, 1), (84, .iload 4, 2), (86, .iadd, 1), (87, .lconst 0, 1), (88, .lastore, 1), (89, .iinc 4 1, 3), (92, .goto (-23), 3), (95, .return_, 1)]
theorem dkX12_tray : ∀ q ∈ pgX12_tray, decode cX12_tray q.1 = .ok q.2 := by decide +kernel
def b_X12_tray_69 (this : Nat) (a1 : Int32) (rec69 : (Int32) → PH → Option (Unit × PH)) (s69 : Int32) (hh69 : PH) : Option (Unit × PH) :=
  if (30 : Int32) ≤ s69 then (some ((), hh69)) else (stL hh69 (rt this 38) 120 (((30 : Int32) * a1) + s69) (0 : Int64) (fun (h9 : PH) => lt (s69 + Int32.ofInt 1) (fun (x10 : Int32) => rec69 x10 h9)))
def f_X12_tray (this : Nat) (a1 : Int32) (a2 : Int32) (a3 : Int32) (h0 : PH) : Option (Unit × PH) :=
  cb (f_X12_isTray a1 h0) (fun (r1 : Int32) (h2 : PH) => lt (fun (t3 : Int32) (h4 : PH) => lt (pI h4 this 5 t3) (fun (h5 : PH) => if (h5.1 this 5) ≤ 0 then (stI h5 (rt this 36) 4 a1 a2 (fun (h6 : PH) => stI h6 (rt this 37) 4 a1 a3 (fun (h7 : PH) => lt (0 : Int32) (fun (x8 : Int32) => lp (b_X12_tray_69 this a1) FU x8 h7)))) else (some ((), h5)))) (fun (j41 : Int32 → PH → Option (Unit × PH)) => if r1 = 0 then (j41 (1 : Int32) h2) else (cb (f_X12_within a2.toInt64 (0 : Int64) (3 : Int64) h2) (fun (r11 : Int32) (h12 : PH) => lt (fun (h13 : PH) => j41 (2 : Int32) h13) (fun (j36 : PH → Option (Unit × PH)) => if r11 = 0 then (j36 h12) else (cb (f_X12_within a3.toInt64 (0 : Int64) (30 : Int64) h12) (fun (r14 : Int32) (h15 : PH) => if r14 = 0 then (j36 h15) else (j41 (0 : Int32) h15))))))))
set_option maxRecDepth 100000 in
set_option maxHeartbeats 4000000 in
theorem ct_X12_tray (l : Launch) (this : Nat) (a1 : Int32) (a2 : Int32) (a3 : Int32) (h0 : PH) (hk : (kd this).1 = 12) : CT mkV l yX12_tray cX12_tray 5 none (rmd 2) [.ref this, .int a1, .int a2, .int a3] h0 (f_X12_tray this a1 a2 a3 h0) := by
  refine ct_of (by decide) (Nat.le_of_ble_eq_true rfl) ?_
  intro p e s m args below meth c D cA ad A X hr hlk
  have X : Cx p s m args c RX12 cX12_tray 5 D cA ad A := X
  unfold f_X12_tray
  refine so_pick (L' := [(0, .ref this), (1, .int a1), (2, .int a2), (3, .int a3)]) X [0, 1, 2, 3] rfl ?_
  refine so_aload_n (i := 0) X 0 (dkX12_tray (0, .aload_n 0, 1) (pgm 0 rfl)) rfl rfl ?_
  refine so_iload_n (i := 1) X 1 (dkX12_tray (1, .iload_n 1, 1) (pgm 1 rfl)) rfl rfl ?_
  refine so_callS (n := 1) (As := [.int a1]) X (ct_X12_isTray l a1 h0 ) lk_2134 lk_2135 lk_134 lk_2136 (by decide +kernel) rfl rfl rfl (rm_ok (by omega) (by decide)) ⟨Nat.zero_le _, Nat.zero_le _⟩ (Nat.le_of_ble_eq_true rfl) (dkX12_tray (2, .invokestatic 369, 3) (pgm 2 rfl)) (fun r1 h2 => ?_) rfl
  refine so_join (jf := fun (t3 : Int32) (h4 : PH) => lt (pI h4 this 5 t3) (fun (h5 : PH) => if (h5.1 this 5) ≤ 0 then (stI h5 (rt this 36) 4 a1 a2 (fun (h6 : PH) => stI h6 (rt this 37) 4 a1 a3 (fun (h7 : PH) => lt (0 : Int32) (fun (x8 : Int32) => lp (b_X12_tray_69 this a1) FU x8 h7)))) else (some ((), h5)))) (fun (j : Int32 → PH → Option (Unit × PH)) => ∀ (t3 : Int32) (h4 : PH), SWo (QM mkV below args s D cA ad A) p l e (rmd 2) s m args below meth c 0 0 5 D cA ad A 41 [(0, .ref this), (1, .int a1), (2, .int a2), (3, .int a3)] [.int t3, .ref this] h4 (j t3 h4)) ?_ (fun j41 hj41 => ?_)
  · intro t3 h4
    refine sf_putI X ff_12_5 ft_12 rfl lk_1707 hk rfl rfl (dkX12_tray (41, .putfield 92, 3) (pgm 21 rfl)) (fun h5 => ?_)
    refine so_aload_n (i := 0) X 0 (dkX12_tray (44, .aload_n 0, 1) (pgm 22 rfl)) rfl rfl ?_
    refine sf_getI X ff_12_5 lk_1707 hk (dkX12_tray (45, .getfield 92, 3) (pgm 23 rfl)) ?_
    refine so_if_le (tgt := 52) X (dkX12_tray (48, .ifCond .le 4, 3) (pgm 24 rfl)) rfl (fun _ => ?_) (fun _ => ?_)
    · refine so_aload_n (i := 0) X 0 (dkX12_tray (52, .aload_n 0, 1) (pgm 26 rfl)) rfl rfl ?_
      refine sf_getR X ff_12_36 lk_1738 hk (dkX12_tray (53, .getfield 80, 3) (pgm 27 rfl)) ?_
      refine so_iload_n (i := 1) X 1 (dkX12_tray (56, .iload_n 1, 1) (pgm 28 rfl)) rfl rfl ?_
      refine so_iload_n (i := 2) X 2 (dkX12_tray (57, .iload_n 2, 1) (pgm 29 rfl)) rfl rfl ?_
      refine so_iast X (rk_12_36 this hk) (dkX12_tray (58, .iastore, 1) (pgm 30 rfl)) (fun h6 => ?_)
      refine so_aload_n (i := 0) X 0 (dkX12_tray (59, .aload_n 0, 1) (pgm 31 rfl)) rfl rfl ?_
      refine sf_getR X ff_12_37 lk_1739 hk (dkX12_tray (60, .getfield 83, 3) (pgm 32 rfl)) ?_
      refine so_iload_n (i := 1) X 1 (dkX12_tray (63, .iload_n 1, 1) (pgm 33 rfl)) rfl rfl ?_
      refine so_iload_n (i := 3) X 3 (dkX12_tray (64, .iload_n 3, 1) (pgm 34 rfl)) rfl rfl ?_
      refine so_iast X (rk_12_37 this hk) (dkX12_tray (65, .iastore, 1) (pgm 35 rfl)) (fun h7 => ?_)
      refine so_iconst (v := (0 : Int32)) X (dkX12_tray (66, .iconst 0, 1) (pgm 36 rfl)) ic_0 ?_
      refine so_istore (i := 4) X (dkX12_tray (67, .istore 4, 2) (pgm 37 rfl)) (by decide) (Lf := fun x8 => [(4, .int x8), (0, .ref this), (1, .int a1), (2, .int a2), (3, .int a3)]) (fun _ => rfl) (fun x8 => ?_)
      refine so_pick (L' := [(0, .ref this), (1, .int a1), (4, .int x8)]) X [1, 2, 0] rfl ?_
      refine so_loop (body := b_X12_tray_69 this a1) (fun (s69 : Int32) => [(0, .ref this), (1, .int a1), (4, .int s69)]) (fun rec69 hrec69 s69 hh69 => ?_) FU x8 h7
      unfold b_X12_tray_69
      refine so_iload (i := 4) X 2 (dkX12_tray (69, .iload 4, 2) (pgm 38 rfl)) rfl ?_
      refine so_bipush (v := (30 : Int32)) X (dkX12_tray (71, .bipush 30, 2) (pgm 39 rfl)) bp_30 ?_
      refine so_icmp_ge (tgt := 95) X (dkX12_tray (73, .if_icmp .ge 22, 3) (pgm 40 rfl)) rfl (fun _ => ?_) (fun _ => ?_)
      · exact so_vret X hr hlk (dkX12_tray (95, .return_, 1) (pgm 52 rfl))
      · refine so_aload_n (i := 0) X 0 (dkX12_tray (76, .aload_n 0, 1) (pgm 41 rfl)) rfl rfl ?_
        refine sf_getR X ff_12_38 lk_1740 hk (dkX12_tray (77, .getfield 86, 3) (pgm 42 rfl)) ?_
        refine so_bipush (v := (30 : Int32)) X (dkX12_tray (80, .bipush 30, 2) (pgm 43 rfl)) bp_30 ?_
        refine so_iload_n (i := 1) X 1 (dkX12_tray (82, .iload_n 1, 1) (pgm 44 rfl)) rfl rfl ?_
        refine so_imul X (dkX12_tray (83, .imul, 1) (pgm 45 rfl)) ?_
        refine so_iload (i := 4) X 2 (dkX12_tray (84, .iload 4, 2) (pgm 46 rfl)) rfl ?_
        refine so_iadd X (dkX12_tray (86, .iadd, 1) (pgm 47 rfl)) ?_
        refine so_lconst (v := (0 : Int64)) X (dkX12_tray (87, .lconst 0, 1) (pgm 48 rfl)) lc_0 ?_
        refine so_last X (rk_12_38 this hk) (dkX12_tray (88, .lastore, 1) (pgm 49 rfl)) (fun h9 => ?_)
        refine so_iinc (i := 4) X 2 (dkX12_tray (89, .iinc 4 1, 3) (pgm 50 rfl)) rfl rfl (by decide) (Lf := fun x10 => [(4, .int x10), (0, .ref this), (1, .int a1)]) (fun _ => rfl) (fun x10 => ?_)
        refine so_goto (tgt := 69) X (dkX12_tray (92, .goto (-23), 3) (pgm 51 rfl)) rfl ?_
        exact so_pick X [1, 2, 0] rfl (hrec69 x10 h9)
    · exact so_vret X hr hlk (dkX12_tray (51, .return_, 1) (pgm 25 rfl))
  refine so_if_ne (tgt := 12) X (dkX12_tray (5, .ifCond .ne 7, 3) (pgm 3 rfl)) rfl (fun _ => ?_) (fun _ => ?_)
  · refine so_iload_n (i := 2) X 2 (dkX12_tray (12, .iload_n 2, 1) (pgm 6 rfl)) rfl rfl ?_
    refine so_i2l X (dkX12_tray (13, .i2l, 1) (pgm 7 rfl)) ?_
    refine so_lconst (v := (0 : Int64)) X (dkX12_tray (14, .lconst 0, 1) (pgm 8 rfl)) lc_0 ?_
    refine so_ldc2 X lk_2082 (dkX12_tray (15, .ldc2_w 349, 3) (pgm 9 rfl)) ?_
    refine so_callS (n := 3) (As := [.long a2.toInt64, .long (0 : Int64), .long (3 : Int64)]) X (ct_X12_within l a2.toInt64 (0 : Int64) (3 : Int64) h2 ) lk_1832 lk_1833 lk_134 lk_1834 (by decide +kernel) rfl rfl rfl (rm_ok (by omega) (by decide)) ⟨Nat.zero_le _, Nat.zero_le _⟩ (Nat.le_of_ble_eq_true rfl) (dkX12_tray (18, .invokestatic 156, 3) (pgm 10 rfl)) (fun r11 h12 => ?_) rfl
    refine so_join (jf := fun (h13 : PH) => j41 (2 : Int32) h13) (fun (j : PH → Option (Unit × PH)) => ∀  (h13 : PH), SWo (QM mkV below args s D cA ad A) p l e (rmd 2) s m args below meth c 0 0 5 D cA ad A 36 [(0, .ref this), (1, .int a1), (2, .int a2), (3, .int a3)] [.ref this] h13 (j h13)) ?_ (fun j36 hj36 => ?_)
    · intro h13
      refine so_iconst (v := (2 : Int32)) X (dkX12_tray (36, .iconst 2, 1) (pgm 18 rfl)) ic_2 ?_
      refine so_goto (tgt := 41) X (dkX12_tray (37, .goto 4, 3) (pgm 19 rfl)) rfl ?_
      exact so_pick X [0, 1, 2, 3] rfl (hj41 (2 : Int32) h13)
    refine so_if_eq (tgt := 36) X (dkX12_tray (21, .ifCond .eq 15, 3) (pgm 11 rfl)) rfl (fun _ => ?_) (fun _ => ?_)
    · exact so_pick X [0, 1, 2, 3] rfl (hj36 h12)
    · refine so_iload_n (i := 3) X 3 (dkX12_tray (24, .iload_n 3, 1) (pgm 12 rfl)) rfl rfl ?_
      refine so_i2l X (dkX12_tray (25, .i2l, 1) (pgm 13 rfl)) ?_
      refine so_lconst (v := (0 : Int64)) X (dkX12_tray (26, .lconst 0, 1) (pgm 14 rfl)) lc_0 ?_
      refine so_ldc2 X lk_2228 (dkX12_tray (27, .ldc2_w 435, 3) (pgm 15 rfl)) ?_
      refine so_callS (n := 3) (As := [.long a3.toInt64, .long (0 : Int64), .long (30 : Int64)]) X (ct_X12_within l a3.toInt64 (0 : Int64) (30 : Int64) h12 ) lk_1832 lk_1833 lk_134 lk_1834 (by decide +kernel) rfl rfl rfl (rm_ok (by omega) (by decide)) ⟨Nat.zero_le _, Nat.zero_le _⟩ (Nat.le_of_ble_eq_true rfl) (dkX12_tray (30, .invokestatic 156, 3) (pgm 16 rfl)) (fun r14 h15 => ?_) rfl
      refine so_if_ne (tgt := 40) X (dkX12_tray (33, .ifCond .ne 7, 3) (pgm 17 rfl)) rfl (fun _ => ?_) (fun _ => ?_)
      · refine so_iconst (v := (0 : Int32)) X (dkX12_tray (40, .iconst 0, 1) (pgm 20 rfl)) ic_0 ?_
        exact so_pick X [0, 1, 2, 3] rfl (hj41 (0 : Int32) h15)
      · exact so_pick X [0, 1, 2, 3] rfl (hj36 h15)
  · refine so_iconst (v := (1 : Int32)) X (dkX12_tray (8, .iconst 1, 1) (pgm 4 rfl)) ic_1 ?_
    refine so_goto (tgt := 41) X (dkX12_tray (9, .goto 32, 3) (pgm 5 rfl)) rfl ?_
    exact so_pick X [0, 1, 2, 3] rfl (hj41 (1 : Int32) h2)
def pgX12_cut : List (Nat × Instr × Nat) := [(0, .bipush 64, 2), (2, .bipush 8, 2), (4, .aload_n 0, 1), (5, .getfield 80, 3), (8, .iload_n 1, 1), (9, .iaload, 1), (10, .ishl, 1), (11, .isub, 1), (12, .istore 5, 2), (14, .aload_n 0, 1), (15, .getfield 86, 3), (18, .bipush 30, 2), (20, .iload_n 1, 1), (21, .imul, 1), (22, .iload_n 2, 1), (23, .iadd, 1), (24, .lload_n 3, 1), (25, .iload 5, 2), (27, .lshl, 1), (28, .iload 5, 2), (30, .lshr, 1), (31, .lastore, 1), (32, .aload_n 0, 1), (33, .getfield 86, 3), (36, .bipush 30, 2), (38, .iload_n 1, 1), (39, .imul, 1), (40, .iload_n 2, 1), (41, .iadd, 1), (42, .laload, 1), (43, .lreturn, 1)]
theorem dkX12_cut : ∀ q ∈ pgX12_cut, decode cX12_cut q.1 = .ok q.2 := by decide +kernel
def f_X12_cut (this : Nat) (a1 : Int32) (a2 : Int32) (a3 : Int64) (h0 : PH) : Option (Int64 × PH) :=
  ldI h0 (rt this 36) 4 a1 (fun (x1 : Int32) => lt ((64 : Int32) - ((8 : Int32) <<< (x1 &&& 31))) (fun (x2 : Int32) => stL h0 (rt this 38) 120 (((30 : Int32) * a1) + a2) ((a3 <<< (x2.toInt64 &&& 63)) >>> (x2.toInt64 &&& 63)) (fun (h3 : PH) => ldL h3 (rt this 38) 120 (((30 : Int32) * a1) + a2) (fun (x4 : Int64) => some (x4, h3)))))
set_option maxRecDepth 100000 in
set_option maxHeartbeats 4000000 in
theorem ct_X12_cut (l : Launch) (this : Nat) (a1 : Int32) (a2 : Int32) (a3 : Int64) (h0 : PH) (hk : (kd this).1 = 12) : CT mkL l yX12_cut cX12_cut 6 (some .long) (rmd 0) [.ref this, .int a1, .int a2, .long a3] h0 (f_X12_cut this a1 a2 a3 h0) := by
  refine ct_of (by decide) (Nat.le_of_ble_eq_true rfl) ?_
  intro p e s m args below meth c D cA ad A X hr hlk
  have X : Cx p s m args c RX12 cX12_cut 6 D cA ad A := X
  unfold f_X12_cut
  refine so_pick (L' := [(0, .ref this), (1, .int a1), (2, .int a2), (3, .long a3)]) X [0, 1, 2, 3] rfl ?_
  refine so_bipush (v := (64 : Int32)) X (dkX12_cut (0, .bipush 64, 2) (pgm 0 rfl)) bp_64 ?_
  refine so_bipush (v := (8 : Int32)) X (dkX12_cut (2, .bipush 8, 2) (pgm 1 rfl)) bp_8 ?_
  refine so_aload_n (i := 0) X 0 (dkX12_cut (4, .aload_n 0, 1) (pgm 2 rfl)) rfl rfl ?_
  refine sf_getR X ff_12_36 lk_1738 hk (dkX12_cut (5, .getfield 80, 3) (pgm 3 rfl)) ?_
  refine so_iload_n (i := 1) X 1 (dkX12_cut (8, .iload_n 1, 1) (pgm 4 rfl)) rfl rfl ?_
  refine so_iald X (rk_12_36 this hk) (dkX12_cut (9, .iaload, 1) (pgm 5 rfl)) (fun x1 => ?_)
  refine so_ishl X (dkX12_cut (10, .ishl, 1) (pgm 6 rfl)) ?_
  refine so_isub X (dkX12_cut (11, .isub, 1) (pgm 7 rfl)) ?_
  refine so_istore (i := 5) X (dkX12_cut (12, .istore 5, 2) (pgm 8 rfl)) (by decide) (Lf := fun x2 => [(5, .int x2), (0, .ref this), (1, .int a1), (2, .int a2), (3, .long a3)]) (fun _ => rfl) (fun x2 => ?_)
  refine so_aload_n (i := 0) X 1 (dkX12_cut (14, .aload_n 0, 1) (pgm 9 rfl)) rfl rfl ?_
  refine sf_getR X ff_12_38 lk_1740 hk (dkX12_cut (15, .getfield 86, 3) (pgm 10 rfl)) ?_
  refine so_bipush (v := (30 : Int32)) X (dkX12_cut (18, .bipush 30, 2) (pgm 11 rfl)) bp_30 ?_
  refine so_iload_n (i := 1) X 2 (dkX12_cut (20, .iload_n 1, 1) (pgm 12 rfl)) rfl rfl ?_
  refine so_imul X (dkX12_cut (21, .imul, 1) (pgm 13 rfl)) ?_
  refine so_iload_n (i := 2) X 3 (dkX12_cut (22, .iload_n 2, 1) (pgm 14 rfl)) rfl rfl ?_
  refine so_iadd X (dkX12_cut (23, .iadd, 1) (pgm 15 rfl)) ?_
  refine so_lload_n (i := 3) X 4 (dkX12_cut (24, .lload_n 3, 1) (pgm 16 rfl)) rfl rfl ?_
  refine so_iload (i := 5) X 0 (dkX12_cut (25, .iload 5, 2) (pgm 17 rfl)) rfl ?_
  refine so_lshl X (dkX12_cut (27, .lshl, 1) (pgm 18 rfl)) ?_
  refine so_iload (i := 5) X 0 (dkX12_cut (28, .iload 5, 2) (pgm 19 rfl)) rfl ?_
  refine so_lshr X (dkX12_cut (30, .lshr, 1) (pgm 20 rfl)) ?_
  refine so_last X (rk_12_38 this hk) (dkX12_cut (31, .lastore, 1) (pgm 21 rfl)) (fun h3 => ?_)
  refine so_aload_n (i := 0) X 1 (dkX12_cut (32, .aload_n 0, 1) (pgm 22 rfl)) rfl rfl ?_
  refine sf_getR X ff_12_38 lk_1740 hk (dkX12_cut (33, .getfield 86, 3) (pgm 23 rfl)) ?_
  refine so_bipush (v := (30 : Int32)) X (dkX12_cut (36, .bipush 30, 2) (pgm 24 rfl)) bp_30 ?_
  refine so_iload_n (i := 1) X 2 (dkX12_cut (38, .iload_n 1, 1) (pgm 25 rfl)) rfl rfl ?_
  refine so_imul X (dkX12_cut (39, .imul, 1) (pgm 26 rfl)) ?_
  refine so_iload_n (i := 2) X 3 (dkX12_cut (40, .iload_n 2, 1) (pgm 27 rfl)) rfl rfl ?_
  refine so_iadd X (dkX12_cut (41, .iadd, 1) (pgm 28 rfl)) ?_
  refine so_lald X (rk_12_38 this hk) (dkX12_cut (42, .laload, 1) (pgm 29 rfl)) (fun x4 => ?_)
  exact so_lret X hr hlk (dkX12_cut (43, .lreturn, 1) (pgm 30 rfl))
def pgX12_image : List (Nat × Instr × Nat) := [(0, .aload_n 0, 1), (1, .iload_n 1, 1), (2, .i2l, 1), (3, .lconst 0, 1), (4, .ldc2_w 325, 3), (7, .invokestatic 156, 3), (10, .ifCond .eq 7, 3), (13, .iconst 0, 1), (14, .goto 4, 3), (17, .iconst 1, 1), (18, .putfield 92, 3), (21, .aload_n 0, 1), (22, .getfield 92, 3), (25, .ifCond .le 4, 3), (28, .return_, 1), (29, .aload_n 0, 1), (30, .getfield 22, 3), (33, .iload_n 1, 1), (34, .iconst 1, 1), (35, .bastore, 1), (36, .iconst 0, 1), (37, .istore_n 2, 1), (38, .iload_n 2, 1), (39, .sipush 1200, 3), (42, .if_icmp .ge 27, 3), (45, .aload_n 0, 1), (46, .getfield 16, 3), (49, .sipush 1200, 3), (52, .iload_n 1, 1), (53, .imul, 1), (54, .iload_n 2, 1), (55, .iadd, 1), (56, .aload_n 0, 1), (57, .getfield 9, 3), (60, .iload_n 2, 1), (61, .iaload, 1), (62, .iastore, 1), (63, .iinc 2 1, 3), (66, .goto (-28), 3), (69, .return_, 1)]
theorem dkX12_image : ∀ q ∈ pgX12_image, decode cX12_image q.1 = .ok q.2 := by decide +kernel
def b_X12_image_38 (this : Nat) (a1 : Int32) (rec38 : (Int32) → PH → Option (Unit × PH)) (s38 : Int32) (hh38 : PH) : Option (Unit × PH) :=
  if (1200 : Int32) ≤ s38 then (some ((), hh38)) else (ldI hh38 (rt this 0) 1200 s38 (fun (x8 : Int32) => stI hh38 (rt this 2) 3600 (((1200 : Int32) * a1) + s38) x8 (fun (h9 : PH) => lt (s38 + Int32.ofInt 1) (fun (x10 : Int32) => rec38 x10 h9))))
def f_X12_image (this : Nat) (a1 : Int32) (h0 : PH) : Option (Unit × PH) :=
  cb (f_X12_within a1.toInt64 (0 : Int64) (2 : Int64) h0) (fun (r1 : Int32) (h2 : PH) => lt (fun (t3 : Int32) (h4 : PH) => lt (pI h4 this 5 t3) (fun (h5 : PH) => if (h5.1 this 5) ≤ 0 then (stI h5 (rt this 4) 3 a1 (vp_nar .boolean (1 : Int32)) (fun (h6 : PH) => lt (0 : Int32) (fun (x7 : Int32) => lp (b_X12_image_38 this a1) FU x7 h6))) else (some ((), h5)))) (fun (j18 : Int32 → PH → Option (Unit × PH)) => if r1 = 0 then (j18 (1 : Int32) h2) else (j18 (0 : Int32) h2)))
set_option maxRecDepth 100000 in
set_option maxHeartbeats 4000000 in
theorem ct_X12_image (l : Launch) (this : Nat) (a1 : Int32) (h0 : PH) (hk : (kd this).1 = 12) : CT mkV l yX12_image cX12_image 3 none (rmd 1) [.ref this, .int a1] h0 (f_X12_image this a1 h0) := by
  refine ct_of (by decide) (Nat.le_of_ble_eq_true rfl) ?_
  intro p e s m args below meth c D cA ad A X hr hlk
  have X : Cx p s m args c RX12 cX12_image 3 D cA ad A := X
  unfold f_X12_image
  refine so_pick (L' := [(0, .ref this), (1, .int a1)]) X [0, 1] rfl ?_
  refine so_aload_n (i := 0) X 0 (dkX12_image (0, .aload_n 0, 1) (pgm 0 rfl)) rfl rfl ?_
  refine so_iload_n (i := 1) X 1 (dkX12_image (1, .iload_n 1, 1) (pgm 1 rfl)) rfl rfl ?_
  refine so_i2l X (dkX12_image (2, .i2l, 1) (pgm 2 rfl)) ?_
  refine so_lconst (v := (0 : Int64)) X (dkX12_image (3, .lconst 0, 1) (pgm 3 rfl)) lc_0 ?_
  refine so_ldc2 X lk_2034 (dkX12_image (4, .ldc2_w 325, 3) (pgm 4 rfl)) ?_
  refine so_callS (n := 3) (As := [.long a1.toInt64, .long (0 : Int64), .long (2 : Int64)]) X (ct_X12_within l a1.toInt64 (0 : Int64) (2 : Int64) h0 ) lk_1832 lk_1833 lk_134 lk_1834 (by decide +kernel) rfl rfl rfl (rm_ok (by omega) (by decide)) ⟨Nat.zero_le _, Nat.zero_le _⟩ (Nat.le_of_ble_eq_true rfl) (dkX12_image (7, .invokestatic 156, 3) (pgm 5 rfl)) (fun r1 h2 => ?_) rfl
  refine so_join (jf := fun (t3 : Int32) (h4 : PH) => lt (pI h4 this 5 t3) (fun (h5 : PH) => if (h5.1 this 5) ≤ 0 then (stI h5 (rt this 4) 3 a1 (vp_nar .boolean (1 : Int32)) (fun (h6 : PH) => lt (0 : Int32) (fun (x7 : Int32) => lp (b_X12_image_38 this a1) FU x7 h6))) else (some ((), h5)))) (fun (j : Int32 → PH → Option (Unit × PH)) => ∀ (t3 : Int32) (h4 : PH), SWo (QM mkV below args s D cA ad A) p l e (rmd 1) s m args below meth c 0 0 3 D cA ad A 18 [(0, .ref this), (1, .int a1)] [.int t3, .ref this] h4 (j t3 h4)) ?_ (fun j18 hj18 => ?_)
  · intro t3 h4
    refine sf_putI X ff_12_5 ft_12 rfl lk_1707 hk rfl rfl (dkX12_image (18, .putfield 92, 3) (pgm 10 rfl)) (fun h5 => ?_)
    refine so_aload_n (i := 0) X 0 (dkX12_image (21, .aload_n 0, 1) (pgm 11 rfl)) rfl rfl ?_
    refine sf_getI X ff_12_5 lk_1707 hk (dkX12_image (22, .getfield 92, 3) (pgm 12 rfl)) ?_
    refine so_if_le (tgt := 29) X (dkX12_image (25, .ifCond .le 4, 3) (pgm 13 rfl)) rfl (fun _ => ?_) (fun _ => ?_)
    · refine so_aload_n (i := 0) X 0 (dkX12_image (29, .aload_n 0, 1) (pgm 15 rfl)) rfl rfl ?_
      refine sf_getR X ff_12_4 lk_1706 hk (dkX12_image (30, .getfield 22, 3) (pgm 16 rfl)) ?_
      refine so_iload_n (i := 1) X 1 (dkX12_image (33, .iload_n 1, 1) (pgm 17 rfl)) rfl rfl ?_
      refine so_iconst (v := (1 : Int32)) X (dkX12_image (34, .iconst 1, 1) (pgm 18 rfl)) ic_1 ?_
      refine so_zast X (rk_12_4 this hk) (dkX12_image (35, .bastore, 1) (pgm 19 rfl)) (fun h6 => ?_)
      refine so_iconst (v := (0 : Int32)) X (dkX12_image (36, .iconst 0, 1) (pgm 20 rfl)) ic_0 ?_
      refine so_istore_n (i := 2) X (dkX12_image (37, .istore_n 2, 1) (pgm 21 rfl)) rfl (by decide) (Lf := fun x7 => [(2, .int x7), (0, .ref this), (1, .int a1)]) (fun _ => rfl) (fun x7 => ?_)
      refine so_pick (L' := [(0, .ref this), (1, .int a1), (2, .int x7)]) X [1, 2, 0] rfl ?_
      refine so_loop (body := b_X12_image_38 this a1) (fun (s38 : Int32) => [(0, .ref this), (1, .int a1), (2, .int s38)]) (fun rec38 hrec38 s38 hh38 => ?_) FU x7 h6
      unfold b_X12_image_38
      refine so_iload_n (i := 2) X 2 (dkX12_image (38, .iload_n 2, 1) (pgm 22 rfl)) rfl rfl ?_
      refine so_sipush (v := (1200 : Int32)) X (dkX12_image (39, .sipush 1200, 3) (pgm 23 rfl)) sp_1200 ?_
      refine so_icmp_ge (tgt := 69) X (dkX12_image (42, .if_icmp .ge 27, 3) (pgm 24 rfl)) rfl (fun _ => ?_) (fun _ => ?_)
      · exact so_vret X hr hlk (dkX12_image (69, .return_, 1) (pgm 39 rfl))
      · refine so_aload_n (i := 0) X 0 (dkX12_image (45, .aload_n 0, 1) (pgm 25 rfl)) rfl rfl ?_
        refine sf_getR X ff_12_2 lk_1704 hk (dkX12_image (46, .getfield 16, 3) (pgm 26 rfl)) ?_
        refine so_sipush (v := (1200 : Int32)) X (dkX12_image (49, .sipush 1200, 3) (pgm 27 rfl)) sp_1200 ?_
        refine so_iload_n (i := 1) X 1 (dkX12_image (52, .iload_n 1, 1) (pgm 28 rfl)) rfl rfl ?_
        refine so_imul X (dkX12_image (53, .imul, 1) (pgm 29 rfl)) ?_
        refine so_iload_n (i := 2) X 2 (dkX12_image (54, .iload_n 2, 1) (pgm 30 rfl)) rfl rfl ?_
        refine so_iadd X (dkX12_image (55, .iadd, 1) (pgm 31 rfl)) ?_
        refine so_aload_n (i := 0) X 0 (dkX12_image (56, .aload_n 0, 1) (pgm 32 rfl)) rfl rfl ?_
        refine sf_getR X ff_12_0 lk_1702 hk (dkX12_image (57, .getfield 9, 3) (pgm 33 rfl)) ?_
        refine so_iload_n (i := 2) X 2 (dkX12_image (60, .iload_n 2, 1) (pgm 34 rfl)) rfl rfl ?_
        refine so_iald X (rk_12_0 this hk) (dkX12_image (61, .iaload, 1) (pgm 35 rfl)) (fun x8 => ?_)
        refine so_iast X (rk_12_2 this hk) (dkX12_image (62, .iastore, 1) (pgm 36 rfl)) (fun h9 => ?_)
        refine so_iinc (i := 2) X 2 (dkX12_image (63, .iinc 2 1, 3) (pgm 37 rfl)) rfl rfl (by decide) (Lf := fun x10 => [(2, .int x10), (0, .ref this), (1, .int a1)]) (fun _ => rfl) (fun x10 => ?_)
        refine so_goto (tgt := 38) X (dkX12_image (66, .goto (-28), 3) (pgm 38 rfl)) rfl ?_
        exact so_pick X [1, 2, 0] rfl (hrec38 x10 h9)
    · exact so_vret X hr hlk (dkX12_image (28, .return_, 1) (pgm 14 rfl))
  refine so_if_eq (tgt := 17) X (dkX12_image (10, .ifCond .eq 7, 3) (pgm 6 rfl)) rfl (fun _ => ?_) (fun _ => ?_)
  · refine so_iconst (v := (1 : Int32)) X (dkX12_image (17, .iconst 1, 1) (pgm 9 rfl)) ic_1 ?_
    exact so_pick X [0, 1] rfl (hj18 (1 : Int32) h2)
  · refine so_iconst (v := (0 : Int32)) X (dkX12_image (13, .iconst 0, 1) (pgm 7 rfl)) ic_0 ?_
    refine so_goto (tgt := 18) X (dkX12_image (14, .goto 4, 3) (pgm 8 rfl)) rfl ?_
    exact so_pick X [0, 1] rfl (hj18 (0 : Int32) h2)
def pgX12_restore : List (Nat × Instr × Nat) := [(0, .aload_n 0, 1), (1, .iload_n 1, 1), (2, .i2l, 1), (3, .lconst 0, 1), (4, .ldc2_w 325, 3), (7, .invokestatic 156, 3), (10, .ifCond .ne 7, 3), (13, .iconst 1, 1), (14, .goto 17, 3), (17, .aload_n 0, 1), (18, .getfield 22, 3), (21, .iload_n 1, 1), (22, .baload, 1), (23, .ifCond .ne 7, 3), (26, .iconst 2, 1), (27, .goto 4, 3), (30, .iconst 0, 1), (31, .putfield 92, 3), (34, .aload_n 0, 1), (35, .getfield 92, 3), (38, .ifCond .le 4, 3), (41, .return_, 1), (42, .iconst 0, 1), (43, .istore_n 2, 1), (44, .iload_n 2, 1), (45, .sipush 1200, 3), (48, .if_icmp .ge 27, 3), (51, .aload_n 0, 1), (52, .getfield 9, 3), (55, .iload_n 2, 1), (56, .aload_n 0, 1), (57, .getfield 16, 3), (60, .sipush 1200, 3), (63, .iload_n 1, 1), (64, .imul, 1), (65, .iload_n 2, 1), (66, .iadd, 1), (67, .iaload, 1), (68, .iastore, 1), (69, .iinc 2 1, 3), (72, .goto (-28), 3), (75, .aload_n 0, 1), (76, .invokevirtual 89, 3), (79, .return_, 1)]
theorem dkX12_restore : ∀ q ∈ pgX12_restore, decode cX12_restore q.1 = .ok q.2 := by decide +kernel
def b_X12_restore_44 (this : Nat) (a1 : Int32) (j75 : PH → Option (Unit × PH)) (rec44 : (Int32) → PH → Option (Unit × PH)) (s44 : Int32) (hh44 : PH) : Option (Unit × PH) :=
  if (1200 : Int32) ≤ s44 then (j75 hh44) else (ldI hh44 (rt this 2) 3600 (((1200 : Int32) * a1) + s44) (fun (x10 : Int32) => stI hh44 (rt this 0) 1200 s44 x10 (fun (h11 : PH) => lt (s44 + Int32.ofInt 1) (fun (x12 : Int32) => rec44 x12 h11))))
def f_X12_restore (this : Nat) (a1 : Int32) (h0 : PH) : Option (Unit × PH) :=
  cb (f_X12_within a1.toInt64 (0 : Int64) (2 : Int64) h0) (fun (r1 : Int32) (h2 : PH) => lt (fun (t3 : Int32) (h4 : PH) => lt (pI h4 this 5 t3) (fun (h5 : PH) => if (h5.1 this 5) ≤ 0 then (lt (0 : Int32) (fun (x6 : Int32) => lt (fun (h7 : PH) => cb (f_X12_laysTruths this h7) (fun (r8 : Unit) (h9 : PH) => some ((), h9))) (fun (j75 : PH → Option (Unit × PH)) => lp (b_X12_restore_44 this a1 j75) FU x6 h5))) else (some ((), h5)))) (fun (j31 : Int32 → PH → Option (Unit × PH)) => if r1 = 0 then (j31 (1 : Int32) h2) else (ldI h2 (rt this 4) 3 a1 (fun (x13 : Int32) => if x13 = 0 then (j31 (2 : Int32) h2) else (j31 (0 : Int32) h2)))))
set_option maxRecDepth 100000 in
set_option maxHeartbeats 4000000 in
theorem ct_X12_restore (l : Launch) (this : Nat) (a1 : Int32) (h0 : PH) (hk : (kd this).1 = 12) : CT mkV l yX12_restore cX12_restore 3 none (rmd 5) [.ref this, .int a1] h0 (f_X12_restore this a1 h0) := by
  refine ct_of (by decide) (Nat.le_of_ble_eq_true rfl) ?_
  intro p e s m args below meth c D cA ad A X hr hlk
  have X : Cx p s m args c RX12 cX12_restore 3 D cA ad A := X
  unfold f_X12_restore
  refine so_pick (L' := [(0, .ref this), (1, .int a1)]) X [0, 1] rfl ?_
  refine so_aload_n (i := 0) X 0 (dkX12_restore (0, .aload_n 0, 1) (pgm 0 rfl)) rfl rfl ?_
  refine so_iload_n (i := 1) X 1 (dkX12_restore (1, .iload_n 1, 1) (pgm 1 rfl)) rfl rfl ?_
  refine so_i2l X (dkX12_restore (2, .i2l, 1) (pgm 2 rfl)) ?_
  refine so_lconst (v := (0 : Int64)) X (dkX12_restore (3, .lconst 0, 1) (pgm 3 rfl)) lc_0 ?_
  refine so_ldc2 X lk_2034 (dkX12_restore (4, .ldc2_w 325, 3) (pgm 4 rfl)) ?_
  refine so_callS (n := 3) (As := [.long a1.toInt64, .long (0 : Int64), .long (2 : Int64)]) X (ct_X12_within l a1.toInt64 (0 : Int64) (2 : Int64) h0 ) lk_1832 lk_1833 lk_134 lk_1834 (by decide +kernel) rfl rfl rfl (rm_ok (by omega) (by decide)) ⟨Nat.zero_le _, Nat.zero_le _⟩ (Nat.le_of_ble_eq_true rfl) (dkX12_restore (7, .invokestatic 156, 3) (pgm 5 rfl)) (fun r1 h2 => ?_) rfl
  refine so_join (jf := fun (t3 : Int32) (h4 : PH) => lt (pI h4 this 5 t3) (fun (h5 : PH) => if (h5.1 this 5) ≤ 0 then (lt (0 : Int32) (fun (x6 : Int32) => lt (fun (h7 : PH) => cb (f_X12_laysTruths this h7) (fun (r8 : Unit) (h9 : PH) => some ((), h9))) (fun (j75 : PH → Option (Unit × PH)) => lp (b_X12_restore_44 this a1 j75) FU x6 h5))) else (some ((), h5)))) (fun (j : Int32 → PH → Option (Unit × PH)) => ∀ (t3 : Int32) (h4 : PH), SWo (QM mkV below args s D cA ad A) p l e (rmd 5) s m args below meth c 0 0 3 D cA ad A 31 [(0, .ref this), (1, .int a1)] [.int t3, .ref this] h4 (j t3 h4)) ?_ (fun j31 hj31 => ?_)
  · intro t3 h4
    refine sf_putI X ff_12_5 ft_12 rfl lk_1707 hk rfl rfl (dkX12_restore (31, .putfield 92, 3) (pgm 17 rfl)) (fun h5 => ?_)
    refine so_aload_n (i := 0) X 0 (dkX12_restore (34, .aload_n 0, 1) (pgm 18 rfl)) rfl rfl ?_
    refine sf_getI X ff_12_5 lk_1707 hk (dkX12_restore (35, .getfield 92, 3) (pgm 19 rfl)) ?_
    refine so_if_le (tgt := 42) X (dkX12_restore (38, .ifCond .le 4, 3) (pgm 20 rfl)) rfl (fun _ => ?_) (fun _ => ?_)
    · refine so_iconst (v := (0 : Int32)) X (dkX12_restore (42, .iconst 0, 1) (pgm 22 rfl)) ic_0 ?_
      refine so_istore_n (i := 2) X (dkX12_restore (43, .istore_n 2, 1) (pgm 23 rfl)) rfl (by decide) (Lf := fun x6 => [(2, .int x6), (0, .ref this), (1, .int a1)]) (fun _ => rfl) (fun x6 => ?_)
      refine so_join (jf := fun (h7 : PH) => cb (f_X12_laysTruths this h7) (fun (r8 : Unit) (h9 : PH) => some ((), h9))) (fun (j : PH → Option (Unit × PH)) => ∀  (h7 : PH), SWo (QM mkV below args s D cA ad A) p l e (rmd 5) s m args below meth c 0 0 3 D cA ad A 75 [(0, .ref this)] [] h7 (j h7)) ?_ (fun j75 hj75 => ?_)
      · intro h7
        refine so_aload_n (i := 0) X 0 (dkX12_restore (75, .aload_n 0, 1) (pgm 41 rfl)) rfl rfl ?_
        refine so_callV (n := 0) (As := []) X (ct_X12_laysTruths l this h7 hk) hk (by decide) rfl lk_1660 lk_1662 lk_55 lk_134 lk_1663 (by decide +kernel) rfl rfl rfl (rm_ok (by omega) (by decide)) ⟨Nat.zero_le _, Nat.zero_le _⟩ (Nat.le_of_ble_eq_true rfl) (dkX12_restore (76, .invokevirtual 89, 3) (pgm 42 rfl)) (fun r8 h9 => ?_) rfl
        exact so_vret X hr hlk (dkX12_restore (79, .return_, 1) (pgm 43 rfl))
      refine so_pick (L' := [(0, .ref this), (1, .int a1), (2, .int x6)]) X [1, 2, 0] rfl ?_
      refine so_loop (body := b_X12_restore_44 this a1 j75) (fun (s44 : Int32) => [(0, .ref this), (1, .int a1), (2, .int s44)]) (fun rec44 hrec44 s44 hh44 => ?_) FU x6 h5
      unfold b_X12_restore_44
      refine so_iload_n (i := 2) X 2 (dkX12_restore (44, .iload_n 2, 1) (pgm 24 rfl)) rfl rfl ?_
      refine so_sipush (v := (1200 : Int32)) X (dkX12_restore (45, .sipush 1200, 3) (pgm 25 rfl)) sp_1200 ?_
      refine so_icmp_ge (tgt := 75) X (dkX12_restore (48, .if_icmp .ge 27, 3) (pgm 26 rfl)) rfl (fun _ => ?_) (fun _ => ?_)
      · exact so_pick X [0] rfl (hj75 hh44)
      · refine so_aload_n (i := 0) X 0 (dkX12_restore (51, .aload_n 0, 1) (pgm 27 rfl)) rfl rfl ?_
        refine sf_getR X ff_12_0 lk_1702 hk (dkX12_restore (52, .getfield 9, 3) (pgm 28 rfl)) ?_
        refine so_iload_n (i := 2) X 2 (dkX12_restore (55, .iload_n 2, 1) (pgm 29 rfl)) rfl rfl ?_
        refine so_aload_n (i := 0) X 0 (dkX12_restore (56, .aload_n 0, 1) (pgm 30 rfl)) rfl rfl ?_
        refine sf_getR X ff_12_2 lk_1704 hk (dkX12_restore (57, .getfield 16, 3) (pgm 31 rfl)) ?_
        refine so_sipush (v := (1200 : Int32)) X (dkX12_restore (60, .sipush 1200, 3) (pgm 32 rfl)) sp_1200 ?_
        refine so_iload_n (i := 1) X 1 (dkX12_restore (63, .iload_n 1, 1) (pgm 33 rfl)) rfl rfl ?_
        refine so_imul X (dkX12_restore (64, .imul, 1) (pgm 34 rfl)) ?_
        refine so_iload_n (i := 2) X 2 (dkX12_restore (65, .iload_n 2, 1) (pgm 35 rfl)) rfl rfl ?_
        refine so_iadd X (dkX12_restore (66, .iadd, 1) (pgm 36 rfl)) ?_
        refine so_iald X (rk_12_2 this hk) (dkX12_restore (67, .iaload, 1) (pgm 37 rfl)) (fun x10 => ?_)
        refine so_iast X (rk_12_0 this hk) (dkX12_restore (68, .iastore, 1) (pgm 38 rfl)) (fun h11 => ?_)
        refine so_iinc (i := 2) X 2 (dkX12_restore (69, .iinc 2 1, 3) (pgm 39 rfl)) rfl rfl (by decide) (Lf := fun x12 => [(2, .int x12), (0, .ref this), (1, .int a1)]) (fun _ => rfl) (fun x12 => ?_)
        refine so_goto (tgt := 44) X (dkX12_restore (72, .goto (-28), 3) (pgm 40 rfl)) rfl ?_
        exact so_pick X [1, 2, 0] rfl (hrec44 x12 h11)
    · exact so_vret X hr hlk (dkX12_restore (41, .return_, 1) (pgm 21 rfl))
  refine so_if_ne (tgt := 17) X (dkX12_restore (10, .ifCond .ne 7, 3) (pgm 6 rfl)) rfl (fun _ => ?_) (fun _ => ?_)
  · refine so_aload_n (i := 0) X 0 (dkX12_restore (17, .aload_n 0, 1) (pgm 9 rfl)) rfl rfl ?_
    refine sf_getR X ff_12_4 lk_1706 hk (dkX12_restore (18, .getfield 22, 3) (pgm 10 rfl)) ?_
    refine so_iload_n (i := 1) X 1 (dkX12_restore (21, .iload_n 1, 1) (pgm 11 rfl)) rfl rfl ?_
    refine so_zald X (rk_12_4 this hk) (dkX12_restore (22, .baload, 1) (pgm 12 rfl)) (fun x13 => ?_)
    refine so_if_ne (tgt := 30) X (dkX12_restore (23, .ifCond .ne 7, 3) (pgm 13 rfl)) rfl (fun _ => ?_) (fun _ => ?_)
    · refine so_iconst (v := (0 : Int32)) X (dkX12_restore (30, .iconst 0, 1) (pgm 16 rfl)) ic_0 ?_
      exact so_pick X [0, 1] rfl (hj31 (0 : Int32) h2)
    · refine so_iconst (v := (2 : Int32)) X (dkX12_restore (26, .iconst 2, 1) (pgm 14 rfl)) ic_2 ?_
      refine so_goto (tgt := 31) X (dkX12_restore (27, .goto 4, 3) (pgm 15 rfl)) rfl ?_
      exact so_pick X [0, 1] rfl (hj31 (2 : Int32) h2)
  · refine so_iconst (v := (1 : Int32)) X (dkX12_restore (13, .iconst 1, 1) (pgm 7 rfl)) ic_1 ?_
    refine so_goto (tgt := 31) X (dkX12_restore (14, .goto 17, 3) (pgm 8 rfl)) rfl ?_
    exact so_pick X [0, 1] rfl (hj31 (1 : Int32) h2)
def pgX12_count : List (Nat × Instr × Nat) := [(0, .aload_n 0, 1), (1, .iconst 0, 1), (2, .putfield 92, 3), (5, .iconst 0, 1), (6, .istore_n 2, 1), (7, .iconst 0, 1), (8, .istore_n 3, 1), (9, .iload_n 3, 1), (10, .bipush 6, 2), (12, .if_icmp .ge 21, 3), (15, .iload_n 2, 1), (16, .aload_n 0, 1), (17, .getfield 9, 3), (20, .bipush 18, 2), (22, .iload_n 3, 1), (23, .iadd, 1), (24, .iaload, 1), (25, .iadd, 1), (26, .istore_n 2, 1), (27, .iinc 3 1, 3), (30, .goto (-21), 3), (33, .iload_n 1, 1), (34, .tableswitch 122 0 9 #[54, 61, 68, 75, 82, 89, 96, 107, 109, 117], 54), (88, .aload_n 0, 1), (89, .getfield 9, 3), (92, .iconst 0, 1), (93, .iaload, 1), (94, .ireturn, 1), (95, .aload_n 0, 1), (96, .getfield 9, 3), (99, .iconst 1, 1), (100, .iaload, 1), (101, .ireturn, 1), (102, .aload_n 0, 1), (103, .getfield 9, 3), (106, .iconst 2, 1), (107, .iaload, 1), (108, .ireturn, 1), (109, .aload_n 0, 1), (110, .getfield 9, 3), (113, .iconst 3, 1), (114, .iaload, 1), (115, .ireturn, 1), (116, .aload_n 0, 1), (117, .getfield 9, 3), (120, .iconst 4, 1), (121, .iaload, 1), (122, .ireturn, 1), (123, .aload_n 0, 1), (124, .getfield 9, 3), (127, .iconst 5, 1), (128, .iaload, 1), (129, .ireturn, 1), (130, .aload_n 0, 1), (131, .getfield 9, 3), (134, .bipush 7, 2), (136, .iaload, 1), (137, .invokestatic 269, 3), (140, .ireturn, 1), (141, .iload_n 2, 1), (142, .ireturn, 1), (143, .aload_n 0, 1), (144, .getfield 9, 3), (147, .bipush 6, 2), (149, .iaload, 1), (150, .ireturn, 1), (151, .aload_n 0, 1), (152, .getfield 95, 3), (155, .ireturn, 1), (156, .iconst (-1), 1), (157, .ireturn, 1)]
theorem dkX12_count : ∀ q ∈ pgX12_count, decode cX12_count q.1 = .ok q.2 := by decide +kernel
def b_X12_count_9 (this : Nat) (j33 : Int32 → PH → Option (Int32 × PH)) (rec9 : (Int32 × Int32) → PH → Option (Int32 × PH)) (s9 : Int32 × Int32) (hh9 : PH) : Option (Int32 × PH) :=
  if (6 : Int32) ≤ s9.2 then (j33 s9.1 hh9) else (ldI hh9 (rt this 0) 1200 ((18 : Int32) + s9.2) (fun (x16 : Int32) => lt (s9.1 + x16) (fun (x17 : Int32) => lt (s9.2 + Int32.ofInt 1) (fun (x18 : Int32) => rec9 (x17, x18) hh9))))
def f_X12_count (this : Nat) (a1 : Int32) (h0 : PH) : Option (Int32 × PH) :=
  lt (pI h0 this 5 (0 : Int32)) (fun (h1 : PH) => lt (0 : Int32) (fun (x2 : Int32) => lt (0 : Int32) (fun (x3 : Int32) => lt (fun (y4 : Int32) (h5 : PH) => if a1.toInt < 0 ∨ 9 < a1.toInt then (some ((-1 : Int32), h5)) else ([ldI h5 (rt this 0) 1200 (0 : Int32) (fun (x6 : Int32) => some (x6, h5)), ldI h5 (rt this 0) 1200 (1 : Int32) (fun (x7 : Int32) => some (x7, h5)), ldI h5 (rt this 0) 1200 (2 : Int32) (fun (x8 : Int32) => some (x8, h5)), ldI h5 (rt this 0) 1200 (3 : Int32) (fun (x9 : Int32) => some (x9, h5)), ldI h5 (rt this 0) 1200 (4 : Int32) (fun (x10 : Int32) => some (x10, h5)), ldI h5 (rt this 0) 1200 (5 : Int32) (fun (x11 : Int32) => some (x11, h5)), ldI h5 (rt this 0) 1200 (7 : Int32) (fun (x12 : Int32) => cb (f_X12_size x12 h5) (fun (r13 : Int32) (h14 : PH) => some (r13, h14))), some (y4, h5), ldI h5 (rt this 0) 1200 (6 : Int32) (fun (x15 : Int32) => some (x15, h5)), some ((h5.1 this 7), h5)] : List (Option (Int32 × PH))).getD (a1.toInt - 0).toNat none) (fun (j33 : Int32 → PH → Option (Int32 × PH)) => lp (b_X12_count_9 this j33) FU (x2, x3) h1))))
set_option maxRecDepth 100000 in
set_option maxHeartbeats 4000000 in
theorem ct_X12_count (l : Launch) (this : Nat) (a1 : Int32) (h0 : PH) (hk : (kd this).1 = 12) : CT mkI l yX12_count cX12_count 4 (some .int) (rmd 1) [.ref this, .int a1] h0 (f_X12_count this a1 h0) := by
  refine ct_of (by decide) (Nat.le_of_ble_eq_true rfl) ?_
  intro p e s m args below meth c D cA ad A X hr hlk
  have X : Cx p s m args c RX12 cX12_count 4 D cA ad A := X
  unfold f_X12_count
  refine so_pick (L' := [(0, .ref this), (1, .int a1)]) X [0, 1] rfl ?_
  refine so_aload_n (i := 0) X 0 (dkX12_count (0, .aload_n 0, 1) (pgm 0 rfl)) rfl rfl ?_
  refine so_iconst (v := (0 : Int32)) X (dkX12_count (1, .iconst 0, 1) (pgm 1 rfl)) ic_0 ?_
  refine sf_putI X ff_12_5 ft_12 rfl lk_1707 hk rfl rfl (dkX12_count (2, .putfield 92, 3) (pgm 2 rfl)) (fun h1 => ?_)
  refine so_iconst (v := (0 : Int32)) X (dkX12_count (5, .iconst 0, 1) (pgm 3 rfl)) ic_0 ?_
  refine so_istore_n (i := 2) X (dkX12_count (6, .istore_n 2, 1) (pgm 4 rfl)) rfl (by decide) (Lf := fun x2 => [(2, .int x2), (0, .ref this), (1, .int a1)]) (fun _ => rfl) (fun x2 => ?_)
  refine so_iconst (v := (0 : Int32)) X (dkX12_count (7, .iconst 0, 1) (pgm 5 rfl)) ic_0 ?_
  refine so_istore_n (i := 3) X (dkX12_count (8, .istore_n 3, 1) (pgm 6 rfl)) rfl (by decide) (Lf := fun x3 => [(3, .int x3), (2, .int x2), (0, .ref this), (1, .int a1)]) (fun _ => rfl) (fun x3 => ?_)
  refine so_join (jf := fun (y4 : Int32) (h5 : PH) => if a1.toInt < 0 ∨ 9 < a1.toInt then (some ((-1 : Int32), h5)) else ([ldI h5 (rt this 0) 1200 (0 : Int32) (fun (x6 : Int32) => some (x6, h5)), ldI h5 (rt this 0) 1200 (1 : Int32) (fun (x7 : Int32) => some (x7, h5)), ldI h5 (rt this 0) 1200 (2 : Int32) (fun (x8 : Int32) => some (x8, h5)), ldI h5 (rt this 0) 1200 (3 : Int32) (fun (x9 : Int32) => some (x9, h5)), ldI h5 (rt this 0) 1200 (4 : Int32) (fun (x10 : Int32) => some (x10, h5)), ldI h5 (rt this 0) 1200 (5 : Int32) (fun (x11 : Int32) => some (x11, h5)), ldI h5 (rt this 0) 1200 (7 : Int32) (fun (x12 : Int32) => cb (f_X12_size x12 h5) (fun (r13 : Int32) (h14 : PH) => some (r13, h14))), some (y4, h5), ldI h5 (rt this 0) 1200 (6 : Int32) (fun (x15 : Int32) => some (x15, h5)), some ((h5.1 this 7), h5)] : List (Option (Int32 × PH))).getD (a1.toInt - 0).toNat none) (fun (j : Int32 → PH → Option (Int32 × PH)) => ∀ (y4 : Int32) (h5 : PH), SWo (QM mkI below args s D cA ad A) p l e (rmd 1) s m args below meth c 0 0 4 D cA ad A 33 [(0, .ref this), (1, .int a1), (2, .int y4)] [] h5 (j y4 h5)) ?_ (fun j33 hj33 => ?_)
  · intro y4 h5
    refine so_iload_n (i := 1) X 1 (dkX12_count (33, .iload_n 1, 1) (pgm 21 rfl)) rfl rfl ?_
    refine so_tsw (tgt := 156) (os := [ldI h5 (rt this 0) 1200 (0 : Int32) (fun (x6 : Int32) => some (x6, h5)), ldI h5 (rt this 0) 1200 (1 : Int32) (fun (x7 : Int32) => some (x7, h5)), ldI h5 (rt this 0) 1200 (2 : Int32) (fun (x8 : Int32) => some (x8, h5)), ldI h5 (rt this 0) 1200 (3 : Int32) (fun (x9 : Int32) => some (x9, h5)), ldI h5 (rt this 0) 1200 (4 : Int32) (fun (x10 : Int32) => some (x10, h5)), ldI h5 (rt this 0) 1200 (5 : Int32) (fun (x11 : Int32) => some (x11, h5)), ldI h5 (rt this 0) 1200 (7 : Int32) (fun (x12 : Int32) => cb (f_X12_size x12 h5) (fun (r13 : Int32) (h14 : PH) => some (r13, h14))), some (y4, h5), ldI h5 (rt this 0) 1200 (6 : Int32) (fun (x15 : Int32) => some (x15, h5)), some ((h5.1 this 7), h5)]) X (dkX12_count (34, .tableswitch 122 0 9 #[54, 61, 68, 75, 82, 89, 96, 107, 109, 117], 54) (pgm 22 rfl)) rfl ?_ ?_ rfl
    · refine so_iconst (v := (-1 : Int32)) X (dkX12_count (156, .iconst (-1), 1) (pgm 69 rfl)) ic_m1 ?_
      exact so_iret X hr hlk (dkX12_count (157, .ireturn, 1) (pgm 70 rfl))
    · intro kq ok hkq
      match kq, hkq with
      | 0, hkq =>
        obtain rfl := Option.some.inj hkq
        refine ⟨54, 88, rfl, rfl, ?_⟩
        refine so_aload_n (i := 0) X 0 (dkX12_count (88, .aload_n 0, 1) (pgm 23 rfl)) rfl rfl ?_
        refine sf_getR X ff_12_0 lk_1702 hk (dkX12_count (89, .getfield 9, 3) (pgm 24 rfl)) ?_
        refine so_iconst (v := (0 : Int32)) X (dkX12_count (92, .iconst 0, 1) (pgm 25 rfl)) ic_0 ?_
        refine so_iald X (rk_12_0 this hk) (dkX12_count (93, .iaload, 1) (pgm 26 rfl)) (fun x6 => ?_)
        exact so_iret X hr hlk (dkX12_count (94, .ireturn, 1) (pgm 27 rfl))
      | 1, hkq =>
        obtain rfl := Option.some.inj hkq
        refine ⟨61, 95, rfl, rfl, ?_⟩
        refine so_aload_n (i := 0) X 0 (dkX12_count (95, .aload_n 0, 1) (pgm 28 rfl)) rfl rfl ?_
        refine sf_getR X ff_12_0 lk_1702 hk (dkX12_count (96, .getfield 9, 3) (pgm 29 rfl)) ?_
        refine so_iconst (v := (1 : Int32)) X (dkX12_count (99, .iconst 1, 1) (pgm 30 rfl)) ic_1 ?_
        refine so_iald X (rk_12_0 this hk) (dkX12_count (100, .iaload, 1) (pgm 31 rfl)) (fun x7 => ?_)
        exact so_iret X hr hlk (dkX12_count (101, .ireturn, 1) (pgm 32 rfl))
      | 2, hkq =>
        obtain rfl := Option.some.inj hkq
        refine ⟨68, 102, rfl, rfl, ?_⟩
        refine so_aload_n (i := 0) X 0 (dkX12_count (102, .aload_n 0, 1) (pgm 33 rfl)) rfl rfl ?_
        refine sf_getR X ff_12_0 lk_1702 hk (dkX12_count (103, .getfield 9, 3) (pgm 34 rfl)) ?_
        refine so_iconst (v := (2 : Int32)) X (dkX12_count (106, .iconst 2, 1) (pgm 35 rfl)) ic_2 ?_
        refine so_iald X (rk_12_0 this hk) (dkX12_count (107, .iaload, 1) (pgm 36 rfl)) (fun x8 => ?_)
        exact so_iret X hr hlk (dkX12_count (108, .ireturn, 1) (pgm 37 rfl))
      | 3, hkq =>
        obtain rfl := Option.some.inj hkq
        refine ⟨75, 109, rfl, rfl, ?_⟩
        refine so_aload_n (i := 0) X 0 (dkX12_count (109, .aload_n 0, 1) (pgm 38 rfl)) rfl rfl ?_
        refine sf_getR X ff_12_0 lk_1702 hk (dkX12_count (110, .getfield 9, 3) (pgm 39 rfl)) ?_
        refine so_iconst (v := (3 : Int32)) X (dkX12_count (113, .iconst 3, 1) (pgm 40 rfl)) ic_3 ?_
        refine so_iald X (rk_12_0 this hk) (dkX12_count (114, .iaload, 1) (pgm 41 rfl)) (fun x9 => ?_)
        exact so_iret X hr hlk (dkX12_count (115, .ireturn, 1) (pgm 42 rfl))
      | 4, hkq =>
        obtain rfl := Option.some.inj hkq
        refine ⟨82, 116, rfl, rfl, ?_⟩
        refine so_aload_n (i := 0) X 0 (dkX12_count (116, .aload_n 0, 1) (pgm 43 rfl)) rfl rfl ?_
        refine sf_getR X ff_12_0 lk_1702 hk (dkX12_count (117, .getfield 9, 3) (pgm 44 rfl)) ?_
        refine so_iconst (v := (4 : Int32)) X (dkX12_count (120, .iconst 4, 1) (pgm 45 rfl)) ic_4 ?_
        refine so_iald X (rk_12_0 this hk) (dkX12_count (121, .iaload, 1) (pgm 46 rfl)) (fun x10 => ?_)
        exact so_iret X hr hlk (dkX12_count (122, .ireturn, 1) (pgm 47 rfl))
      | 5, hkq =>
        obtain rfl := Option.some.inj hkq
        refine ⟨89, 123, rfl, rfl, ?_⟩
        refine so_aload_n (i := 0) X 0 (dkX12_count (123, .aload_n 0, 1) (pgm 48 rfl)) rfl rfl ?_
        refine sf_getR X ff_12_0 lk_1702 hk (dkX12_count (124, .getfield 9, 3) (pgm 49 rfl)) ?_
        refine so_iconst (v := (5 : Int32)) X (dkX12_count (127, .iconst 5, 1) (pgm 50 rfl)) ic_5 ?_
        refine so_iald X (rk_12_0 this hk) (dkX12_count (128, .iaload, 1) (pgm 51 rfl)) (fun x11 => ?_)
        exact so_iret X hr hlk (dkX12_count (129, .ireturn, 1) (pgm 52 rfl))
      | 6, hkq =>
        obtain rfl := Option.some.inj hkq
        refine ⟨96, 130, rfl, rfl, ?_⟩
        refine so_aload_n (i := 0) X 0 (dkX12_count (130, .aload_n 0, 1) (pgm 53 rfl)) rfl rfl ?_
        refine sf_getR X ff_12_0 lk_1702 hk (dkX12_count (131, .getfield 9, 3) (pgm 54 rfl)) ?_
        refine so_bipush (v := (7 : Int32)) X (dkX12_count (134, .bipush 7, 2) (pgm 55 rfl)) bp_7 ?_
        refine so_iald X (rk_12_0 this hk) (dkX12_count (136, .iaload, 1) (pgm 56 rfl)) (fun x12 => ?_)
        refine so_callS (n := 1) (As := [.int x12]) X (ct_X12_size l x12 h5 ) lk_1687 lk_1688 lk_134 lk_1689 (by decide +kernel) rfl rfl rfl (rm_ok (by omega) (by decide)) ⟨Nat.zero_le _, Nat.zero_le _⟩ (Nat.le_of_ble_eq_true rfl) (dkX12_count (137, .invokestatic 269, 3) (pgm 57 rfl)) (fun r13 h14 => ?_) rfl
        exact so_iret X hr hlk (dkX12_count (140, .ireturn, 1) (pgm 58 rfl))
      | 7, hkq =>
        obtain rfl := Option.some.inj hkq
        refine ⟨107, 141, rfl, rfl, ?_⟩
        refine so_iload_n (i := 2) X 2 (dkX12_count (141, .iload_n 2, 1) (pgm 59 rfl)) rfl rfl ?_
        exact so_iret X hr hlk (dkX12_count (142, .ireturn, 1) (pgm 60 rfl))
      | 8, hkq =>
        obtain rfl := Option.some.inj hkq
        refine ⟨109, 143, rfl, rfl, ?_⟩
        refine so_aload_n (i := 0) X 0 (dkX12_count (143, .aload_n 0, 1) (pgm 61 rfl)) rfl rfl ?_
        refine sf_getR X ff_12_0 lk_1702 hk (dkX12_count (144, .getfield 9, 3) (pgm 62 rfl)) ?_
        refine so_bipush (v := (6 : Int32)) X (dkX12_count (147, .bipush 6, 2) (pgm 63 rfl)) bp_6 ?_
        refine so_iald X (rk_12_0 this hk) (dkX12_count (149, .iaload, 1) (pgm 64 rfl)) (fun x15 => ?_)
        exact so_iret X hr hlk (dkX12_count (150, .ireturn, 1) (pgm 65 rfl))
      | 9, hkq =>
        obtain rfl := Option.some.inj hkq
        refine ⟨117, 151, rfl, rfl, ?_⟩
        refine so_aload_n (i := 0) X 0 (dkX12_count (151, .aload_n 0, 1) (pgm 66 rfl)) rfl rfl ?_
        refine sf_getI X ff_12_7 lk_1709 hk (dkX12_count (152, .getfield 95, 3) (pgm 67 rfl)) ?_
        exact so_iret X hr hlk (dkX12_count (155, .ireturn, 1) (pgm 68 rfl))
      | kq + 10, hkq => simp at hkq
  refine so_pick (L' := [(0, .ref this), (1, .int a1), (2, .int x2), (3, .int x3)]) X [2, 3, 1, 0] rfl ?_
  refine so_loop (body := b_X12_count_9 this j33) (fun (s9 : Int32 × Int32) => [(0, .ref this), (1, .int a1), (2, .int s9.1), (3, .int s9.2)]) (fun rec9 hrec9 s9 hh9 => ?_) FU (x2, x3) h1
  unfold b_X12_count_9
  refine so_iload_n (i := 3) X 3 (dkX12_count (9, .iload_n 3, 1) (pgm 7 rfl)) rfl rfl ?_
  refine so_bipush (v := (6 : Int32)) X (dkX12_count (10, .bipush 6, 2) (pgm 8 rfl)) bp_6 ?_
  refine so_icmp_ge (tgt := 33) X (dkX12_count (12, .if_icmp .ge 21, 3) (pgm 9 rfl)) rfl (fun _ => ?_) (fun _ => ?_)
  · exact so_pick X [0, 1, 2] rfl (hj33 s9.1 hh9)
  · refine so_iload_n (i := 2) X 2 (dkX12_count (15, .iload_n 2, 1) (pgm 10 rfl)) rfl rfl ?_
    refine so_aload_n (i := 0) X 0 (dkX12_count (16, .aload_n 0, 1) (pgm 11 rfl)) rfl rfl ?_
    refine sf_getR X ff_12_0 lk_1702 hk (dkX12_count (17, .getfield 9, 3) (pgm 12 rfl)) ?_
    refine so_bipush (v := (18 : Int32)) X (dkX12_count (20, .bipush 18, 2) (pgm 13 rfl)) bp_18 ?_
    refine so_iload_n (i := 3) X 3 (dkX12_count (22, .iload_n 3, 1) (pgm 14 rfl)) rfl rfl ?_
    refine so_iadd X (dkX12_count (23, .iadd, 1) (pgm 15 rfl)) ?_
    refine so_iald X (rk_12_0 this hk) (dkX12_count (24, .iaload, 1) (pgm 16 rfl)) (fun x16 => ?_)
    refine so_iadd X (dkX12_count (25, .iadd, 1) (pgm 17 rfl)) ?_
    refine so_istore_n (i := 2) X (dkX12_count (26, .istore_n 2, 1) (pgm 18 rfl)) rfl (by decide) (Lf := fun x17 => [(2, .int x17), (0, .ref this), (1, .int a1), (3, .int s9.2)]) (fun _ => rfl) (fun x17 => ?_)
    refine so_iinc (i := 3) X 3 (dkX12_count (27, .iinc 3 1, 3) (pgm 19 rfl)) rfl rfl (by decide) (Lf := fun x18 => [(3, .int x18), (2, .int x17), (0, .ref this), (1, .int a1)]) (fun _ => rfl) (fun x18 => ?_)
    refine so_goto (tgt := 9) X (dkX12_count (30, .goto (-21), 3) (pgm 20 rfl)) rfl ?_
    exact so_pick X [2, 3, 1, 0] rfl (hrec9 (x17, x18) hh9)
def pgJ6_bitCount_0f7a4 : List (Nat × Instr × Nat) := [(0, .iload_n 0, 1), (1, .iload_n 0, 1), (2, .iconst 1, 1), (3, .iushr, 1), (4, .ldc_w 265, 3), (7, .iand, 1), (8, .isub, 1), (9, .istore_n 0, 1), (10, .iload_n 0, 1), (11, .ldc_w 266, 3), (14, .iand, 1), (15, .iload_n 0, 1), (16, .iconst 2, 1), (17, .iushr, 1), (18, .ldc_w 266, 3), (21, .iand, 1), (22, .iadd, 1), (23, .istore_n 0, 1), (24, .iload_n 0, 1), (25, .iload_n 0, 1), (26, .iconst 4, 1), (27, .iushr, 1), (28, .iadd, 1), (29, .ldc_w 267, 3), (32, .iand, 1), (33, .istore_n 0, 1), (34, .iload_n 0, 1), (35, .iload_n 0, 1), (36, .bipush 8, 2), (38, .iushr, 1), (39, .iadd, 1), (40, .istore_n 0, 1), (41, .iload_n 0, 1), (42, .iload_n 0, 1), (43, .bipush 16, 2), (45, .iushr, 1), (46, .iadd, 1), (47, .istore_n 0, 1), (48, .iload_n 0, 1), (49, .bipush 63, 2), (51, .iand, 1), (52, .ireturn, 1)]
theorem dkJ6_bitCount_0f7a4 : ∀ q ∈ pgJ6_bitCount_0f7a4, decode cJ6_bitCount_0f7a4 q.1 = .ok q.2 := by decide +kernel
def f_J6_bitCount_0f7a4 (a1 : Int32) (h0 : PH) : Option (Int32 × PH) :=
  lt (a1 - (((a1.toUInt32 >>> ((1 : Int32).toUInt32 &&& Int32.toUInt32 31)).toInt32) &&& (1431655765 : Int32))) (fun (x1 : Int32) => lt ((x1 &&& (858993459 : Int32)) + (((x1.toUInt32 >>> ((2 : Int32).toUInt32 &&& Int32.toUInt32 31)).toInt32) &&& (858993459 : Int32))) (fun (x2 : Int32) => lt ((x2 + ((x2.toUInt32 >>> ((4 : Int32).toUInt32 &&& Int32.toUInt32 31)).toInt32)) &&& (252645135 : Int32)) (fun (x3 : Int32) => lt (x3 + ((x3.toUInt32 >>> ((8 : Int32).toUInt32 &&& Int32.toUInt32 31)).toInt32)) (fun (x4 : Int32) => lt (x4 + ((x4.toUInt32 >>> ((16 : Int32).toUInt32 &&& Int32.toUInt32 31)).toInt32)) (fun (x5 : Int32) => some ((x5 &&& (63 : Int32)), h0))))))
set_option maxRecDepth 100000 in
set_option maxHeartbeats 4000000 in
theorem ct_J6_bitCount_0f7a4 (l : Launch) (a1 : Int32) (h0 : PH)  : CT mkI l yJ6_bitCount_0f7a4 cJ6_bitCount_0f7a4 1 (some .int) (rmd 0) [.int a1] h0 (f_J6_bitCount_0f7a4 a1 h0) := by
  refine ct_of (by decide) (Nat.le_of_ble_eq_true rfl) ?_
  intro p e s m args below meth c D cA ad A X hr hlk
  have X : Cx p s m args c RJ6 cJ6_bitCount_0f7a4 1 D cA ad A := X
  unfold f_J6_bitCount_0f7a4
  refine so_pick (L' := [(0, .int a1)]) X [0] rfl ?_
  refine so_iload_n (i := 0) X 0 (dkJ6_bitCount_0f7a4 (0, .iload_n 0, 1) (pgm 0 rfl)) rfl rfl ?_
  refine so_iload_n (i := 0) X 0 (dkJ6_bitCount_0f7a4 (1, .iload_n 0, 1) (pgm 1 rfl)) rfl rfl ?_
  refine so_iconst (v := (1 : Int32)) X (dkJ6_bitCount_0f7a4 (2, .iconst 1, 1) (pgm 2 rfl)) ic_1 ?_
  refine so_iushr X (dkJ6_bitCount_0f7a4 (3, .iushr, 1) (pgm 3 rfl)) rfl ?_
  refine so_ldcw X lk_637 (dkJ6_bitCount_0f7a4 (4, .ldc_w 265, 3) (pgm 4 rfl)) ?_
  refine so_iand X (dkJ6_bitCount_0f7a4 (7, .iand, 1) (pgm 5 rfl)) ?_
  refine so_isub X (dkJ6_bitCount_0f7a4 (8, .isub, 1) (pgm 6 rfl)) ?_
  refine so_istore_n (i := 0) X (dkJ6_bitCount_0f7a4 (9, .istore_n 0, 1) (pgm 7 rfl)) rfl (by decide) (Lf := fun x1 => [(0, .int x1)]) (fun _ => rfl) (fun x1 => ?_)
  refine so_iload_n (i := 0) X 0 (dkJ6_bitCount_0f7a4 (10, .iload_n 0, 1) (pgm 8 rfl)) rfl rfl ?_
  refine so_ldcw X lk_638 (dkJ6_bitCount_0f7a4 (11, .ldc_w 266, 3) (pgm 9 rfl)) ?_
  refine so_iand X (dkJ6_bitCount_0f7a4 (14, .iand, 1) (pgm 10 rfl)) ?_
  refine so_iload_n (i := 0) X 0 (dkJ6_bitCount_0f7a4 (15, .iload_n 0, 1) (pgm 11 rfl)) rfl rfl ?_
  refine so_iconst (v := (2 : Int32)) X (dkJ6_bitCount_0f7a4 (16, .iconst 2, 1) (pgm 12 rfl)) ic_2 ?_
  refine so_iushr X (dkJ6_bitCount_0f7a4 (17, .iushr, 1) (pgm 13 rfl)) rfl ?_
  refine so_ldcw X lk_638 (dkJ6_bitCount_0f7a4 (18, .ldc_w 266, 3) (pgm 14 rfl)) ?_
  refine so_iand X (dkJ6_bitCount_0f7a4 (21, .iand, 1) (pgm 15 rfl)) ?_
  refine so_iadd X (dkJ6_bitCount_0f7a4 (22, .iadd, 1) (pgm 16 rfl)) ?_
  refine so_istore_n (i := 0) X (dkJ6_bitCount_0f7a4 (23, .istore_n 0, 1) (pgm 17 rfl)) rfl (by decide) (Lf := fun x2 => [(0, .int x2)]) (fun _ => rfl) (fun x2 => ?_)
  refine so_iload_n (i := 0) X 0 (dkJ6_bitCount_0f7a4 (24, .iload_n 0, 1) (pgm 18 rfl)) rfl rfl ?_
  refine so_iload_n (i := 0) X 0 (dkJ6_bitCount_0f7a4 (25, .iload_n 0, 1) (pgm 19 rfl)) rfl rfl ?_
  refine so_iconst (v := (4 : Int32)) X (dkJ6_bitCount_0f7a4 (26, .iconst 4, 1) (pgm 20 rfl)) ic_4 ?_
  refine so_iushr X (dkJ6_bitCount_0f7a4 (27, .iushr, 1) (pgm 21 rfl)) rfl ?_
  refine so_iadd X (dkJ6_bitCount_0f7a4 (28, .iadd, 1) (pgm 22 rfl)) ?_
  refine so_ldcw X lk_639 (dkJ6_bitCount_0f7a4 (29, .ldc_w 267, 3) (pgm 23 rfl)) ?_
  refine so_iand X (dkJ6_bitCount_0f7a4 (32, .iand, 1) (pgm 24 rfl)) ?_
  refine so_istore_n (i := 0) X (dkJ6_bitCount_0f7a4 (33, .istore_n 0, 1) (pgm 25 rfl)) rfl (by decide) (Lf := fun x3 => [(0, .int x3)]) (fun _ => rfl) (fun x3 => ?_)
  refine so_iload_n (i := 0) X 0 (dkJ6_bitCount_0f7a4 (34, .iload_n 0, 1) (pgm 26 rfl)) rfl rfl ?_
  refine so_iload_n (i := 0) X 0 (dkJ6_bitCount_0f7a4 (35, .iload_n 0, 1) (pgm 27 rfl)) rfl rfl ?_
  refine so_bipush (v := (8 : Int32)) X (dkJ6_bitCount_0f7a4 (36, .bipush 8, 2) (pgm 28 rfl)) bp_8 ?_
  refine so_iushr X (dkJ6_bitCount_0f7a4 (38, .iushr, 1) (pgm 29 rfl)) rfl ?_
  refine so_iadd X (dkJ6_bitCount_0f7a4 (39, .iadd, 1) (pgm 30 rfl)) ?_
  refine so_istore_n (i := 0) X (dkJ6_bitCount_0f7a4 (40, .istore_n 0, 1) (pgm 31 rfl)) rfl (by decide) (Lf := fun x4 => [(0, .int x4)]) (fun _ => rfl) (fun x4 => ?_)
  refine so_iload_n (i := 0) X 0 (dkJ6_bitCount_0f7a4 (41, .iload_n 0, 1) (pgm 32 rfl)) rfl rfl ?_
  refine so_iload_n (i := 0) X 0 (dkJ6_bitCount_0f7a4 (42, .iload_n 0, 1) (pgm 33 rfl)) rfl rfl ?_
  refine so_bipush (v := (16 : Int32)) X (dkJ6_bitCount_0f7a4 (43, .bipush 16, 2) (pgm 34 rfl)) bp_16 ?_
  refine so_iushr X (dkJ6_bitCount_0f7a4 (45, .iushr, 1) (pgm 35 rfl)) rfl ?_
  refine so_iadd X (dkJ6_bitCount_0f7a4 (46, .iadd, 1) (pgm 36 rfl)) ?_
  refine so_istore_n (i := 0) X (dkJ6_bitCount_0f7a4 (47, .istore_n 0, 1) (pgm 37 rfl)) rfl (by decide) (Lf := fun x5 => [(0, .int x5)]) (fun _ => rfl) (fun x5 => ?_)
  refine so_iload_n (i := 0) X 0 (dkJ6_bitCount_0f7a4 (48, .iload_n 0, 1) (pgm 38 rfl)) rfl rfl ?_
  refine so_bipush (v := (63 : Int32)) X (dkJ6_bitCount_0f7a4 (49, .bipush 63, 2) (pgm 39 rfl)) bp_63 ?_
  refine so_iand X (dkJ6_bitCount_0f7a4 (51, .iand, 1) (pgm 40 rfl)) ?_
  exact so_iret X hr hlk (dkJ6_bitCount_0f7a4 (52, .ireturn, 1) (pgm 41 rfl))
def pgJ7_fill_d0a16 : List (Nat × Instr × Nat) := [(0, .iconst 0, 1), (1, .istore_n 3, 1), (2, .aload_n 0, 1), (3, .arraylength, 1), (4, .istore 4, 2), (6, .iload_n 3, 1), (7, .iload 4, 2), (9, .if_icmp .ge 13, 3), (12, .aload_n 0, 1), (13, .iload_n 3, 1), (14, .lload_n 1, 1), (15, .lastore, 1), (16, .iinc 3 1, 3), (19, .goto (-13), 3), (22, .return_, 1)]
theorem dkJ7_fill_d0a16 : ∀ q ∈ pgJ7_fill_d0a16, decode cJ7_fill_d0a16 q.1 = .ok q.2 := by decide +kernel
def b_J7_fill_d0a16_6 (a1 : Nat) (n1 : Nat) (a2 : Int64) (x2 : Int32) (rec6 : (Int32) → PH → Option (Unit × PH)) (s6 : Int32) (hh6 : PH) : Option (Unit × PH) :=
  if x2 ≤ s6 then (some ((), hh6)) else (stL hh6 a1 n1 s6 a2 (fun (h3 : PH) => lt (s6 + Int32.ofInt 1) (fun (x4 : Int32) => rec6 x4 h3)))
def f_J7_fill_d0a16 (a1 : Nat) (n1 : Nat) (a2 : Int64) (h0 : PH) : Option (Unit × PH) :=
  lt (0 : Int32) (fun (x1 : Int32) => lt (Int32.ofNat n1) (fun (x2 : Int32) => lp (b_J7_fill_d0a16_6 a1 n1 a2 x2) FU x1 h0))
set_option maxRecDepth 100000 in
set_option maxHeartbeats 4000000 in
theorem ct_J7_fill_d0a16 (l : Launch) (a1 : Nat) (n1 : Nat) (a2 : Int64) (h0 : PH) (hk1 : kd a1 = (16, n1)) : CT mkV l yJ7_fill_d0a16 cJ7_fill_d0a16 5 none (rmd 0) [.ref a1, .long a2] h0 (f_J7_fill_d0a16 a1 n1 a2 h0) := by
  refine ct_of (by decide) (Nat.le_of_ble_eq_true rfl) ?_
  intro p e s m args below meth c D cA ad A X hr hlk
  have X : Cx p s m args c RJ7 cJ7_fill_d0a16 5 D cA ad A := X
  unfold f_J7_fill_d0a16
  refine so_pick (L' := [(0, .ref a1), (1, .long a2)]) X [0, 1] rfl ?_
  refine so_iconst (v := (0 : Int32)) X (dkJ7_fill_d0a16 (0, .iconst 0, 1) (pgm 0 rfl)) ic_0 ?_
  refine so_istore_n (i := 3) X (dkJ7_fill_d0a16 (1, .istore_n 3, 1) (pgm 1 rfl)) rfl (by decide) (Lf := fun x1 => [(3, .int x1), (0, .ref a1), (1, .long a2)]) (fun _ => rfl) (fun x1 => ?_)
  refine so_aload_n (i := 0) X 1 (dkJ7_fill_d0a16 (2, .aload_n 0, 1) (pgm 2 rfl)) rfl rfl ?_
  refine so_alen X hk1 (by decide) (by decide) 3 (fun _ => ⟨_, rfl⟩) (dkJ7_fill_d0a16 (3, .arraylength, 1) (pgm 3 rfl)) ?_
  refine so_istore (i := 4) X (dkJ7_fill_d0a16 (4, .istore 4, 2) (pgm 4 rfl)) (by decide) (Lf := fun x2 => [(4, .int x2), (3, .int x1), (0, .ref a1), (1, .long a2)]) (fun _ => rfl) (fun x2 => ?_)
  refine so_pick (L' := [(0, .ref a1), (1, .long a2), (3, .int x1), (4, .int x2)]) X [2, 3, 1, 0] rfl ?_
  refine so_loop (body := b_J7_fill_d0a16_6 a1 n1 a2 x2) (fun (s6 : Int32) => [(0, .ref a1), (1, .long a2), (3, .int s6), (4, .int x2)]) (fun rec6 hrec6 s6 hh6 => ?_) FU x1 h0
  unfold b_J7_fill_d0a16_6
  refine so_iload_n (i := 3) X 2 (dkJ7_fill_d0a16 (6, .iload_n 3, 1) (pgm 5 rfl)) rfl rfl ?_
  refine so_iload (i := 4) X 3 (dkJ7_fill_d0a16 (7, .iload 4, 2) (pgm 6 rfl)) rfl ?_
  refine so_icmp_ge (tgt := 22) X (dkJ7_fill_d0a16 (9, .if_icmp .ge 13, 3) (pgm 7 rfl)) rfl (fun _ => ?_) (fun _ => ?_)
  · exact so_vret X hr hlk (dkJ7_fill_d0a16 (22, .return_, 1) (pgm 14 rfl))
  · refine so_aload_n (i := 0) X 0 (dkJ7_fill_d0a16 (12, .aload_n 0, 1) (pgm 8 rfl)) rfl rfl ?_
    refine so_iload_n (i := 3) X 2 (dkJ7_fill_d0a16 (13, .iload_n 3, 1) (pgm 9 rfl)) rfl rfl ?_
    refine so_lload_n (i := 1) X 1 (dkJ7_fill_d0a16 (14, .lload_n 1, 1) (pgm 10 rfl)) rfl rfl ?_
    refine so_last X hk1 (dkJ7_fill_d0a16 (15, .lastore, 1) (pgm 11 rfl)) (fun h3 => ?_)
    refine so_iinc (i := 3) X 2 (dkJ7_fill_d0a16 (16, .iinc 3 1, 3) (pgm 12 rfl)) rfl rfl (by decide) (Lf := fun x4 => [(3, .int x4), (0, .ref a1), (1, .long a2), (4, .int x2)]) (fun _ => rfl) (fun x4 => ?_)
    refine so_goto (tgt := 6) X (dkJ7_fill_d0a16 (19, .goto (-13), 3) (pgm 13 rfl)) rfl ?_
    exact so_pick X [1, 2, 0, 3] rfl (hrec6 x4 h3)
def pgJ7_fill_53178 : List (Nat × Instr × Nat) := [(0, .iconst 0, 1), (1, .istore_n 2, 1), (2, .aload_n 0, 1), (3, .arraylength, 1), (4, .istore_n 3, 1), (5, .iload_n 2, 1), (6, .iload_n 3, 1), (7, .if_icmp .ge 13, 3), (10, .aload_n 0, 1), (11, .iload_n 2, 1), (12, .iload_n 1, 1), (13, .iastore, 1), (14, .iinc 2 1, 3), (17, .goto (-12), 3), (20, .return_, 1)]
theorem dkJ7_fill_53178 : ∀ q ∈ pgJ7_fill_53178, decode cJ7_fill_53178 q.1 = .ok q.2 := by decide +kernel
def b_J7_fill_53178_5 (a1 : Nat) (n1 : Nat) (a2 : Int32) (x2 : Int32) (rec5 : (Int32) → PH → Option (Unit × PH)) (s5 : Int32) (hh5 : PH) : Option (Unit × PH) :=
  if x2 ≤ s5 then (some ((), hh5)) else (stI hh5 a1 n1 s5 a2 (fun (h3 : PH) => lt (s5 + Int32.ofInt 1) (fun (x4 : Int32) => rec5 x4 h3)))
def f_J7_fill_53178 (a1 : Nat) (n1 : Nat) (a2 : Int32) (h0 : PH) : Option (Unit × PH) :=
  lt (0 : Int32) (fun (x1 : Int32) => lt (Int32.ofNat n1) (fun (x2 : Int32) => lp (b_J7_fill_53178_5 a1 n1 a2 x2) FU x1 h0))
set_option maxRecDepth 100000 in
set_option maxHeartbeats 4000000 in
theorem ct_J7_fill_53178 (l : Launch) (a1 : Nat) (n1 : Nat) (a2 : Int32) (h0 : PH) (hk1 : kd a1 = (13, n1)) : CT mkV l yJ7_fill_53178 cJ7_fill_53178 4 none (rmd 0) [.ref a1, .int a2] h0 (f_J7_fill_53178 a1 n1 a2 h0) := by
  refine ct_of (by decide) (Nat.le_of_ble_eq_true rfl) ?_
  intro p e s m args below meth c D cA ad A X hr hlk
  have X : Cx p s m args c RJ7 cJ7_fill_53178 4 D cA ad A := X
  unfold f_J7_fill_53178
  refine so_pick (L' := [(0, .ref a1), (1, .int a2)]) X [0, 1] rfl ?_
  refine so_iconst (v := (0 : Int32)) X (dkJ7_fill_53178 (0, .iconst 0, 1) (pgm 0 rfl)) ic_0 ?_
  refine so_istore_n (i := 2) X (dkJ7_fill_53178 (1, .istore_n 2, 1) (pgm 1 rfl)) rfl (by decide) (Lf := fun x1 => [(2, .int x1), (0, .ref a1), (1, .int a2)]) (fun _ => rfl) (fun x1 => ?_)
  refine so_aload_n (i := 0) X 1 (dkJ7_fill_53178 (2, .aload_n 0, 1) (pgm 2 rfl)) rfl rfl ?_
  refine so_alen X hk1 (by decide) (by decide) 0 (fun _ => ⟨_, rfl⟩) (dkJ7_fill_53178 (3, .arraylength, 1) (pgm 3 rfl)) ?_
  refine so_istore_n (i := 3) X (dkJ7_fill_53178 (4, .istore_n 3, 1) (pgm 4 rfl)) rfl (by decide) (Lf := fun x2 => [(3, .int x2), (2, .int x1), (0, .ref a1), (1, .int a2)]) (fun _ => rfl) (fun x2 => ?_)
  refine so_pick (L' := [(0, .ref a1), (1, .int a2), (2, .int x1), (3, .int x2)]) X [2, 3, 1, 0] rfl ?_
  refine so_loop (body := b_J7_fill_53178_5 a1 n1 a2 x2) (fun (s5 : Int32) => [(0, .ref a1), (1, .int a2), (2, .int s5), (3, .int x2)]) (fun rec5 hrec5 s5 hh5 => ?_) FU x1 h0
  unfold b_J7_fill_53178_5
  refine so_iload_n (i := 2) X 2 (dkJ7_fill_53178 (5, .iload_n 2, 1) (pgm 5 rfl)) rfl rfl ?_
  refine so_iload_n (i := 3) X 3 (dkJ7_fill_53178 (6, .iload_n 3, 1) (pgm 6 rfl)) rfl rfl ?_
  refine so_icmp_ge (tgt := 20) X (dkJ7_fill_53178 (7, .if_icmp .ge 13, 3) (pgm 7 rfl)) rfl (fun _ => ?_) (fun _ => ?_)
  · exact so_vret X hr hlk (dkJ7_fill_53178 (20, .return_, 1) (pgm 14 rfl))
  · refine so_aload_n (i := 0) X 0 (dkJ7_fill_53178 (10, .aload_n 0, 1) (pgm 8 rfl)) rfl rfl ?_
    refine so_iload_n (i := 2) X 2 (dkJ7_fill_53178 (11, .iload_n 2, 1) (pgm 9 rfl)) rfl rfl ?_
    refine so_iload_n (i := 1) X 1 (dkJ7_fill_53178 (12, .iload_n 1, 1) (pgm 10 rfl)) rfl rfl ?_
    refine so_iast X hk1 (dkJ7_fill_53178 (13, .iastore, 1) (pgm 11 rfl)) (fun h3 => ?_)
    refine so_iinc (i := 2) X 2 (dkJ7_fill_53178 (14, .iinc 2 1, 3) (pgm 12 rfl)) rfl rfl (by decide) (Lf := fun x4 => [(2, .int x4), (0, .ref a1), (1, .int a2), (3, .int x2)]) (fun _ => rfl) (fun x4 => ?_)
    refine so_goto (tgt := 5) X (dkJ7_fill_53178 (17, .goto (-12), 3) (pgm 13 rfl)) rfl ?_
    exact so_pick X [1, 2, 0, 3] rfl (hrec5 x4 h3)
def pgX0_begin : List (Nat × Instr × Nat) := [(0, .aload_n 0, 1), (1, .iconst 1, 1), (2, .iload_n 1, 1), (3, .ishl, 1), (4, .iconst 1, 1), (5, .isub, 1), (6, .putfield 23, 3), (9, .aload_n 0, 1), (10, .getfield 9, 3), (13, .iconst 0, 1), (14, .invokestatic 27, 3), (17, .aload_n 0, 1), (18, .getfield 15, 3), (21, .iconst 0, 1), (22, .invokestatic 27, 3), (25, .aload_n 0, 1), (26, .iconst 0, 1), (27, .putfield 33, 3), (30, .aload_n 0, 1), (31, .iconst 0, 1), (32, .putfield 36, 3), (35, .return_, 1)]
theorem dkX0_begin : ∀ q ∈ pgX0_begin, decode cX0_begin q.1 = .ok q.2 := by decide +kernel
def f_X0_begin (this : Nat) (a1 : Int32) (h0 : PH) : Option (Unit × PH) :=
  lt (pI h0 this 0 (((1 : Int32) <<< (a1 &&& 31)) - (1 : Int32))) (fun (h1 : PH) => cb (f_J7_fill_53178 (rt this 1) 10 (0 : Int32) h1) (fun (r2 : Unit) (h3 : PH) => cb (f_J7_fill_53178 (rt this 2) 6 (0 : Int32) h3) (fun (r4 : Unit) (h5 : PH) => lt (pI h5 this 3 (0 : Int32)) (fun (h6 : PH) => lt (pI h6 this 4 (0 : Int32)) (fun (h7 : PH) => some ((), h7))))))
set_option maxRecDepth 100000 in
set_option maxHeartbeats 4000000 in
theorem ct_X0_begin (l : Launch) (this : Nat) (a1 : Int32) (h0 : PH) (hk : (kd this).1 = 0) : CT mkV l yX0_begin cX0_begin 2 none (rmd 1) [.ref this, .int a1] h0 (f_X0_begin this a1 h0) := by
  refine ct_of (by decide) (Nat.le_of_ble_eq_true rfl) ?_
  intro p e s m args below meth c D cA ad A X hr hlk
  have X : Cx p s m args c RX0 cX0_begin 2 D cA ad A := X
  unfold f_X0_begin
  refine so_pick (L' := [(0, .ref this), (1, .int a1)]) X [0, 1] rfl ?_
  refine so_aload_n (i := 0) X 0 (dkX0_begin (0, .aload_n 0, 1) (pgm 0 rfl)) rfl rfl ?_
  refine so_iconst (v := (1 : Int32)) X (dkX0_begin (1, .iconst 1, 1) (pgm 1 rfl)) ic_1 ?_
  refine so_iload_n (i := 1) X 1 (dkX0_begin (2, .iload_n 1, 1) (pgm 2 rfl)) rfl rfl ?_
  refine so_ishl X (dkX0_begin (3, .ishl, 1) (pgm 3 rfl)) ?_
  refine so_iconst (v := (1 : Int32)) X (dkX0_begin (4, .iconst 1, 1) (pgm 4 rfl)) ic_1 ?_
  refine so_isub X (dkX0_begin (5, .isub, 1) (pgm 5 rfl)) ?_
  refine sf_putI X ff_0_0 ft_0 rfl lk_335 hk rfl rfl (dkX0_begin (6, .putfield 23, 3) (pgm 6 rfl)) (fun h1 => ?_)
  refine so_aload_n (i := 0) X 0 (dkX0_begin (9, .aload_n 0, 1) (pgm 7 rfl)) rfl rfl ?_
  refine sf_getR X ff_0_1 lk_339 hk (dkX0_begin (10, .getfield 9, 3) (pgm 8 rfl)) ?_
  refine so_iconst (v := (0 : Int32)) X (dkX0_begin (13, .iconst 0, 1) (pgm 9 rfl)) ic_0 ?_
  refine so_callS (n := 2) (As := [.ref (rt this 1), .int (0 : Int32)]) X (ct_J7_fill_53178 l (rt this 1) 10 (0 : Int32) h1 (rk_0_1 this hk)) lk_1111 lk_368 lk_127 lk_369 (by decide +kernel) rfl rfl rfl (rm_ok (by omega) (by decide)) ⟨Nat.zero_le _, Nat.zero_le _⟩ (Nat.le_of_ble_eq_true rfl) (dkX0_begin (14, .invokestatic 27, 3) (pgm 10 rfl)) (fun r2 h3 => ?_) rfl
  refine so_aload_n (i := 0) X 0 (dkX0_begin (17, .aload_n 0, 1) (pgm 11 rfl)) rfl rfl ?_
  refine sf_getR X ff_0_2 lk_342 hk (dkX0_begin (18, .getfield 15, 3) (pgm 12 rfl)) ?_
  refine so_iconst (v := (0 : Int32)) X (dkX0_begin (21, .iconst 0, 1) (pgm 13 rfl)) ic_0 ?_
  refine so_callS (n := 2) (As := [.ref (rt this 2), .int (0 : Int32)]) X (ct_J7_fill_53178 l (rt this 2) 6 (0 : Int32) h3 (rk_0_2 this hk)) lk_1111 lk_368 lk_127 lk_369 (by decide +kernel) rfl rfl rfl (rm_ok (by omega) (by decide)) ⟨Nat.zero_le _, Nat.zero_le _⟩ (Nat.le_of_ble_eq_true rfl) (dkX0_begin (22, .invokestatic 27, 3) (pgm 14 rfl)) (fun r4 h5 => ?_) rfl
  refine so_aload_n (i := 0) X 0 (dkX0_begin (25, .aload_n 0, 1) (pgm 15 rfl)) rfl rfl ?_
  refine so_iconst (v := (0 : Int32)) X (dkX0_begin (26, .iconst 0, 1) (pgm 16 rfl)) ic_0 ?_
  refine sf_putI X ff_0_3 ft_0 rfl lk_344 hk rfl rfl (dkX0_begin (27, .putfield 33, 3) (pgm 17 rfl)) (fun h6 => ?_)
  refine so_aload_n (i := 0) X 0 (dkX0_begin (30, .aload_n 0, 1) (pgm 18 rfl)) rfl rfl ?_
  refine so_iconst (v := (0 : Int32)) X (dkX0_begin (31, .iconst 0, 1) (pgm 19 rfl)) ic_0 ?_
  refine sf_putI X ff_0_4 ft_0 rfl lk_346 hk rfl rfl (dkX0_begin (32, .putfield 36, 3) (pgm 20 rfl)) (fun h7 => ?_)
  exact so_vret X hr hlk (dkX0_begin (35, .return_, 1) (pgm 21 rfl))
def pgX1_takePart : List (Nat × Instr × Nat) := [(0, .aload_n 0, 1), (1, .iload_n 2, 1), (2, .iconst 2, 1), (3, .idiv, 1), (4, .invokevirtual 60, 3), (7, .istore_n 3, 1), (8, .iconst 0, 1), (9, .istore 4, 2), (11, .iconst 0, 1), (12, .istore 5, 2), (14, .iload 5, 2), (16, .bipush 32, 2), (18, .if_icmp .ge 30, 3), (21, .iload 5, 2), (23, .iload_n 3, 1), (24, .ishr, 1), (25, .iconst 1, 1), (26, .iand, 1), (27, .iload_n 2, 1), (28, .iconst 2, 1), (29, .irem, 1), (30, .if_icmp .ne 12, 3), (33, .iload 4, 2), (35, .iconst 1, 1), (36, .iload 5, 2), (38, .ishl, 1), (39, .ior, 1), (40, .istore 4, 2), (42, .iinc 5 1, 3), (45, .goto (-31), 3), (48, .iload_n 1, 1), (49, .iconst 5, 1), (50, .imul, 1), (51, .iload_n 1, 1), (52, .iadd, 1), (53, .istore 5, 2), (55, .aload_n 0, 1), (56, .getfield 21, 3), (59, .iload 5, 2), (61, .aaload, 1), (62, .iconst 0, 1), (63, .iload 4, 2), (65, .iastore, 1), (66, .aload_n 0, 1), (67, .getfield 24, 3), (70, .iload 5, 2), (72, .iconst 1, 1), (73, .iastore, 1), (74, .return_, 1)]
theorem dkX1_takePart : ∀ q ∈ pgX1_takePart, decode cX1_takePart q.1 = .ok q.2 := by decide +kernel
def b_X1_takePart_14 (a2 : Int32) (x3 : Int32) (j48 : Int32 → PH → Option (Unit × PH)) (rec14 : (Int32 × Int32) → PH → Option (Unit × PH)) (s14 : Int32 × Int32) (hh14 : PH) : Option (Unit × PH) :=
  if (32 : Int32) ≤ s14.2 then (j48 s14.1 hh14) else (nz (2 : Int32) (lt (fun (y12 : Int32) (h13 : PH) => lt (s14.2 + Int32.ofInt 1) (fun (x14 : Int32) => rec14 (y12, x14) h13)) (fun (j42 : Int32 → PH → Option (Unit × PH)) => if ((s14.2 >>> (x3 &&& 31)) &&& (1 : Int32)) = (a2 - a2 / (2 : Int32) * (2 : Int32)) then (lt (s14.1 ||| ((1 : Int32) <<< (s14.2 &&& 31))) (fun (x15 : Int32) => j42 x15 hh14)) else (j42 s14.1 hh14))))
def f_X1_takePart (this : Nat) (a1 : Int32) (a2 : Int32) (h0 : PH) : Option (Unit × PH) :=
  nz (2 : Int32) (cb (f_X1_placeOfCell this (a2 / (2 : Int32)) h0) (fun (r1 : Int32) (h2 : PH) => lt r1 (fun (x3 : Int32) => lt (0 : Int32) (fun (x4 : Int32) => lt (0 : Int32) (fun (x5 : Int32) => lt (fun (y6 : Int32) (h7 : PH) => lt ((a1 * (5 : Int32)) + a1) (fun (x8 : Int32) => ldR (rt this 5) 25 x8 (fun (v9 : Nat) => stI h7 v9 14 (0 : Int32) y6 (fun (h10 : PH) => stI h10 (rt this 6) 25 x8 (1 : Int32) (fun (h11 : PH) => some ((), h11)))))) (fun (j48 : Int32 → PH → Option (Unit × PH)) => lp (b_X1_takePart_14 a2 x3 j48) FU (x4, x5) h2))))))
set_option maxRecDepth 100000 in
set_option maxHeartbeats 4000000 in
theorem ct_X1_takePart (l : Launch) (this : Nat) (a1 : Int32) (a2 : Int32) (h0 : PH) (hk : (kd this).1 = 1) : CT mkV l yX1_takePart cX1_takePart 6 none (rmd 1) [.ref this, .int a1, .int a2] h0 (f_X1_takePart this a1 a2 h0) := by
  refine ct_of (by decide) (Nat.le_of_ble_eq_true rfl) ?_
  intro p e s m args below meth c D cA ad A X hr hlk
  have X : Cx p s m args c RX1 cX1_takePart 6 D cA ad A := X
  unfold f_X1_takePart
  refine so_pick (L' := [(0, .ref this), (1, .int a1), (2, .int a2)]) X [0, 1, 2] rfl ?_
  refine so_aload_n (i := 0) X 0 (dkX1_takePart (0, .aload_n 0, 1) (pgm 0 rfl)) rfl rfl ?_
  refine so_iload_n (i := 2) X 2 (dkX1_takePart (1, .iload_n 2, 1) (pgm 1 rfl)) rfl rfl ?_
  refine so_iconst (v := (2 : Int32)) X (dkX1_takePart (2, .iconst 2, 1) (pgm 2 rfl)) ic_2 ?_
  refine so_idiv X (dkX1_takePart (3, .idiv, 1) (pgm 3 rfl)) (fun _ => ?_)
  refine so_callV (n := 1) (As := [.int (a2 / (2 : Int32))]) X (ct_X1_placeOfCell l this (a2 / (2 : Int32)) h0 hk) hk (by decide) rfl lk_1424 lk_1426 lk_47 lk_131 lk_1427 (by decide +kernel) rfl rfl rfl (rm_ok (by omega) (by decide)) ⟨Nat.zero_le _, Nat.zero_le _⟩ (Nat.le_of_ble_eq_true rfl) (dkX1_takePart (4, .invokevirtual 60, 3) (pgm 4 rfl)) (fun r1 h2 => ?_) rfl
  refine so_istore_n (i := 3) X (dkX1_takePart (7, .istore_n 3, 1) (pgm 5 rfl)) rfl (by decide) (Lf := fun x3 => [(3, .int x3), (0, .ref this), (1, .int a1), (2, .int a2)]) (fun _ => rfl) (fun x3 => ?_)
  refine so_iconst (v := (0 : Int32)) X (dkX1_takePart (8, .iconst 0, 1) (pgm 6 rfl)) ic_0 ?_
  refine so_istore (i := 4) X (dkX1_takePart (9, .istore 4, 2) (pgm 7 rfl)) (by decide) (Lf := fun x4 => [(4, .int x4), (3, .int x3), (0, .ref this), (1, .int a1), (2, .int a2)]) (fun _ => rfl) (fun x4 => ?_)
  refine so_iconst (v := (0 : Int32)) X (dkX1_takePart (11, .iconst 0, 1) (pgm 8 rfl)) ic_0 ?_
  refine so_istore (i := 5) X (dkX1_takePart (12, .istore 5, 2) (pgm 9 rfl)) (by decide) (Lf := fun x5 => [(5, .int x5), (4, .int x4), (3, .int x3), (0, .ref this), (1, .int a1), (2, .int a2)]) (fun _ => rfl) (fun x5 => ?_)
  refine so_join (jf := fun (y6 : Int32) (h7 : PH) => lt ((a1 * (5 : Int32)) + a1) (fun (x8 : Int32) => ldR (rt this 5) 25 x8 (fun (v9 : Nat) => stI h7 v9 14 (0 : Int32) y6 (fun (h10 : PH) => stI h10 (rt this 6) 25 x8 (1 : Int32) (fun (h11 : PH) => some ((), h11)))))) (fun (j : Int32 → PH → Option (Unit × PH)) => ∀ (y6 : Int32) (h7 : PH), SWo (QM mkV below args s D cA ad A) p l e (rmd 1) s m args below meth c 0 0 6 D cA ad A 48 [(0, .ref this), (1, .int a1), (4, .int y6)] [] h7 (j y6 h7)) ?_ (fun j48 hj48 => ?_)
  · intro y6 h7
    refine so_iload_n (i := 1) X 1 (dkX1_takePart (48, .iload_n 1, 1) (pgm 30 rfl)) rfl rfl ?_
    refine so_iconst (v := (5 : Int32)) X (dkX1_takePart (49, .iconst 5, 1) (pgm 31 rfl)) ic_5 ?_
    refine so_imul X (dkX1_takePart (50, .imul, 1) (pgm 32 rfl)) ?_
    refine so_iload_n (i := 1) X 1 (dkX1_takePart (51, .iload_n 1, 1) (pgm 33 rfl)) rfl rfl ?_
    refine so_iadd X (dkX1_takePart (52, .iadd, 1) (pgm 34 rfl)) ?_
    refine so_istore (i := 5) X (dkX1_takePart (53, .istore 5, 2) (pgm 35 rfl)) (by decide) (Lf := fun x8 => [(5, .int x8), (0, .ref this), (1, .int a1), (4, .int y6)]) (fun _ => rfl) (fun x8 => ?_)
    refine so_aload_n (i := 0) X 1 (dkX1_takePart (55, .aload_n 0, 1) (pgm 36 rfl)) rfl rfl ?_
    refine sf_getR X ff_1_5 lk_493 hk (dkX1_takePart (56, .getfield 21, 3) (pgm 37 rfl)) ?_
    refine so_iload (i := 5) X 0 (dkX1_takePart (59, .iload 5, 2) (pgm 38 rfl)) rfl ?_
    refine so_aaldK X (rk_1_5 this hk) (by decide) (by decide) 4 (fun _ => rfl) rfl (re_1_5 this hk) (dkX1_takePart (61, .aaload, 1) (pgm 39 rfl)) (fun v9 hv9 => ?_)
    refine so_iconst (v := (0 : Int32)) X (dkX1_takePart (62, .iconst 0, 1) (pgm 40 rfl)) ic_0 ?_
    refine so_iload (i := 4) X 3 (dkX1_takePart (63, .iload 4, 2) (pgm 41 rfl)) rfl ?_
    refine so_iast X hv9 (dkX1_takePart (65, .iastore, 1) (pgm 42 rfl)) (fun h10 => ?_)
    refine so_aload_n (i := 0) X 1 (dkX1_takePart (66, .aload_n 0, 1) (pgm 43 rfl)) rfl rfl ?_
    refine sf_getR X ff_1_6 lk_494 hk (dkX1_takePart (67, .getfield 24, 3) (pgm 44 rfl)) ?_
    refine so_iload (i := 5) X 0 (dkX1_takePart (70, .iload 5, 2) (pgm 45 rfl)) rfl ?_
    refine so_iconst (v := (1 : Int32)) X (dkX1_takePart (72, .iconst 1, 1) (pgm 46 rfl)) ic_1 ?_
    refine so_iast X (rk_1_6 this hk) (dkX1_takePart (73, .iastore, 1) (pgm 47 rfl)) (fun h11 => ?_)
    exact so_vret X hr hlk (dkX1_takePart (74, .return_, 1) (pgm 48 rfl))
  refine so_pick (L' := [(0, .ref this), (1, .int a1), (2, .int a2), (3, .int x3), (4, .int x4), (5, .int x5)]) X [3, 4, 5, 2, 1, 0] rfl ?_
  refine so_loop (body := b_X1_takePart_14 a2 x3 j48) (fun (s14 : Int32 × Int32) => [(0, .ref this), (1, .int a1), (2, .int a2), (3, .int x3), (4, .int s14.1), (5, .int s14.2)]) (fun rec14 hrec14 s14 hh14 => ?_) FU (x4, x5) h2
  unfold b_X1_takePart_14
  refine so_iload (i := 5) X 5 (dkX1_takePart (14, .iload 5, 2) (pgm 10 rfl)) rfl ?_
  refine so_bipush (v := (32 : Int32)) X (dkX1_takePart (16, .bipush 32, 2) (pgm 11 rfl)) bp_32 ?_
  refine so_icmp_ge (tgt := 48) X (dkX1_takePart (18, .if_icmp .ge 30, 3) (pgm 12 rfl)) rfl (fun _ => ?_) (fun _ => ?_)
  · exact so_pick X [0, 1, 4] rfl (hj48 s14.1 hh14)
  · refine so_iload (i := 5) X 5 (dkX1_takePart (21, .iload 5, 2) (pgm 13 rfl)) rfl ?_
    refine so_iload_n (i := 3) X 3 (dkX1_takePart (23, .iload_n 3, 1) (pgm 14 rfl)) rfl rfl ?_
    refine so_ishr X (dkX1_takePart (24, .ishr, 1) (pgm 15 rfl)) ?_
    refine so_iconst (v := (1 : Int32)) X (dkX1_takePart (25, .iconst 1, 1) (pgm 16 rfl)) ic_1 ?_
    refine so_iand X (dkX1_takePart (26, .iand, 1) (pgm 17 rfl)) ?_
    refine so_iload_n (i := 2) X 2 (dkX1_takePart (27, .iload_n 2, 1) (pgm 18 rfl)) rfl rfl ?_
    refine so_iconst (v := (2 : Int32)) X (dkX1_takePart (28, .iconst 2, 1) (pgm 19 rfl)) ic_2 ?_
    refine so_irem X (dkX1_takePart (29, .irem, 1) (pgm 20 rfl)) (fun _ => ?_)
    refine so_join (jf := fun (y12 : Int32) (h13 : PH) => lt (s14.2 + Int32.ofInt 1) (fun (x14 : Int32) => rec14 (y12, x14) h13)) (fun (j : Int32 → PH → Option (Unit × PH)) => ∀ (y12 : Int32) (h13 : PH), SWo (QM mkV below args s D cA ad A) p l e (rmd 1) s m args below meth c 0 0 6 D cA ad A 42 [(0, .ref this), (1, .int a1), (2, .int a2), (3, .int x3), (4, .int y12), (5, .int s14.2)] [] h13 (j y12 h13)) ?_ (fun j42 hj42 => ?_)
    · intro y12 h13
      refine so_iinc (i := 5) X 5 (dkX1_takePart (42, .iinc 5 1, 3) (pgm 28 rfl)) rfl rfl (by decide) (Lf := fun x14 => [(5, .int x14), (0, .ref this), (1, .int a1), (2, .int a2), (3, .int x3), (4, .int y12)]) (fun _ => rfl) (fun x14 => ?_)
      refine so_goto (tgt := 14) X (dkX1_takePart (45, .goto (-31), 3) (pgm 29 rfl)) rfl ?_
      exact so_pick X [1, 2, 3, 4, 5, 0] rfl (hrec14 (y12, x14) h13)
    refine so_icmp_ne (tgt := 42) X (dkX1_takePart (30, .if_icmp .ne 12, 3) (pgm 21 rfl)) rfl (fun _ => ?_) (fun _ => ?_)
    · exact so_pick X [0, 1, 2, 3, 4, 5] rfl (hj42 s14.1 hh14)
    · refine so_iload (i := 4) X 4 (dkX1_takePart (33, .iload 4, 2) (pgm 22 rfl)) rfl ?_
      refine so_iconst (v := (1 : Int32)) X (dkX1_takePart (35, .iconst 1, 1) (pgm 23 rfl)) ic_1 ?_
      refine so_iload (i := 5) X 5 (dkX1_takePart (36, .iload 5, 2) (pgm 24 rfl)) rfl ?_
      refine so_ishl X (dkX1_takePart (38, .ishl, 1) (pgm 25 rfl)) ?_
      refine so_ior X (dkX1_takePart (39, .ior, 1) (pgm 26 rfl)) ?_
      refine so_istore (i := 4) X (dkX1_takePart (40, .istore 4, 2) (pgm 27 rfl)) (by decide) (Lf := fun x15 => [(4, .int x15), (0, .ref this), (1, .int a1), (2, .int a2), (3, .int x3), (5, .int s14.2)]) (fun _ => rfl) (fun x15 => ?_)
      exact so_pick X [1, 2, 3, 4, 0, 5] rfl (hj42 x15 hh14)
def pgX1_bracket : List (Nat × Instr × Nat) := [(0, .iconst 1, 1), (1, .istore_n 1, 1), (2, .iload_n 1, 1), (3, .aload_n 0, 1), (4, .getfield 41, 3), (7, .if_icmp .ge 65, 3), (10, .iconst 0, 1), (11, .istore_n 2, 1), (12, .iload_n 2, 1), (13, .iload_n 1, 1), (14, .iadd, 1), (15, .aload_n 0, 1), (16, .getfield 41, 3), (19, .if_icmp .ge 47, 3), (22, .iload_n 2, 1), (23, .iload_n 1, 1), (24, .iadd, 1), (25, .istore_n 3, 1), (26, .aload_n 0, 1), (27, .getfield 24, 3), (30, .iload_n 2, 1), (31, .iconst 5, 1), (32, .imul, 1), (33, .iload_n 3, 1), (34, .iadd, 1), (35, .iconst 0, 1), (36, .iastore, 1), (37, .iload_n 2, 1), (38, .istore 4, 2), (40, .iload 4, 2), (42, .iload_n 3, 1), (43, .if_icmp .ge 17, 3), (46, .aload_n 0, 1), (47, .iload_n 2, 1), (48, .iload 4, 2), (50, .iload_n 3, 1), (51, .invokevirtual 64, 3), (54, .iinc 4 1, 3), (57, .goto (-17), 3), (60, .iinc 2 1, 3), (63, .goto (-51), 3), (66, .iinc 1 1, 3), (69, .goto (-67), 3), (72, .return_, 1)]
theorem dkX1_bracket : ∀ q ∈ pgX1_bracket, decode cX1_bracket q.1 = .ok q.2 := by decide +kernel
def b_X1_bracket_40 (this : Nat) (s12 : Int32) (x5 : Int32) (j60 : PH → Option (Unit × PH)) (rec40 : (Int32) → PH → Option (Unit × PH)) (s40 : Int32) (hh40 : PH) : Option (Unit × PH) :=
  if x5 ≤ s40 then (j60 hh40) else (cb (f_X1_joinAt this s12 s40 x5 hh40) (fun (r10 : Unit) (h11 : PH) => lt (s40 + Int32.ofInt 1) (fun (x12 : Int32) => rec40 x12 h11)))
def b_X1_bracket_12 (this : Nat) (s2 : Int32) (j66 : PH → Option (Unit × PH)) (rec12 : (Int32) → PH → Option (Unit × PH)) (s12 : Int32) (hh12 : PH) : Option (Unit × PH) :=
  if (hh12.1 this 7) ≤ (s12 + s2) then (j66 hh12) else (lt (s12 + s2) (fun (x5 : Int32) => stI hh12 (rt this 6) 25 ((s12 * (5 : Int32)) + x5) (0 : Int32) (fun (h6 : PH) => lt s12 (fun (x7 : Int32) => lt (fun (h8 : PH) => lt (s12 + Int32.ofInt 1) (fun (x9 : Int32) => rec12 x9 h8)) (fun (j60 : PH → Option (Unit × PH)) => lp (b_X1_bracket_40 this s12 x5 j60) FU x7 h6)))))
def b_X1_bracket_2 (this : Nat) (rec2 : (Int32) → PH → Option (Unit × PH)) (s2 : Int32) (hh2 : PH) : Option (Unit × PH) :=
  if (hh2.1 this 7) ≤ s2 then (some ((), hh2)) else (lt (0 : Int32) (fun (x2 : Int32) => lt (fun (h3 : PH) => lt (s2 + Int32.ofInt 1) (fun (x4 : Int32) => rec2 x4 h3)) (fun (j66 : PH → Option (Unit × PH)) => lp (b_X1_bracket_12 this s2 j66) FU x2 hh2)))
def f_X1_bracket (this : Nat) (h0 : PH) : Option (Unit × PH) :=
  lt (1 : Int32) (fun (x1 : Int32) => lp (b_X1_bracket_2 this) FU x1 h0)
set_option maxRecDepth 100000 in
set_option maxHeartbeats 4000000 in
theorem ct_X1_bracket (l : Launch) (this : Nat) (h0 : PH) (hk : (kd this).1 = 1) : CT mkV l yX1_bracket cX1_bracket 5 none (rmd 1) [.ref this] h0 (f_X1_bracket this h0) := by
  refine ct_of (by decide) (Nat.le_of_ble_eq_true rfl) ?_
  intro p e s m args below meth c D cA ad A X hr hlk
  have X : Cx p s m args c RX1 cX1_bracket 5 D cA ad A := X
  unfold f_X1_bracket
  refine so_pick (L' := [(0, .ref this)]) X [0] rfl ?_
  refine so_iconst (v := (1 : Int32)) X (dkX1_bracket (0, .iconst 1, 1) (pgm 0 rfl)) ic_1 ?_
  refine so_istore_n (i := 1) X (dkX1_bracket (1, .istore_n 1, 1) (pgm 1 rfl)) rfl (by decide) (Lf := fun x1 => [(1, .int x1), (0, .ref this)]) (fun _ => rfl) (fun x1 => ?_)
  refine so_pick (L' := [(0, .ref this), (1, .int x1)]) X [1, 0] rfl ?_
  refine so_loop (body := b_X1_bracket_2 this) (fun (s2 : Int32) => [(0, .ref this), (1, .int s2)]) (fun rec2 hrec2 s2 hh2 => ?_) FU x1 h0
  unfold b_X1_bracket_2
  refine so_iload_n (i := 1) X 1 (dkX1_bracket (2, .iload_n 1, 1) (pgm 2 rfl)) rfl rfl ?_
  refine so_aload_n (i := 0) X 0 (dkX1_bracket (3, .aload_n 0, 1) (pgm 3 rfl)) rfl rfl ?_
  refine sf_getI X ff_1_7 lk_495 hk (dkX1_bracket (4, .getfield 41, 3) (pgm 4 rfl)) ?_
  refine so_icmp_ge (tgt := 72) X (dkX1_bracket (7, .if_icmp .ge 65, 3) (pgm 5 rfl)) rfl (fun _ => ?_) (fun _ => ?_)
  · exact so_vret X hr hlk (dkX1_bracket (72, .return_, 1) (pgm 43 rfl))
  · refine so_iconst (v := (0 : Int32)) X (dkX1_bracket (10, .iconst 0, 1) (pgm 6 rfl)) ic_0 ?_
    refine so_istore_n (i := 2) X (dkX1_bracket (11, .istore_n 2, 1) (pgm 7 rfl)) rfl (by decide) (Lf := fun x2 => [(2, .int x2), (0, .ref this), (1, .int s2)]) (fun _ => rfl) (fun x2 => ?_)
    refine so_join (jf := fun (h3 : PH) => lt (s2 + Int32.ofInt 1) (fun (x4 : Int32) => rec2 x4 h3)) (fun (j : PH → Option (Unit × PH)) => ∀  (h3 : PH), SWo (QM mkV below args s D cA ad A) p l e (rmd 1) s m args below meth c 0 0 5 D cA ad A 66 [(0, .ref this), (1, .int s2)] [] h3 (j h3)) ?_ (fun j66 hj66 => ?_)
    · intro h3
      refine so_iinc (i := 1) X 1 (dkX1_bracket (66, .iinc 1 1, 3) (pgm 41 rfl)) rfl rfl (by decide) (Lf := fun x4 => [(1, .int x4), (0, .ref this)]) (fun _ => rfl) (fun x4 => ?_)
      refine so_goto (tgt := 2) X (dkX1_bracket (69, .goto (-67), 3) (pgm 42 rfl)) rfl ?_
      exact so_pick X [1, 0] rfl (hrec2 x4 h3)
    refine so_pick (L' := [(0, .ref this), (1, .int s2), (2, .int x2)]) X [1, 2, 0] rfl ?_
    refine so_loop (body := b_X1_bracket_12 this s2 j66) (fun (s12 : Int32) => [(0, .ref this), (1, .int s2), (2, .int s12)]) (fun rec12 hrec12 s12 hh12 => ?_) FU x2 hh2
    unfold b_X1_bracket_12
    refine so_iload_n (i := 2) X 2 (dkX1_bracket (12, .iload_n 2, 1) (pgm 8 rfl)) rfl rfl ?_
    refine so_iload_n (i := 1) X 1 (dkX1_bracket (13, .iload_n 1, 1) (pgm 9 rfl)) rfl rfl ?_
    refine so_iadd X (dkX1_bracket (14, .iadd, 1) (pgm 10 rfl)) ?_
    refine so_aload_n (i := 0) X 0 (dkX1_bracket (15, .aload_n 0, 1) (pgm 11 rfl)) rfl rfl ?_
    refine sf_getI X ff_1_7 lk_495 hk (dkX1_bracket (16, .getfield 41, 3) (pgm 12 rfl)) ?_
    refine so_icmp_ge (tgt := 66) X (dkX1_bracket (19, .if_icmp .ge 47, 3) (pgm 13 rfl)) rfl (fun _ => ?_) (fun _ => ?_)
    · exact so_pick X [0, 1] rfl (hj66 hh12)
    · refine so_iload_n (i := 2) X 2 (dkX1_bracket (22, .iload_n 2, 1) (pgm 14 rfl)) rfl rfl ?_
      refine so_iload_n (i := 1) X 1 (dkX1_bracket (23, .iload_n 1, 1) (pgm 15 rfl)) rfl rfl ?_
      refine so_iadd X (dkX1_bracket (24, .iadd, 1) (pgm 16 rfl)) ?_
      refine so_istore_n (i := 3) X (dkX1_bracket (25, .istore_n 3, 1) (pgm 17 rfl)) rfl (by decide) (Lf := fun x5 => [(3, .int x5), (0, .ref this), (1, .int s2), (2, .int s12)]) (fun _ => rfl) (fun x5 => ?_)
      refine so_aload_n (i := 0) X 1 (dkX1_bracket (26, .aload_n 0, 1) (pgm 18 rfl)) rfl rfl ?_
      refine sf_getR X ff_1_6 lk_494 hk (dkX1_bracket (27, .getfield 24, 3) (pgm 19 rfl)) ?_
      refine so_iload_n (i := 2) X 3 (dkX1_bracket (30, .iload_n 2, 1) (pgm 20 rfl)) rfl rfl ?_
      refine so_iconst (v := (5 : Int32)) X (dkX1_bracket (31, .iconst 5, 1) (pgm 21 rfl)) ic_5 ?_
      refine so_imul X (dkX1_bracket (32, .imul, 1) (pgm 22 rfl)) ?_
      refine so_iload_n (i := 3) X 0 (dkX1_bracket (33, .iload_n 3, 1) (pgm 23 rfl)) rfl rfl ?_
      refine so_iadd X (dkX1_bracket (34, .iadd, 1) (pgm 24 rfl)) ?_
      refine so_iconst (v := (0 : Int32)) X (dkX1_bracket (35, .iconst 0, 1) (pgm 25 rfl)) ic_0 ?_
      refine so_iast X (rk_1_6 this hk) (dkX1_bracket (36, .iastore, 1) (pgm 26 rfl)) (fun h6 => ?_)
      refine so_iload_n (i := 2) X 3 (dkX1_bracket (37, .iload_n 2, 1) (pgm 27 rfl)) rfl rfl ?_
      refine so_istore (i := 4) X (dkX1_bracket (38, .istore 4, 2) (pgm 28 rfl)) (by decide) (Lf := fun x7 => [(4, .int x7), (3, .int x5), (0, .ref this), (1, .int s2), (2, .int s12)]) (fun _ => rfl) (fun x7 => ?_)
      refine so_join (jf := fun (h8 : PH) => lt (s12 + Int32.ofInt 1) (fun (x9 : Int32) => rec12 x9 h8)) (fun (j : PH → Option (Unit × PH)) => ∀  (h8 : PH), SWo (QM mkV below args s D cA ad A) p l e (rmd 1) s m args below meth c 0 0 5 D cA ad A 60 [(0, .ref this), (1, .int s2), (2, .int s12)] [] h8 (j h8)) ?_ (fun j60 hj60 => ?_)
      · intro h8
        refine so_iinc (i := 2) X 2 (dkX1_bracket (60, .iinc 2 1, 3) (pgm 39 rfl)) rfl rfl (by decide) (Lf := fun x9 => [(2, .int x9), (0, .ref this), (1, .int s2)]) (fun _ => rfl) (fun x9 => ?_)
        refine so_goto (tgt := 12) X (dkX1_bracket (63, .goto (-51), 3) (pgm 40 rfl)) rfl ?_
        exact so_pick X [1, 2, 0] rfl (hrec12 x9 h8)
      refine so_pick (L' := [(0, .ref this), (1, .int s2), (2, .int s12), (3, .int x5), (4, .int x7)]) X [2, 3, 4, 1, 0] rfl ?_
      refine so_loop (body := b_X1_bracket_40 this s12 x5 j60) (fun (s40 : Int32) => [(0, .ref this), (1, .int s2), (2, .int s12), (3, .int x5), (4, .int s40)]) (fun rec40 hrec40 s40 hh40 => ?_) FU x7 h6
      unfold b_X1_bracket_40
      refine so_iload (i := 4) X 4 (dkX1_bracket (40, .iload 4, 2) (pgm 29 rfl)) rfl ?_
      refine so_iload_n (i := 3) X 3 (dkX1_bracket (42, .iload_n 3, 1) (pgm 30 rfl)) rfl rfl ?_
      refine so_icmp_ge (tgt := 60) X (dkX1_bracket (43, .if_icmp .ge 17, 3) (pgm 31 rfl)) rfl (fun _ => ?_) (fun _ => ?_)
      · exact so_pick X [0, 1, 2] rfl (hj60 hh40)
      · refine so_aload_n (i := 0) X 0 (dkX1_bracket (46, .aload_n 0, 1) (pgm 32 rfl)) rfl rfl ?_
        refine so_iload_n (i := 2) X 2 (dkX1_bracket (47, .iload_n 2, 1) (pgm 33 rfl)) rfl rfl ?_
        refine so_iload (i := 4) X 4 (dkX1_bracket (48, .iload 4, 2) (pgm 34 rfl)) rfl ?_
        refine so_iload_n (i := 3) X 3 (dkX1_bracket (50, .iload_n 3, 1) (pgm 35 rfl)) rfl rfl ?_
        refine so_callV (n := 3) (As := [.int s12, .int s40, .int x5]) X (ct_X1_joinAt l this s12 s40 x5 hh40 hk) hk (by decide) rfl lk_1433 lk_1435 lk_48 lk_131 lk_1436 (by decide +kernel) rfl rfl rfl (rm_ok (by omega) (by decide)) ⟨Nat.zero_le _, Nat.zero_le _⟩ (Nat.le_of_ble_eq_true rfl) (dkX1_bracket (51, .invokevirtual 64, 3) (pgm 36 rfl)) (fun r10 h11 => ?_) rfl
        refine so_iinc (i := 4) X 4 (dkX1_bracket (54, .iinc 4 1, 3) (pgm 37 rfl)) rfl rfl (by decide) (Lf := fun x12 => [(4, .int x12), (0, .ref this), (1, .int s2), (2, .int s12), (3, .int x5)]) (fun _ => rfl) (fun x12 => ?_)
        refine so_goto (tgt := 40) X (dkX1_bracket (57, .goto (-17), 3) (pgm 38 rfl)) rfl ?_
        exact so_pick X [1, 2, 3, 4, 0] rfl (hrec40 x12 h11)
def pgX1_unlike : List (Nat × Instr × Nat) := [(0, .iconst 0, 1), (1, .istore_n 1, 1), (2, .iconst 0, 1), (3, .istore_n 2, 1), (4, .iload_n 2, 1), (5, .aload_n 0, 1), (6, .invokevirtual 68, 3), (9, .if_icmp .ge 20, 3), (12, .aload_n 0, 1), (13, .iload_n 2, 1), (14, .invokevirtual 72, 3), (17, .ifCond .eq 6, 3), (20, .iinc 1 1, 3), (23, .iinc 2 1, 3), (26, .goto (-22), 3), (29, .iload_n 1, 1), (30, .ireturn, 1)]
theorem dkX1_unlike : ∀ q ∈ pgX1_unlike, decode cX1_unlike q.1 = .ok q.2 := by decide +kernel
def b_X1_unlike_4 (this : Nat) (rec4 : (Int32 × Int32) → PH → Option (Int32 × PH)) (s4 : Int32 × Int32) (hh4 : PH) : Option (Int32 × PH) :=
  cb (f_X1_all this hh4) (fun (r3 : Int32) (h4 : PH) => if r3 ≤ s4.2 then (some (s4.1, h4)) else (cb (f_X1_isNew this s4.2 h4) (fun (r5 : Int32) (h6 : PH) => lt (fun (y7 : Int32) (h8 : PH) => lt (s4.2 + Int32.ofInt 1) (fun (x9 : Int32) => rec4 (y7, x9) h8)) (fun (j23 : Int32 → PH → Option (Int32 × PH)) => if r5 = 0 then (j23 s4.1 h6) else (lt (s4.1 + Int32.ofInt 1) (fun (x10 : Int32) => j23 x10 h6))))))
def f_X1_unlike (this : Nat) (h0 : PH) : Option (Int32 × PH) :=
  lt (0 : Int32) (fun (x1 : Int32) => lt (0 : Int32) (fun (x2 : Int32) => lp (b_X1_unlike_4 this) FU (x1, x2) h0))
set_option maxRecDepth 100000 in
set_option maxHeartbeats 4000000 in
theorem ct_X1_unlike (l : Launch) (this : Nat) (h0 : PH) (hk : (kd this).1 = 1) : CT mkI l yX1_unlike cX1_unlike 3 (some .int) (rmd 1) [.ref this] h0 (f_X1_unlike this h0) := by
  refine ct_of (by decide) (Nat.le_of_ble_eq_true rfl) ?_
  intro p e s m args below meth c D cA ad A X hr hlk
  have X : Cx p s m args c RX1 cX1_unlike 3 D cA ad A := X
  unfold f_X1_unlike
  refine so_pick (L' := [(0, .ref this)]) X [0] rfl ?_
  refine so_iconst (v := (0 : Int32)) X (dkX1_unlike (0, .iconst 0, 1) (pgm 0 rfl)) ic_0 ?_
  refine so_istore_n (i := 1) X (dkX1_unlike (1, .istore_n 1, 1) (pgm 1 rfl)) rfl (by decide) (Lf := fun x1 => [(1, .int x1), (0, .ref this)]) (fun _ => rfl) (fun x1 => ?_)
  refine so_iconst (v := (0 : Int32)) X (dkX1_unlike (2, .iconst 0, 1) (pgm 2 rfl)) ic_0 ?_
  refine so_istore_n (i := 2) X (dkX1_unlike (3, .istore_n 2, 1) (pgm 3 rfl)) rfl (by decide) (Lf := fun x2 => [(2, .int x2), (1, .int x1), (0, .ref this)]) (fun _ => rfl) (fun x2 => ?_)
  refine so_pick (L' := [(0, .ref this), (1, .int x1), (2, .int x2)]) X [2, 1, 0] rfl ?_
  refine so_loop (body := b_X1_unlike_4 this) (fun (s4 : Int32 × Int32) => [(0, .ref this), (1, .int s4.1), (2, .int s4.2)]) (fun rec4 hrec4 s4 hh4 => ?_) FU (x1, x2) h0
  unfold b_X1_unlike_4
  refine so_iload_n (i := 2) X 2 (dkX1_unlike (4, .iload_n 2, 1) (pgm 4 rfl)) rfl rfl ?_
  refine so_aload_n (i := 0) X 0 (dkX1_unlike (5, .aload_n 0, 1) (pgm 5 rfl)) rfl rfl ?_
  refine so_callV (n := 0) (As := []) X (ct_X1_all l this hh4 hk) hk (by decide) rfl lk_1445 lk_1438 lk_1439 lk_131 lk_1440 (by decide +kernel) rfl rfl rfl (rm_ok (by omega) (by decide)) ⟨Nat.zero_le _, Nat.zero_le _⟩ (Nat.le_of_ble_eq_true rfl) (dkX1_unlike (6, .invokevirtual 68, 3) (pgm 6 rfl)) (fun r3 h4 => ?_) rfl
  refine so_icmp_ge (tgt := 29) X (dkX1_unlike (9, .if_icmp .ge 20, 3) (pgm 7 rfl)) rfl (fun _ => ?_) (fun _ => ?_)
  · refine so_iload_n (i := 1) X 1 (dkX1_unlike (29, .iload_n 1, 1) (pgm 15 rfl)) rfl rfl ?_
    exact so_iret X hr hlk (dkX1_unlike (30, .ireturn, 1) (pgm 16 rfl))
  · refine so_aload_n (i := 0) X 0 (dkX1_unlike (12, .aload_n 0, 1) (pgm 8 rfl)) rfl rfl ?_
    refine so_iload_n (i := 2) X 2 (dkX1_unlike (13, .iload_n 2, 1) (pgm 9 rfl)) rfl rfl ?_
    refine so_callV (n := 1) (As := [.int s4.2]) X (ct_X1_isNew l this s4.2 h4 hk) hk (by decide) rfl lk_1446 lk_1448 lk_49 lk_131 lk_1449 (by decide +kernel) rfl rfl rfl (rm_ok (by omega) (by decide)) ⟨Nat.zero_le _, Nat.zero_le _⟩ (Nat.le_of_ble_eq_true rfl) (dkX1_unlike (14, .invokevirtual 72, 3) (pgm 10 rfl)) (fun r5 h6 => ?_) rfl
    refine so_join (jf := fun (y7 : Int32) (h8 : PH) => lt (s4.2 + Int32.ofInt 1) (fun (x9 : Int32) => rec4 (y7, x9) h8)) (fun (j : Int32 → PH → Option (Int32 × PH)) => ∀ (y7 : Int32) (h8 : PH), SWo (QM mkI below args s D cA ad A) p l e (rmd 1) s m args below meth c 0 0 3 D cA ad A 23 [(0, .ref this), (1, .int y7), (2, .int s4.2)] [] h8 (j y7 h8)) ?_ (fun j23 hj23 => ?_)
    · intro y7 h8
      refine so_iinc (i := 2) X 2 (dkX1_unlike (23, .iinc 2 1, 3) (pgm 13 rfl)) rfl rfl (by decide) (Lf := fun x9 => [(2, .int x9), (0, .ref this), (1, .int y7)]) (fun _ => rfl) (fun x9 => ?_)
      refine so_goto (tgt := 4) X (dkX1_unlike (26, .goto (-22), 3) (pgm 14 rfl)) rfl ?_
      exact so_pick X [1, 2, 0] rfl (hrec4 (y7, x9) h8)
    refine so_if_eq (tgt := 23) X (dkX1_unlike (17, .ifCond .eq 6, 3) (pgm 11 rfl)) rfl (fun _ => ?_) (fun _ => ?_)
    · exact so_pick X [0, 1, 2] rfl (hj23 s4.1 h6)
    · refine so_iinc (i := 1) X 1 (dkX1_unlike (20, .iinc 1 1, 3) (pgm 12 rfl)) rfl rfl (by decide) (Lf := fun x10 => [(1, .int x10), (0, .ref this), (2, .int s4.2)]) (fun _ => rfl) (fun x10 => ?_)
      exact so_pick X [1, 0, 2] rfl (hj23 x10 h6)
def pgX1_sortPlans : List (Nat × Instr × Nat) := [(0, .aload_n 0, 1), (1, .getfield 16, 3), (4, .iconst 0, 1), (5, .invokestatic 91, 3), (8, .iconst 0, 1), (9, .istore_n 1, 1), (10, .iload_n 1, 1), (11, .aload_n 0, 1), (12, .getfield 31, 3), (15, .getfield 97, 3), (18, .if_icmp .ge 73, 3), (21, .aload_n 0, 1), (22, .getfield 27, 3), (25, .aload_n 0, 1), (26, .getfield 31, 3), (29, .getfield 102, 3), (32, .iload_n 1, 1), (33, .iaload, 1), (34, .invokevirtual 105, 3), (37, .istore_n 2, 1), (38, .iconst 0, 1), (39, .istore_n 3, 1), (40, .iconst 0, 1), (41, .istore 4, 2), (43, .iload 4, 2), (45, .aload_n 0, 1), (46, .getfield 44, 3), (49, .if_icmp .ge 26, 3), (52, .iload_n 3, 1), (53, .iload_n 2, 1), (54, .aload_n 0, 1), (55, .getfield 13, 3), (58, .iload 4, 2), (60, .iaload, 1), (61, .ishr, 1), (62, .iconst 1, 1), (63, .iand, 1), (64, .iload 4, 2), (66, .ishl, 1), (67, .ior, 1), (68, .istore_n 3, 1), (69, .iinc 4 1, 3), (72, .goto (-29), 3), (75, .aload_n 0, 1), (76, .getfield 16, 3), (79, .iload_n 3, 1), (80, .dup2, 1), (81, .iaload, 1), (82, .iconst 1, 1), (83, .iadd, 1), (84, .iastore, 1), (85, .iinc 1 1, 3), (88, .goto (-78), 3), (91, .return_, 1)]
theorem dkX1_sortPlans : ∀ q ∈ pgX1_sortPlans, decode cX1_sortPlans q.1 = .ok q.2 := by decide +kernel
def b_X1_sortPlans_43 (this : Nat) (x7 : Int32) (j75 : Int32 → PH → Option (Unit × PH)) (rec43 : (Int32 × Int32) → PH → Option (Unit × PH)) (s43 : Int32 × Int32) (hh43 : PH) : Option (Unit × PH) :=
  if (hh43.1 this 8) ≤ s43.2 then (j75 s43.1 hh43) else (ldI hh43 (rt this 3) 5 s43.2 (fun (x15 : Int32) => lt (s43.1 ||| (((x7 >>> (x15 &&& 31)) &&& (1 : Int32)) <<< (s43.2 &&& 31))) (fun (x16 : Int32) => lt (s43.2 + Int32.ofInt 1) (fun (x17 : Int32) => rec43 (x16, x17) hh43))))
def b_X1_sortPlans_10 (this : Nat) (rec10 : (Int32) → PH → Option (Unit × PH)) (s10 : Int32) (hh10 : PH) : Option (Unit × PH) :=
  if (hh10.1 (rt this 1) 4) ≤ s10 then (some ((), hh10)) else (ldI hh10 (rt (rt this 1) 3) 4096 s10 (fun (x4 : Int32) => cb (f_X8_weatherOf (rt this 0) x4 hh10) (fun (r5 : Int32) (h6 : PH) => lt r5 (fun (x7 : Int32) => lt (0 : Int32) (fun (x8 : Int32) => lt (0 : Int32) (fun (x9 : Int32) => lt (fun (y10 : Int32) (h11 : PH) => ldI h11 (rt this 4) 32 y10 (fun (x12 : Int32) => stI h11 (rt this 4) 32 y10 (x12 + (1 : Int32)) (fun (h13 : PH) => lt (s10 + Int32.ofInt 1) (fun (x14 : Int32) => rec10 x14 h13)))) (fun (j75 : Int32 → PH → Option (Unit × PH)) => lp (b_X1_sortPlans_43 this x7 j75) FU (x8, x9) h6)))))))
def f_X1_sortPlans (this : Nat) (h0 : PH) : Option (Unit × PH) :=
  cb (f_J7_fill_53178 (rt this 4) 32 (0 : Int32) h0) (fun (r1 : Unit) (h2 : PH) => lt (0 : Int32) (fun (x3 : Int32) => lp (b_X1_sortPlans_10 this) FU x3 h2))
set_option maxRecDepth 100000 in
set_option maxHeartbeats 4000000 in
theorem ct_X1_sortPlans (l : Launch) (this : Nat) (h0 : PH) (hk : (kd this).1 = 1) : CT mkV l yX1_sortPlans cX1_sortPlans 5 none (rmd 1) [.ref this] h0 (f_X1_sortPlans this h0) := by
  refine ct_of (by decide) (Nat.le_of_ble_eq_true rfl) ?_
  intro p e s m args below meth c D cA ad A X hr hlk
  have X : Cx p s m args c RX1 cX1_sortPlans 5 D cA ad A := X
  unfold f_X1_sortPlans
  refine so_pick (L' := [(0, .ref this)]) X [0] rfl ?_
  refine so_aload_n (i := 0) X 0 (dkX1_sortPlans (0, .aload_n 0, 1) (pgm 0 rfl)) rfl rfl ?_
  refine sf_getR X ff_1_4 lk_492 hk (dkX1_sortPlans (1, .getfield 16, 3) (pgm 1 rfl)) ?_
  refine so_iconst (v := (0 : Int32)) X (dkX1_sortPlans (4, .iconst 0, 1) (pgm 2 rfl)) ic_0 ?_
  refine so_callS (n := 2) (As := [.ref (rt this 4), .int (0 : Int32)]) X (ct_J7_fill_53178 l (rt this 4) 32 (0 : Int32) h0 (rk_1_4 this hk)) lk_1458 lk_368 lk_127 lk_369 (by decide +kernel) rfl rfl rfl (rm_ok (by omega) (by decide)) ⟨Nat.zero_le _, Nat.zero_le _⟩ (Nat.le_of_ble_eq_true rfl) (dkX1_sortPlans (5, .invokestatic 91, 3) (pgm 3 rfl)) (fun r1 h2 => ?_) rfl
  refine so_iconst (v := (0 : Int32)) X (dkX1_sortPlans (8, .iconst 0, 1) (pgm 4 rfl)) ic_0 ?_
  refine so_istore_n (i := 1) X (dkX1_sortPlans (9, .istore_n 1, 1) (pgm 5 rfl)) rfl (by decide) (Lf := fun x3 => [(1, .int x3), (0, .ref this)]) (fun _ => rfl) (fun x3 => ?_)
  refine so_pick (L' := [(0, .ref this), (1, .int x3)]) X [1, 0] rfl ?_
  refine so_loop (body := b_X1_sortPlans_10 this) (fun (s10 : Int32) => [(0, .ref this), (1, .int s10)]) (fun rec10 hrec10 s10 hh10 => ?_) FU x3 h2
  unfold b_X1_sortPlans_10
  refine so_iload_n (i := 1) X 1 (dkX1_sortPlans (10, .iload_n 1, 1) (pgm 6 rfl)) rfl rfl ?_
  refine so_aload_n (i := 0) X 0 (dkX1_sortPlans (11, .aload_n 0, 1) (pgm 7 rfl)) rfl rfl ?_
  refine sf_getR X ff_1_1 lk_489 hk (dkX1_sortPlans (12, .getfield 31, 3) (pgm 8 rfl)) ?_
  refine sf_getI X ff_2_4 lk_393 (fo (rk_1_1 this hk)) (dkX1_sortPlans (15, .getfield 97, 3) (pgm 9 rfl)) ?_
  refine so_icmp_ge (tgt := 91) X (dkX1_sortPlans (18, .if_icmp .ge 73, 3) (pgm 10 rfl)) rfl (fun _ => ?_) (fun _ => ?_)
  · exact so_vret X hr hlk (dkX1_sortPlans (91, .return_, 1) (pgm 53 rfl))
  · refine so_aload_n (i := 0) X 0 (dkX1_sortPlans (21, .aload_n 0, 1) (pgm 11 rfl)) rfl rfl ?_
    refine sf_getR X ff_1_0 lk_488 hk (dkX1_sortPlans (22, .getfield 27, 3) (pgm 12 rfl)) ?_
    refine so_aload_n (i := 0) X 0 (dkX1_sortPlans (25, .aload_n 0, 1) (pgm 13 rfl)) rfl rfl ?_
    refine sf_getR X ff_1_1 lk_489 hk (dkX1_sortPlans (26, .getfield 31, 3) (pgm 14 rfl)) ?_
    refine sf_getR X ff_2_3 lk_390 (fo (rk_1_1 this hk)) (dkX1_sortPlans (29, .getfield 102, 3) (pgm 15 rfl)) ?_
    refine so_iload_n (i := 1) X 1 (dkX1_sortPlans (32, .iload_n 1, 1) (pgm 16 rfl)) rfl rfl ?_
    refine so_iald X (rk_2_3 (rt this 1) (fo (rk_1_1 this hk))) (dkX1_sortPlans (33, .iaload, 1) (pgm 17 rfl)) (fun x4 => ?_)
    refine so_callV (n := 1) (As := [.int x4]) X (ct_X8_weatherOf l (rt this 0) x4 hh10 (fo (rk_1_0 this hk))) (fo (rk_1_0 this hk)) (by decide) rfl lk_1459 lk_641 lk_642 lk_122 lk_643 (by decide +kernel) rfl rfl rfl (rm_ok (by omega) (by decide)) ⟨Nat.zero_le _, Nat.zero_le _⟩ (Nat.le_of_ble_eq_true rfl) (dkX1_sortPlans (34, .invokevirtual 105, 3) (pgm 18 rfl)) (fun r5 h6 => ?_) rfl
    refine so_istore_n (i := 2) X (dkX1_sortPlans (37, .istore_n 2, 1) (pgm 19 rfl)) rfl (by decide) (Lf := fun x7 => [(2, .int x7), (0, .ref this), (1, .int s10)]) (fun _ => rfl) (fun x7 => ?_)
    refine so_iconst (v := (0 : Int32)) X (dkX1_sortPlans (38, .iconst 0, 1) (pgm 20 rfl)) ic_0 ?_
    refine so_istore_n (i := 3) X (dkX1_sortPlans (39, .istore_n 3, 1) (pgm 21 rfl)) rfl (by decide) (Lf := fun x8 => [(3, .int x8), (2, .int x7), (0, .ref this), (1, .int s10)]) (fun _ => rfl) (fun x8 => ?_)
    refine so_iconst (v := (0 : Int32)) X (dkX1_sortPlans (40, .iconst 0, 1) (pgm 22 rfl)) ic_0 ?_
    refine so_istore (i := 4) X (dkX1_sortPlans (41, .istore 4, 2) (pgm 23 rfl)) (by decide) (Lf := fun x9 => [(4, .int x9), (3, .int x8), (2, .int x7), (0, .ref this), (1, .int s10)]) (fun _ => rfl) (fun x9 => ?_)
    refine so_join (jf := fun (y10 : Int32) (h11 : PH) => ldI h11 (rt this 4) 32 y10 (fun (x12 : Int32) => stI h11 (rt this 4) 32 y10 (x12 + (1 : Int32)) (fun (h13 : PH) => lt (s10 + Int32.ofInt 1) (fun (x14 : Int32) => rec10 x14 h13)))) (fun (j : Int32 → PH → Option (Unit × PH)) => ∀ (y10 : Int32) (h11 : PH), SWo (QM mkV below args s D cA ad A) p l e (rmd 1) s m args below meth c 0 0 5 D cA ad A 75 [(0, .ref this), (1, .int s10), (3, .int y10)] [] h11 (j y10 h11)) ?_ (fun j75 hj75 => ?_)
    · intro y10 h11
      refine so_aload_n (i := 0) X 0 (dkX1_sortPlans (75, .aload_n 0, 1) (pgm 43 rfl)) rfl rfl ?_
      refine sf_getR X ff_1_4 lk_492 hk (dkX1_sortPlans (76, .getfield 16, 3) (pgm 44 rfl)) ?_
      refine so_iload_n (i := 3) X 2 (dkX1_sortPlans (79, .iload_n 3, 1) (pgm 45 rfl)) rfl rfl ?_
      refine so_dup2 X (dkX1_sortPlans (80, .dup2, 1) (pgm 46 rfl)) rfl rfl ?_
      refine so_iald X (rk_1_4 this hk) (dkX1_sortPlans (81, .iaload, 1) (pgm 47 rfl)) (fun x12 => ?_)
      refine so_iconst (v := (1 : Int32)) X (dkX1_sortPlans (82, .iconst 1, 1) (pgm 48 rfl)) ic_1 ?_
      refine so_iadd X (dkX1_sortPlans (83, .iadd, 1) (pgm 49 rfl)) ?_
      refine so_iast X (rk_1_4 this hk) (dkX1_sortPlans (84, .iastore, 1) (pgm 50 rfl)) (fun h13 => ?_)
      refine so_iinc (i := 1) X 1 (dkX1_sortPlans (85, .iinc 1 1, 3) (pgm 51 rfl)) rfl rfl (by decide) (Lf := fun x14 => [(1, .int x14), (0, .ref this), (3, .int y10)]) (fun _ => rfl) (fun x14 => ?_)
      refine so_goto (tgt := 10) X (dkX1_sortPlans (88, .goto (-78), 3) (pgm 52 rfl)) rfl ?_
      exact so_pick X [1, 0] rfl (hrec10 x14 h13)
    refine so_pick (L' := [(0, .ref this), (1, .int s10), (2, .int x7), (3, .int x8), (4, .int x9)]) X [3, 4, 2, 1, 0] rfl ?_
    refine so_loop (body := b_X1_sortPlans_43 this x7 j75) (fun (s43 : Int32 × Int32) => [(0, .ref this), (1, .int s10), (2, .int x7), (3, .int s43.1), (4, .int s43.2)]) (fun rec43 hrec43 s43 hh43 => ?_) FU (x8, x9) h6
    unfold b_X1_sortPlans_43
    refine so_iload (i := 4) X 4 (dkX1_sortPlans (43, .iload 4, 2) (pgm 24 rfl)) rfl ?_
    refine so_aload_n (i := 0) X 0 (dkX1_sortPlans (45, .aload_n 0, 1) (pgm 25 rfl)) rfl rfl ?_
    refine sf_getI X ff_1_8 lk_496 hk (dkX1_sortPlans (46, .getfield 44, 3) (pgm 26 rfl)) ?_
    refine so_icmp_ge (tgt := 75) X (dkX1_sortPlans (49, .if_icmp .ge 26, 3) (pgm 27 rfl)) rfl (fun _ => ?_) (fun _ => ?_)
    · exact so_pick X [0, 1, 3] rfl (hj75 s43.1 hh43)
    · refine so_iload_n (i := 3) X 3 (dkX1_sortPlans (52, .iload_n 3, 1) (pgm 28 rfl)) rfl rfl ?_
      refine so_iload_n (i := 2) X 2 (dkX1_sortPlans (53, .iload_n 2, 1) (pgm 29 rfl)) rfl rfl ?_
      refine so_aload_n (i := 0) X 0 (dkX1_sortPlans (54, .aload_n 0, 1) (pgm 30 rfl)) rfl rfl ?_
      refine sf_getR X ff_1_3 lk_491 hk (dkX1_sortPlans (55, .getfield 13, 3) (pgm 31 rfl)) ?_
      refine so_iload (i := 4) X 4 (dkX1_sortPlans (58, .iload 4, 2) (pgm 32 rfl)) rfl ?_
      refine so_iald X (rk_1_3 this hk) (dkX1_sortPlans (60, .iaload, 1) (pgm 33 rfl)) (fun x15 => ?_)
      refine so_ishr X (dkX1_sortPlans (61, .ishr, 1) (pgm 34 rfl)) ?_
      refine so_iconst (v := (1 : Int32)) X (dkX1_sortPlans (62, .iconst 1, 1) (pgm 35 rfl)) ic_1 ?_
      refine so_iand X (dkX1_sortPlans (63, .iand, 1) (pgm 36 rfl)) ?_
      refine so_iload (i := 4) X 4 (dkX1_sortPlans (64, .iload 4, 2) (pgm 37 rfl)) rfl ?_
      refine so_ishl X (dkX1_sortPlans (66, .ishl, 1) (pgm 38 rfl)) ?_
      refine so_ior X (dkX1_sortPlans (67, .ior, 1) (pgm 39 rfl)) ?_
      refine so_istore_n (i := 3) X (dkX1_sortPlans (68, .istore_n 3, 1) (pgm 40 rfl)) rfl (by decide) (Lf := fun x16 => [(3, .int x16), (0, .ref this), (1, .int s10), (2, .int x7), (4, .int s43.2)]) (fun _ => rfl) (fun x16 => ?_)
      refine so_iinc (i := 4) X 4 (dkX1_sortPlans (69, .iinc 4 1, 3) (pgm 41 rfl)) rfl rfl (by decide) (Lf := fun x17 => [(4, .int x17), (3, .int x16), (0, .ref this), (1, .int s10), (2, .int x7)]) (fun _ => rfl) (fun x17 => ?_)
      refine so_goto (tgt := 43) X (dkX1_sortPlans (72, .goto (-29), 3) (pgm 42 rfl)) rfl ?_
      exact so_pick X [2, 3, 4, 1, 0] rfl (hrec43 (x16, x17) hh43)
def pgX2_lesser : List (Nat × Instr × Nat) := [(0, .iload_n 0, 1), (1, .iconst (-1), 1), (2, .if_icmp .eq 8, 3), (5, .iload_n 1, 1), (6, .iconst (-1), 1), (7, .if_icmp .ne 14, 3), (10, .iload_n 0, 1), (11, .iconst (-1), 1), (12, .if_icmp .ne 7, 3), (15, .iload_n 1, 1), (16, .goto 4, 3), (19, .iload_n 0, 1), (20, .ireturn, 1), (21, .iload_n 0, 1), (22, .invokestatic 80, 3), (25, .iload_n 1, 1), (26, .invokestatic 80, 3), (29, .isub, 1), (30, .istore_n 2, 1), (31, .iload_n 2, 1), (32, .ifCond .lt 12, 3), (35, .iload_n 2, 1), (36, .ifCond .ne 12, 3), (39, .iload_n 0, 1), (40, .iload_n 1, 1), (41, .if_icmp .ge 7, 3), (44, .iload_n 0, 1), (45, .goto 4, 3), (48, .iload_n 1, 1), (49, .ireturn, 1)]
theorem dkX2_lesser : ∀ q ∈ pgX2_lesser, decode cX2_lesser q.1 = .ok q.2 := by decide +kernel
def f_X2_lesser (a1 : Int32) (a2 : Int32) (h0 : PH) : Option (Int32 × PH) :=
  lt (fun (h1 : PH) => lt (fun (t2 : Int32) (h3 : PH) => some (t2, h3)) (fun (j20 : Int32 → PH → Option (Int32 × PH)) => if a1 = (-1 : Int32) then (j20 a2 h1) else (j20 a1 h1))) (fun (j10 : PH → Option (Int32 × PH)) => if a1 = (-1 : Int32) then (j10 h0) else (if a2 = (-1 : Int32) then (j10 h0) else (cb (f_J6_bitCount_0f7a4 a1 h0) (fun (r4 : Int32) (h5 : PH) => cb (f_J6_bitCount_0f7a4 a2 h5) (fun (r6 : Int32) (h7 : PH) => lt (r4 - r6) (fun (x8 : Int32) => lt (fun (t9 : Int32) (h10 : PH) => some (t9, h10)) (fun (j49 : Int32 → PH → Option (Int32 × PH)) => lt (fun (h11 : PH) => j49 a1 h11) (fun (j44 : PH → Option (Int32 × PH)) => if x8 < 0 then (j44 h7) else (lt (fun (h12 : PH) => j49 a2 h12) (fun (j48 : PH → Option (Int32 × PH)) => if x8 = 0 then (if a2 ≤ a1 then (j48 h7) else (j44 h7)) else (j48 h7)))))))))))
set_option maxRecDepth 100000 in
set_option maxHeartbeats 4000000 in
theorem ct_X2_lesser (l : Launch) (a1 : Int32) (a2 : Int32) (h0 : PH)  : CT mkI l yX2_lesser cX2_lesser 3 (some .int) (rmd 1) [.int a1, .int a2] h0 (f_X2_lesser a1 a2 h0) := by
  refine ct_of (by decide) (Nat.le_of_ble_eq_true rfl) ?_
  intro p e s m args below meth c D cA ad A X hr hlk
  have X : Cx p s m args c RX2 cX2_lesser 3 D cA ad A := X
  unfold f_X2_lesser
  refine so_pick (L' := [(0, .int a1), (1, .int a2)]) X [0, 1] rfl ?_
  refine so_iload_n (i := 0) X 0 (dkX2_lesser (0, .iload_n 0, 1) (pgm 0 rfl)) rfl rfl ?_
  refine so_iconst (v := (-1 : Int32)) X (dkX2_lesser (1, .iconst (-1), 1) (pgm 1 rfl)) ic_m1 ?_
  refine so_join (jf := fun (h1 : PH) => lt (fun (t2 : Int32) (h3 : PH) => some (t2, h3)) (fun (j20 : Int32 → PH → Option (Int32 × PH)) => if a1 = (-1 : Int32) then (j20 a2 h1) else (j20 a1 h1))) (fun (j : PH → Option (Int32 × PH)) => ∀  (h1 : PH), SWo (QM mkI below args s D cA ad A) p l e (rmd 1) s m args below meth c 0 0 3 D cA ad A 10 [(0, .int a1), (1, .int a2)] [] h1 (j h1)) ?_ (fun j10 hj10 => ?_)
  · intro h1
    refine so_iload_n (i := 0) X 0 (dkX2_lesser (10, .iload_n 0, 1) (pgm 6 rfl)) rfl rfl ?_
    refine so_iconst (v := (-1 : Int32)) X (dkX2_lesser (11, .iconst (-1), 1) (pgm 7 rfl)) ic_m1 ?_
    refine so_join (jf := fun (t2 : Int32) (h3 : PH) => some (t2, h3)) (fun (j : Int32 → PH → Option (Int32 × PH)) => ∀ (t2 : Int32) (h3 : PH), SWo (QM mkI below args s D cA ad A) p l e (rmd 1) s m args below meth c 0 0 3 D cA ad A 20 [] [.int t2] h3 (j t2 h3)) ?_ (fun j20 hj20 => ?_)
    · intro t2 h3
      exact so_iret X hr hlk (dkX2_lesser (20, .ireturn, 1) (pgm 12 rfl))
    refine so_icmp_ne (tgt := 19) X (dkX2_lesser (12, .if_icmp .ne 7, 3) (pgm 8 rfl)) rfl (fun _ => ?_) (fun _ => ?_)
    · refine so_iload_n (i := 0) X 0 (dkX2_lesser (19, .iload_n 0, 1) (pgm 11 rfl)) rfl rfl ?_
      exact so_pick X [] rfl (hj20 a1 h1)
    · refine so_iload_n (i := 1) X 1 (dkX2_lesser (15, .iload_n 1, 1) (pgm 9 rfl)) rfl rfl ?_
      refine so_goto (tgt := 20) X (dkX2_lesser (16, .goto 4, 3) (pgm 10 rfl)) rfl ?_
      exact so_pick X [] rfl (hj20 a2 h1)
  refine so_icmp_eq (tgt := 10) X (dkX2_lesser (2, .if_icmp .eq 8, 3) (pgm 2 rfl)) rfl (fun _ => ?_) (fun _ => ?_)
  · exact so_pick X [0, 1] rfl (hj10 h0)
  · refine so_iload_n (i := 1) X 1 (dkX2_lesser (5, .iload_n 1, 1) (pgm 3 rfl)) rfl rfl ?_
    refine so_iconst (v := (-1 : Int32)) X (dkX2_lesser (6, .iconst (-1), 1) (pgm 4 rfl)) ic_m1 ?_
    refine so_icmp_ne (tgt := 21) X (dkX2_lesser (7, .if_icmp .ne 14, 3) (pgm 5 rfl)) rfl (fun _ => ?_) (fun _ => ?_)
    · refine so_iload_n (i := 0) X 0 (dkX2_lesser (21, .iload_n 0, 1) (pgm 13 rfl)) rfl rfl ?_
      refine so_callS (n := 1) (As := [.int a1]) X (ct_J6_bitCount_0f7a4 l a1 h0 ) lk_683 lk_635 lk_147 lk_636 (by decide +kernel) rfl rfl rfl (rm_ok (by omega) (by decide)) ⟨Nat.zero_le _, Nat.zero_le _⟩ (Nat.le_of_ble_eq_true rfl) (dkX2_lesser (22, .invokestatic 80, 3) (pgm 14 rfl)) (fun r4 h5 => ?_) rfl
      refine so_iload_n (i := 1) X 1 (dkX2_lesser (25, .iload_n 1, 1) (pgm 15 rfl)) rfl rfl ?_
      refine so_callS (n := 1) (As := [.int a2]) X (ct_J6_bitCount_0f7a4 l a2 h5 ) lk_683 lk_635 lk_147 lk_636 (by decide +kernel) rfl rfl rfl (rm_ok (by omega) (by decide)) ⟨Nat.zero_le _, Nat.zero_le _⟩ (Nat.le_of_ble_eq_true rfl) (dkX2_lesser (26, .invokestatic 80, 3) (pgm 16 rfl)) (fun r6 h7 => ?_) rfl
      refine so_isub X (dkX2_lesser (29, .isub, 1) (pgm 17 rfl)) ?_
      refine so_istore_n (i := 2) X (dkX2_lesser (30, .istore_n 2, 1) (pgm 18 rfl)) rfl (by decide) (Lf := fun x8 => [(2, .int x8), (0, .int a1), (1, .int a2)]) (fun _ => rfl) (fun x8 => ?_)
      refine so_iload_n (i := 2) X 0 (dkX2_lesser (31, .iload_n 2, 1) (pgm 19 rfl)) rfl rfl ?_
      refine so_join (jf := fun (t9 : Int32) (h10 : PH) => some (t9, h10)) (fun (j : Int32 → PH → Option (Int32 × PH)) => ∀ (t9 : Int32) (h10 : PH), SWo (QM mkI below args s D cA ad A) p l e (rmd 1) s m args below meth c 0 0 3 D cA ad A 49 [] [.int t9] h10 (j t9 h10)) ?_ (fun j49 hj49 => ?_)
      · intro t9 h10
        exact so_iret X hr hlk (dkX2_lesser (49, .ireturn, 1) (pgm 29 rfl))
      refine so_join (jf := fun (h11 : PH) => j49 a1 h11) (fun (j : PH → Option (Int32 × PH)) => ∀  (h11 : PH), SWo (QM mkI below args s D cA ad A) p l e (rmd 1) s m args below meth c 0 0 3 D cA ad A 44 [(0, .int a1)] [] h11 (j h11)) ?_ (fun j44 hj44 => ?_)
      · intro h11
        refine so_iload_n (i := 0) X 0 (dkX2_lesser (44, .iload_n 0, 1) (pgm 26 rfl)) rfl rfl ?_
        refine so_goto (tgt := 49) X (dkX2_lesser (45, .goto 4, 3) (pgm 27 rfl)) rfl ?_
        exact so_pick X [] rfl (hj49 a1 h11)
      refine so_if_lt (tgt := 44) X (dkX2_lesser (32, .ifCond .lt 12, 3) (pgm 20 rfl)) rfl (fun _ => ?_) (fun _ => ?_)
      · exact so_pick X [1] rfl (hj44 h7)
      · refine so_iload_n (i := 2) X 0 (dkX2_lesser (35, .iload_n 2, 1) (pgm 21 rfl)) rfl rfl ?_
        refine so_join (jf := fun (h12 : PH) => j49 a2 h12) (fun (j : PH → Option (Int32 × PH)) => ∀  (h12 : PH), SWo (QM mkI below args s D cA ad A) p l e (rmd 1) s m args below meth c 0 0 3 D cA ad A 48 [(1, .int a2)] [] h12 (j h12)) ?_ (fun j48 hj48 => ?_)
        · intro h12
          refine so_iload_n (i := 1) X 0 (dkX2_lesser (48, .iload_n 1, 1) (pgm 28 rfl)) rfl rfl ?_
          exact so_pick X [] rfl (hj49 a2 h12)
        refine so_if_ne (tgt := 48) X (dkX2_lesser (36, .ifCond .ne 12, 3) (pgm 22 rfl)) rfl (fun _ => ?_) (fun _ => ?_)
        · exact so_pick X [2] rfl (hj48 h7)
        · refine so_iload_n (i := 0) X 1 (dkX2_lesser (39, .iload_n 0, 1) (pgm 23 rfl)) rfl rfl ?_
          refine so_iload_n (i := 1) X 2 (dkX2_lesser (40, .iload_n 1, 1) (pgm 24 rfl)) rfl rfl ?_
          refine so_icmp_ge (tgt := 48) X (dkX2_lesser (41, .if_icmp .ge 7, 3) (pgm 25 rfl)) rfl (fun _ => ?_) (fun _ => ?_)
          · exact so_pick X [2] rfl (hj48 h7)
          · exact so_pick X [1] rfl (hj44 h7)
    · exact so_pick X [0, 1] rfl (hj10 h0)
def pgX2_smallestQuarrel : List (Nat × Instr × Nat) := [(0, .iconst (-1), 1), (1, .istore_n 2, 1), (2, .iconst 0, 1), (3, .istore_n 3, 1), (4, .iload_n 3, 1), (5, .iload_n 1, 1), (6, .if_icmp .gt 43, 3), (9, .iload_n 3, 1), (10, .iload_n 1, 1), (11, .iconst (-1), 1), (12, .ixor, 1), (13, .iand, 1), (14, .ifCond .ne 29, 3), (17, .aload_n 0, 1), (18, .iload_n 3, 1), (19, .invokevirtual 86, 3), (22, .ifCond .ne 21, 3), (25, .iload_n 2, 1), (26, .iconst (-1), 1), (27, .if_icmp .eq 14, 3), (30, .iload_n 3, 1), (31, .invokestatic 80, 3), (34, .iload_n 2, 1), (35, .invokestatic 80, 3), (38, .if_icmp .ge 5, 3), (41, .iload_n 3, 1), (42, .istore_n 2, 1), (43, .iinc 3 1, 3), (46, .goto (-42), 3), (49, .iload_n 2, 1), (50, .ireturn, 1)]
theorem dkX2_smallestQuarrel : ∀ q ∈ pgX2_smallestQuarrel, decode cX2_smallestQuarrel q.1 = .ok q.2 := by decide +kernel
def b_X2_smallestQuarrel_4 (this : Nat) (a1 : Int32) (rec4 : (Int32 × Int32) → PH → Option (Int32 × PH)) (s4 : Int32 × Int32) (hh4 : PH) : Option (Int32 × PH) :=
  if a1 < s4.2 then (some (s4.1, hh4)) else (lt (fun (y3 : Int32) (h4 : PH) => lt (s4.2 + Int32.ofInt 1) (fun (x5 : Int32) => rec4 (y3, x5) h4)) (fun (j43 : Int32 → PH → Option (Int32 × PH)) => if (s4.2 &&& (a1 ^^^ (-1 : Int32))) = 0 then (cb (f_X2_areTogether this s4.2 hh4) (fun (r6 : Int32) (h7 : PH) => if r6 = 0 then (lt (fun (h8 : PH) => lt s4.2 (fun (x9 : Int32) => j43 x9 h8)) (fun (j41 : PH → Option (Int32 × PH)) => if s4.1 = (-1 : Int32) then (j41 h7) else (cb (f_J6_bitCount_0f7a4 s4.2 h7) (fun (r10 : Int32) (h11 : PH) => cb (f_J6_bitCount_0f7a4 s4.1 h11) (fun (r12 : Int32) (h13 : PH) => if r12 ≤ r10 then (j43 s4.1 h13) else (j41 h13)))))) else (j43 s4.1 h7))) else (j43 s4.1 hh4)))
def f_X2_smallestQuarrel (this : Nat) (a1 : Int32) (h0 : PH) : Option (Int32 × PH) :=
  lt (-1 : Int32) (fun (x1 : Int32) => lt (0 : Int32) (fun (x2 : Int32) => lp (b_X2_smallestQuarrel_4 this a1) FU (x1, x2) h0))
set_option maxRecDepth 100000 in
set_option maxHeartbeats 4000000 in
theorem ct_X2_smallestQuarrel (l : Launch) (this : Nat) (a1 : Int32) (h0 : PH) (hk : (kd this).1 = 2) : CT mkI l yX2_smallestQuarrel cX2_smallestQuarrel 4 (some .int) (rmd 1) [.ref this, .int a1] h0 (f_X2_smallestQuarrel this a1 h0) := by
  refine ct_of (by decide) (Nat.le_of_ble_eq_true rfl) ?_
  intro p e s m args below meth c D cA ad A X hr hlk
  have X : Cx p s m args c RX2 cX2_smallestQuarrel 4 D cA ad A := X
  unfold f_X2_smallestQuarrel
  refine so_pick (L' := [(0, .ref this), (1, .int a1)]) X [0, 1] rfl ?_
  refine so_iconst (v := (-1 : Int32)) X (dkX2_smallestQuarrel (0, .iconst (-1), 1) (pgm 0 rfl)) ic_m1 ?_
  refine so_istore_n (i := 2) X (dkX2_smallestQuarrel (1, .istore_n 2, 1) (pgm 1 rfl)) rfl (by decide) (Lf := fun x1 => [(2, .int x1), (0, .ref this), (1, .int a1)]) (fun _ => rfl) (fun x1 => ?_)
  refine so_iconst (v := (0 : Int32)) X (dkX2_smallestQuarrel (2, .iconst 0, 1) (pgm 2 rfl)) ic_0 ?_
  refine so_istore_n (i := 3) X (dkX2_smallestQuarrel (3, .istore_n 3, 1) (pgm 3 rfl)) rfl (by decide) (Lf := fun x2 => [(3, .int x2), (2, .int x1), (0, .ref this), (1, .int a1)]) (fun _ => rfl) (fun x2 => ?_)
  refine so_pick (L' := [(0, .ref this), (1, .int a1), (2, .int x1), (3, .int x2)]) X [2, 3, 1, 0] rfl ?_
  refine so_loop (body := b_X2_smallestQuarrel_4 this a1) (fun (s4 : Int32 × Int32) => [(0, .ref this), (1, .int a1), (2, .int s4.1), (3, .int s4.2)]) (fun rec4 hrec4 s4 hh4 => ?_) FU (x1, x2) h0
  unfold b_X2_smallestQuarrel_4
  refine so_iload_n (i := 3) X 3 (dkX2_smallestQuarrel (4, .iload_n 3, 1) (pgm 4 rfl)) rfl rfl ?_
  refine so_iload_n (i := 1) X 1 (dkX2_smallestQuarrel (5, .iload_n 1, 1) (pgm 5 rfl)) rfl rfl ?_
  refine so_icmp_gt (tgt := 49) X (dkX2_smallestQuarrel (6, .if_icmp .gt 43, 3) (pgm 6 rfl)) rfl (fun _ => ?_) (fun _ => ?_)
  · refine so_iload_n (i := 2) X 2 (dkX2_smallestQuarrel (49, .iload_n 2, 1) (pgm 29 rfl)) rfl rfl ?_
    exact so_iret X hr hlk (dkX2_smallestQuarrel (50, .ireturn, 1) (pgm 30 rfl))
  · refine so_iload_n (i := 3) X 3 (dkX2_smallestQuarrel (9, .iload_n 3, 1) (pgm 7 rfl)) rfl rfl ?_
    refine so_iload_n (i := 1) X 1 (dkX2_smallestQuarrel (10, .iload_n 1, 1) (pgm 8 rfl)) rfl rfl ?_
    refine so_iconst (v := (-1 : Int32)) X (dkX2_smallestQuarrel (11, .iconst (-1), 1) (pgm 9 rfl)) ic_m1 ?_
    refine so_ixor X (dkX2_smallestQuarrel (12, .ixor, 1) (pgm 10 rfl)) ?_
    refine so_iand X (dkX2_smallestQuarrel (13, .iand, 1) (pgm 11 rfl)) ?_
    refine so_join (jf := fun (y3 : Int32) (h4 : PH) => lt (s4.2 + Int32.ofInt 1) (fun (x5 : Int32) => rec4 (y3, x5) h4)) (fun (j : Int32 → PH → Option (Int32 × PH)) => ∀ (y3 : Int32) (h4 : PH), SWo (QM mkI below args s D cA ad A) p l e (rmd 1) s m args below meth c 0 0 4 D cA ad A 43 [(0, .ref this), (1, .int a1), (2, .int y3), (3, .int s4.2)] [] h4 (j y3 h4)) ?_ (fun j43 hj43 => ?_)
    · intro y3 h4
      refine so_iinc (i := 3) X 3 (dkX2_smallestQuarrel (43, .iinc 3 1, 3) (pgm 27 rfl)) rfl rfl (by decide) (Lf := fun x5 => [(3, .int x5), (0, .ref this), (1, .int a1), (2, .int y3)]) (fun _ => rfl) (fun x5 => ?_)
      refine so_goto (tgt := 4) X (dkX2_smallestQuarrel (46, .goto (-42), 3) (pgm 28 rfl)) rfl ?_
      exact so_pick X [1, 2, 3, 0] rfl (hrec4 (y3, x5) h4)
    refine so_if_ne (tgt := 43) X (dkX2_smallestQuarrel (14, .ifCond .ne 29, 3) (pgm 12 rfl)) rfl (fun _ => ?_) (fun _ => ?_)
    · exact so_pick X [0, 1, 2, 3] rfl (hj43 s4.1 hh4)
    · refine so_aload_n (i := 0) X 0 (dkX2_smallestQuarrel (17, .aload_n 0, 1) (pgm 13 rfl)) rfl rfl ?_
      refine so_iload_n (i := 3) X 3 (dkX2_smallestQuarrel (18, .iload_n 3, 1) (pgm 14 rfl)) rfl rfl ?_
      refine so_callV (n := 1) (As := [.int s4.2]) X (ct_X2_areTogether l this s4.2 hh4 hk) hk (by decide) rfl lk_700 lk_702 lk_5 lk_128 lk_703 (by decide +kernel) rfl rfl rfl (rm_ok (by omega) (by decide)) ⟨Nat.zero_le _, Nat.zero_le _⟩ (Nat.le_of_ble_eq_true rfl) (dkX2_smallestQuarrel (19, .invokevirtual 86, 3) (pgm 15 rfl)) (fun r6 h7 => ?_) rfl
      refine so_if_ne (tgt := 43) X (dkX2_smallestQuarrel (22, .ifCond .ne 21, 3) (pgm 16 rfl)) rfl (fun _ => ?_) (fun _ => ?_)
      · exact so_pick X [0, 1, 2, 3] rfl (hj43 s4.1 h7)
      · refine so_iload_n (i := 2) X 2 (dkX2_smallestQuarrel (25, .iload_n 2, 1) (pgm 17 rfl)) rfl rfl ?_
        refine so_iconst (v := (-1 : Int32)) X (dkX2_smallestQuarrel (26, .iconst (-1), 1) (pgm 18 rfl)) ic_m1 ?_
        refine so_join (jf := fun (h8 : PH) => lt s4.2 (fun (x9 : Int32) => j43 x9 h8)) (fun (j : PH → Option (Int32 × PH)) => ∀  (h8 : PH), SWo (QM mkI below args s D cA ad A) p l e (rmd 1) s m args below meth c 0 0 4 D cA ad A 41 [(0, .ref this), (1, .int a1), (3, .int s4.2)] [] h8 (j h8)) ?_ (fun j41 hj41 => ?_)
        · intro h8
          refine so_iload_n (i := 3) X 2 (dkX2_smallestQuarrel (41, .iload_n 3, 1) (pgm 25 rfl)) rfl rfl ?_
          refine so_istore_n (i := 2) X (dkX2_smallestQuarrel (42, .istore_n 2, 1) (pgm 26 rfl)) rfl (by decide) (Lf := fun x9 => [(2, .int x9), (0, .ref this), (1, .int a1), (3, .int s4.2)]) (fun _ => rfl) (fun x9 => ?_)
          exact so_pick X [1, 2, 0, 3] rfl (hj43 x9 h8)
        refine so_icmp_eq (tgt := 41) X (dkX2_smallestQuarrel (27, .if_icmp .eq 14, 3) (pgm 19 rfl)) rfl (fun _ => ?_) (fun _ => ?_)
        · exact so_pick X [0, 1, 3] rfl (hj41 h7)
        · refine so_iload_n (i := 3) X 3 (dkX2_smallestQuarrel (30, .iload_n 3, 1) (pgm 20 rfl)) rfl rfl ?_
          refine so_callS (n := 1) (As := [.int s4.2]) X (ct_J6_bitCount_0f7a4 l s4.2 h7 ) lk_683 lk_635 lk_147 lk_636 (by decide +kernel) rfl rfl rfl (rm_ok (by omega) (by decide)) ⟨Nat.zero_le _, Nat.zero_le _⟩ (Nat.le_of_ble_eq_true rfl) (dkX2_smallestQuarrel (31, .invokestatic 80, 3) (pgm 21 rfl)) (fun r10 h11 => ?_) rfl
          refine so_iload_n (i := 2) X 2 (dkX2_smallestQuarrel (34, .iload_n 2, 1) (pgm 22 rfl)) rfl rfl ?_
          refine so_callS (n := 1) (As := [.int s4.1]) X (ct_J6_bitCount_0f7a4 l s4.1 h11 ) lk_683 lk_635 lk_147 lk_636 (by decide +kernel) rfl rfl rfl (rm_ok (by omega) (by decide)) ⟨Nat.zero_le _, Nat.zero_le _⟩ (Nat.le_of_ble_eq_true rfl) (dkX2_smallestQuarrel (35, .invokestatic 80, 3) (pgm 23 rfl)) (fun r12 h13 => ?_) rfl
          refine so_icmp_ge (tgt := 43) X (dkX2_smallestQuarrel (38, .if_icmp .ge 5, 3) (pgm 24 rfl)) rfl (fun _ => ?_) (fun _ => ?_)
          · exact so_pick X [0, 1, 2, 3] rfl (hj43 s4.1 h13)
          · exact so_pick X [0, 1, 3] rfl (hj41 h13)
def pgX2_nightsForAll : List (Nat × Instr × Nat) := [(0, .aload_n 0, 1), (1, .getfield 18, 3), (4, .iconst 0, 1), (5, .iconst 0, 1), (6, .iastore, 1), (7, .iconst 1, 1), (8, .istore_n 1, 1), (9, .iload_n 1, 1), (10, .aload_n 0, 1), (11, .getfield 37, 3), (14, .if_icmp .gt 35, 3), (17, .aload_n 0, 1), (18, .getfield 18, 3), (21, .iload_n 1, 1), (22, .iload_n 1, 1), (23, .aload_n 0, 1), (24, .getfield 37, 3), (27, .iconst (-1), 1), (28, .ixor, 1), (29, .iand, 1), (30, .ifCond .ne 11, 3), (33, .aload_n 0, 1), (34, .iload_n 1, 1), (35, .invokevirtual 93, 3), (38, .goto 4, 3), (41, .iconst (-1), 1), (42, .iastore, 1), (43, .iinc 1 1, 3), (46, .goto (-37), 3), (49, .aload_n 0, 1), (50, .getfield 18, 3), (53, .aload_n 0, 1), (54, .getfield 37, 3), (57, .iaload, 1), (58, .ireturn, 1)]
theorem dkX2_nightsForAll : ∀ q ∈ pgX2_nightsForAll, decode cX2_nightsForAll q.1 = .ok q.2 := by decide +kernel
def b_X2_nightsForAll_9 (this : Nat) (rec9 : (Int32) → PH → Option (Int32 × PH)) (s9 : Int32) (hh9 : PH) : Option (Int32 × PH) :=
  if (hh9.1 this 7) < s9 then (ldI hh9 (rt this 6) 1024 (hh9.1 this 7) (fun (x3 : Int32) => some (x3, hh9))) else (lt (fun (t4 : Int32) (h5 : PH) => stI h5 (rt this 6) 1024 s9 t4 (fun (h6 : PH) => lt (s9 + Int32.ofInt 1) (fun (x7 : Int32) => rec9 x7 h6))) (fun (j42 : Int32 → PH → Option (Int32 × PH)) => if (s9 &&& ((hh9.1 this 7) ^^^ (-1 : Int32))) = 0 then (cb (f_X2_nightsFor this s9 hh9) (fun (r8 : Int32) (h9 : PH) => j42 r8 h9)) else (j42 (-1 : Int32) hh9)))
def f_X2_nightsForAll (this : Nat) (h0 : PH) : Option (Int32 × PH) :=
  stI h0 (rt this 6) 1024 (0 : Int32) (0 : Int32) (fun (h1 : PH) => lt (1 : Int32) (fun (x2 : Int32) => lp (b_X2_nightsForAll_9 this) FU x2 h1))
set_option maxRecDepth 100000 in
set_option maxHeartbeats 4000000 in
theorem ct_X2_nightsForAll (l : Launch) (this : Nat) (h0 : PH) (hk : (kd this).1 = 2) : CT mkI l yX2_nightsForAll cX2_nightsForAll 2 (some .int) (rmd 2) [.ref this] h0 (f_X2_nightsForAll this h0) := by
  refine ct_of (by decide) (Nat.le_of_ble_eq_true rfl) ?_
  intro p e s m args below meth c D cA ad A X hr hlk
  have X : Cx p s m args c RX2 cX2_nightsForAll 2 D cA ad A := X
  unfold f_X2_nightsForAll
  refine so_pick (L' := [(0, .ref this)]) X [0] rfl ?_
  refine so_aload_n (i := 0) X 0 (dkX2_nightsForAll (0, .aload_n 0, 1) (pgm 0 rfl)) rfl rfl ?_
  refine sf_getR X ff_2_6 lk_396 hk (dkX2_nightsForAll (1, .getfield 18, 3) (pgm 1 rfl)) ?_
  refine so_iconst (v := (0 : Int32)) X (dkX2_nightsForAll (4, .iconst 0, 1) (pgm 2 rfl)) ic_0 ?_
  refine so_iconst (v := (0 : Int32)) X (dkX2_nightsForAll (5, .iconst 0, 1) (pgm 3 rfl)) ic_0 ?_
  refine so_iast X (rk_2_6 this hk) (dkX2_nightsForAll (6, .iastore, 1) (pgm 4 rfl)) (fun h1 => ?_)
  refine so_iconst (v := (1 : Int32)) X (dkX2_nightsForAll (7, .iconst 1, 1) (pgm 5 rfl)) ic_1 ?_
  refine so_istore_n (i := 1) X (dkX2_nightsForAll (8, .istore_n 1, 1) (pgm 6 rfl)) rfl (by decide) (Lf := fun x2 => [(1, .int x2), (0, .ref this)]) (fun _ => rfl) (fun x2 => ?_)
  refine so_pick (L' := [(0, .ref this), (1, .int x2)]) X [1, 0] rfl ?_
  refine so_loop (body := b_X2_nightsForAll_9 this) (fun (s9 : Int32) => [(0, .ref this), (1, .int s9)]) (fun rec9 hrec9 s9 hh9 => ?_) FU x2 h1
  unfold b_X2_nightsForAll_9
  refine so_iload_n (i := 1) X 1 (dkX2_nightsForAll (9, .iload_n 1, 1) (pgm 7 rfl)) rfl rfl ?_
  refine so_aload_n (i := 0) X 0 (dkX2_nightsForAll (10, .aload_n 0, 1) (pgm 8 rfl)) rfl rfl ?_
  refine sf_getI X ff_2_7 lk_397 hk (dkX2_nightsForAll (11, .getfield 37, 3) (pgm 9 rfl)) ?_
  refine so_icmp_gt (tgt := 49) X (dkX2_nightsForAll (14, .if_icmp .gt 35, 3) (pgm 10 rfl)) rfl (fun _ => ?_) (fun _ => ?_)
  · refine so_aload_n (i := 0) X 0 (dkX2_nightsForAll (49, .aload_n 0, 1) (pgm 29 rfl)) rfl rfl ?_
    refine sf_getR X ff_2_6 lk_396 hk (dkX2_nightsForAll (50, .getfield 18, 3) (pgm 30 rfl)) ?_
    refine so_aload_n (i := 0) X 0 (dkX2_nightsForAll (53, .aload_n 0, 1) (pgm 31 rfl)) rfl rfl ?_
    refine sf_getI X ff_2_7 lk_397 hk (dkX2_nightsForAll (54, .getfield 37, 3) (pgm 32 rfl)) ?_
    refine so_iald X (rk_2_6 this hk) (dkX2_nightsForAll (57, .iaload, 1) (pgm 33 rfl)) (fun x3 => ?_)
    exact so_iret X hr hlk (dkX2_nightsForAll (58, .ireturn, 1) (pgm 34 rfl))
  · refine so_aload_n (i := 0) X 0 (dkX2_nightsForAll (17, .aload_n 0, 1) (pgm 11 rfl)) rfl rfl ?_
    refine sf_getR X ff_2_6 lk_396 hk (dkX2_nightsForAll (18, .getfield 18, 3) (pgm 12 rfl)) ?_
    refine so_iload_n (i := 1) X 1 (dkX2_nightsForAll (21, .iload_n 1, 1) (pgm 13 rfl)) rfl rfl ?_
    refine so_iload_n (i := 1) X 1 (dkX2_nightsForAll (22, .iload_n 1, 1) (pgm 14 rfl)) rfl rfl ?_
    refine so_aload_n (i := 0) X 0 (dkX2_nightsForAll (23, .aload_n 0, 1) (pgm 15 rfl)) rfl rfl ?_
    refine sf_getI X ff_2_7 lk_397 hk (dkX2_nightsForAll (24, .getfield 37, 3) (pgm 16 rfl)) ?_
    refine so_iconst (v := (-1 : Int32)) X (dkX2_nightsForAll (27, .iconst (-1), 1) (pgm 17 rfl)) ic_m1 ?_
    refine so_ixor X (dkX2_nightsForAll (28, .ixor, 1) (pgm 18 rfl)) ?_
    refine so_iand X (dkX2_nightsForAll (29, .iand, 1) (pgm 19 rfl)) ?_
    refine so_join (jf := fun (t4 : Int32) (h5 : PH) => stI h5 (rt this 6) 1024 s9 t4 (fun (h6 : PH) => lt (s9 + Int32.ofInt 1) (fun (x7 : Int32) => rec9 x7 h6))) (fun (j : Int32 → PH → Option (Int32 × PH)) => ∀ (t4 : Int32) (h5 : PH), SWo (QM mkI below args s D cA ad A) p l e (rmd 2) s m args below meth c 0 0 2 D cA ad A 42 [(0, .ref this), (1, .int s9)] [.int t4, .int s9, .ref (rt this 6)] h5 (j t4 h5)) ?_ (fun j42 hj42 => ?_)
    · intro t4 h5
      refine so_iast X (rk_2_6 this hk) (dkX2_nightsForAll (42, .iastore, 1) (pgm 26 rfl)) (fun h6 => ?_)
      refine so_iinc (i := 1) X 1 (dkX2_nightsForAll (43, .iinc 1 1, 3) (pgm 27 rfl)) rfl rfl (by decide) (Lf := fun x7 => [(1, .int x7), (0, .ref this)]) (fun _ => rfl) (fun x7 => ?_)
      refine so_goto (tgt := 9) X (dkX2_nightsForAll (46, .goto (-37), 3) (pgm 28 rfl)) rfl ?_
      exact so_pick X [1, 0] rfl (hrec9 x7 h6)
    refine so_if_ne (tgt := 41) X (dkX2_nightsForAll (30, .ifCond .ne 11, 3) (pgm 20 rfl)) rfl (fun _ => ?_) (fun _ => ?_)
    · refine so_iconst (v := (-1 : Int32)) X (dkX2_nightsForAll (41, .iconst (-1), 1) (pgm 25 rfl)) ic_m1 ?_
      exact so_pick X [0, 1] rfl (hj42 (-1 : Int32) hh9)
    · refine so_aload_n (i := 0) X 0 (dkX2_nightsForAll (33, .aload_n 0, 1) (pgm 21 rfl)) rfl rfl ?_
      refine so_iload_n (i := 1) X 1 (dkX2_nightsForAll (34, .iload_n 1, 1) (pgm 22 rfl)) rfl rfl ?_
      refine so_callV (n := 1) (As := [.int s9]) X (ct_X2_nightsFor l this s9 hh9 hk) hk (by decide) rfl lk_696 lk_698 lk_4 lk_128 lk_699 (by decide +kernel) rfl rfl rfl (rm_ok (by omega) (by decide)) ⟨Nat.zero_le _, Nat.zero_le _⟩ (Nat.le_of_ble_eq_true rfl) (dkX2_nightsForAll (35, .invokevirtual 93, 3) (pgm 23 rfl)) (fun r8 h9 => ?_) rfl
      refine so_goto (tgt := 42) X (dkX2_nightsForAll (38, .goto 4, 3) (pgm 24 rfl)) rfl ?_
      exact so_pick X [0, 1] rfl (hj42 r8 h9)
def pgX2_givenUpFor : List (Nat × Instr × Nat) := [(0, .aload_n 0, 1), (1, .iconst 1, 1), (2, .iload_n 1, 1), (3, .ishl, 1), (4, .invokevirtual 86, 3), (7, .ifCond .ne 5, 3), (10, .iconst (-1), 1), (11, .ireturn, 1), (12, .aload_n 0, 1), (13, .getfield 37, 3), (16, .aload_n 0, 1), (17, .getfield 21, 3), (20, .getfield 96, 3), (23, .iconst (-1), 1), (24, .ixor, 1), (25, .iand, 1), (26, .iconst 1, 1), (27, .iload_n 1, 1), (28, .ishl, 1), (29, .iconst (-1), 1), (30, .ixor, 1), (31, .iand, 1), (32, .istore_n 2, 1), (33, .iconst (-1), 1), (34, .istore_n 3, 1), (35, .iconst 0, 1), (36, .istore 4, 2), (38, .iload 4, 2), (40, .iload_n 2, 1), (41, .if_icmp .gt 54, 3), (44, .iload 4, 2), (46, .iload_n 2, 1), (47, .iconst (-1), 1), (48, .ixor, 1), (49, .iand, 1), (50, .ifCond .ne 39, 3), (53, .aload_n 0, 1), (54, .aload_n 0, 1), (55, .getfield 37, 3), (58, .iload 4, 2), (60, .iconst (-1), 1), (61, .ixor, 1), (62, .iand, 1), (63, .invokevirtual 86, 3), (66, .ifCond .eq 23, 3), (69, .iload_n 3, 1), (70, .iconst (-1), 1), (71, .if_icmp .eq 15, 3), (74, .iload 4, 2), (76, .invokestatic 80, 3), (79, .iload_n 3, 1), (80, .invokestatic 80, 3), (83, .if_icmp .ge 6, 3), (86, .iload 4, 2), (88, .istore_n 3, 1), (89, .iinc 4 1, 3), (92, .goto (-54), 3), (95, .iload_n 3, 1), (96, .ireturn, 1)]
theorem dkX2_givenUpFor : ∀ q ∈ pgX2_givenUpFor, decode cX2_givenUpFor q.1 = .ok q.2 := by decide +kernel
def b_X2_givenUpFor_38 (this : Nat) (x3 : Int32) (rec38 : (Int32 × Int32) → PH → Option (Int32 × PH)) (s38 : Int32 × Int32) (hh38 : PH) : Option (Int32 × PH) :=
  if x3 < s38.2 then (some (s38.1, hh38)) else (lt (fun (y6 : Int32) (h7 : PH) => lt (s38.2 + Int32.ofInt 1) (fun (x8 : Int32) => rec38 (y6, x8) h7)) (fun (j89 : Int32 → PH → Option (Int32 × PH)) => if (s38.2 &&& (x3 ^^^ (-1 : Int32))) = 0 then (cb (f_X2_areTogether this ((hh38.1 this 7) &&& (s38.2 ^^^ (-1 : Int32))) hh38) (fun (r9 : Int32) (h10 : PH) => if r9 = 0 then (j89 s38.1 h10) else (lt (fun (h11 : PH) => lt s38.2 (fun (x12 : Int32) => j89 x12 h11)) (fun (j86 : PH → Option (Int32 × PH)) => if s38.1 = (-1 : Int32) then (j86 h10) else (cb (f_J6_bitCount_0f7a4 s38.2 h10) (fun (r13 : Int32) (h14 : PH) => cb (f_J6_bitCount_0f7a4 s38.1 h14) (fun (r15 : Int32) (h16 : PH) => if r15 ≤ r13 then (j89 s38.1 h16) else (j86 h16)))))))) else (j89 s38.1 hh38)))
def f_X2_givenUpFor (this : Nat) (a1 : Int32) (h0 : PH) : Option (Int32 × PH) :=
  cb (f_X2_areTogether this ((1 : Int32) <<< (a1 &&& 31)) h0) (fun (r1 : Int32) (h2 : PH) => if r1 = 0 then (some ((-1 : Int32), h2)) else (lt (((h2.1 this 7) &&& ((h2.1 (rt this 0) 6) ^^^ (-1 : Int32))) &&& (((1 : Int32) <<< (a1 &&& 31)) ^^^ (-1 : Int32))) (fun (x3 : Int32) => lt (-1 : Int32) (fun (x4 : Int32) => lt (0 : Int32) (fun (x5 : Int32) => lp (b_X2_givenUpFor_38 this x3) FU (x4, x5) h2)))))
set_option maxRecDepth 100000 in
set_option maxHeartbeats 4000000 in
theorem ct_X2_givenUpFor (l : Launch) (this : Nat) (a1 : Int32) (h0 : PH) (hk : (kd this).1 = 2) : CT mkI l yX2_givenUpFor cX2_givenUpFor 5 (some .int) (rmd 1) [.ref this, .int a1] h0 (f_X2_givenUpFor this a1 h0) := by
  refine ct_of (by decide) (Nat.le_of_ble_eq_true rfl) ?_
  intro p e s m args below meth c D cA ad A X hr hlk
  have X : Cx p s m args c RX2 cX2_givenUpFor 5 D cA ad A := X
  unfold f_X2_givenUpFor
  refine so_pick (L' := [(0, .ref this), (1, .int a1)]) X [0, 1] rfl ?_
  refine so_aload_n (i := 0) X 0 (dkX2_givenUpFor (0, .aload_n 0, 1) (pgm 0 rfl)) rfl rfl ?_
  refine so_iconst (v := (1 : Int32)) X (dkX2_givenUpFor (1, .iconst 1, 1) (pgm 1 rfl)) ic_1 ?_
  refine so_iload_n (i := 1) X 1 (dkX2_givenUpFor (2, .iload_n 1, 1) (pgm 2 rfl)) rfl rfl ?_
  refine so_ishl X (dkX2_givenUpFor (3, .ishl, 1) (pgm 3 rfl)) ?_
  refine so_callV (n := 1) (As := [.int ((1 : Int32) <<< (a1 &&& 31))]) X (ct_X2_areTogether l this ((1 : Int32) <<< (a1 &&& 31)) h0 hk) hk (by decide) rfl lk_700 lk_702 lk_5 lk_128 lk_703 (by decide +kernel) rfl rfl rfl (rm_ok (by omega) (by decide)) ⟨Nat.zero_le _, Nat.zero_le _⟩ (Nat.le_of_ble_eq_true rfl) (dkX2_givenUpFor (4, .invokevirtual 86, 3) (pgm 4 rfl)) (fun r1 h2 => ?_) rfl
  refine so_if_ne (tgt := 12) X (dkX2_givenUpFor (7, .ifCond .ne 5, 3) (pgm 5 rfl)) rfl (fun _ => ?_) (fun _ => ?_)
  · refine so_aload_n (i := 0) X 0 (dkX2_givenUpFor (12, .aload_n 0, 1) (pgm 8 rfl)) rfl rfl ?_
    refine sf_getI X ff_2_7 lk_397 hk (dkX2_givenUpFor (13, .getfield 37, 3) (pgm 9 rfl)) ?_
    refine so_aload_n (i := 0) X 0 (dkX2_givenUpFor (16, .aload_n 0, 1) (pgm 10 rfl)) rfl rfl ?_
    refine sf_getR X ff_2_0 lk_386 hk (dkX2_givenUpFor (17, .getfield 21, 3) (pgm 11 rfl)) ?_
    refine sf_getI X ff_8_6 lk_192 (fo (rk_2_0 this hk)) (dkX2_givenUpFor (20, .getfield 96, 3) (pgm 12 rfl)) ?_
    refine so_iconst (v := (-1 : Int32)) X (dkX2_givenUpFor (23, .iconst (-1), 1) (pgm 13 rfl)) ic_m1 ?_
    refine so_ixor X (dkX2_givenUpFor (24, .ixor, 1) (pgm 14 rfl)) ?_
    refine so_iand X (dkX2_givenUpFor (25, .iand, 1) (pgm 15 rfl)) ?_
    refine so_iconst (v := (1 : Int32)) X (dkX2_givenUpFor (26, .iconst 1, 1) (pgm 16 rfl)) ic_1 ?_
    refine so_iload_n (i := 1) X 1 (dkX2_givenUpFor (27, .iload_n 1, 1) (pgm 17 rfl)) rfl rfl ?_
    refine so_ishl X (dkX2_givenUpFor (28, .ishl, 1) (pgm 18 rfl)) ?_
    refine so_iconst (v := (-1 : Int32)) X (dkX2_givenUpFor (29, .iconst (-1), 1) (pgm 19 rfl)) ic_m1 ?_
    refine so_ixor X (dkX2_givenUpFor (30, .ixor, 1) (pgm 20 rfl)) ?_
    refine so_iand X (dkX2_givenUpFor (31, .iand, 1) (pgm 21 rfl)) ?_
    refine so_istore_n (i := 2) X (dkX2_givenUpFor (32, .istore_n 2, 1) (pgm 22 rfl)) rfl (by decide) (Lf := fun x3 => [(2, .int x3), (0, .ref this), (1, .int a1)]) (fun _ => rfl) (fun x3 => ?_)
    refine so_iconst (v := (-1 : Int32)) X (dkX2_givenUpFor (33, .iconst (-1), 1) (pgm 23 rfl)) ic_m1 ?_
    refine so_istore_n (i := 3) X (dkX2_givenUpFor (34, .istore_n 3, 1) (pgm 24 rfl)) rfl (by decide) (Lf := fun x4 => [(3, .int x4), (2, .int x3), (0, .ref this), (1, .int a1)]) (fun _ => rfl) (fun x4 => ?_)
    refine so_iconst (v := (0 : Int32)) X (dkX2_givenUpFor (35, .iconst 0, 1) (pgm 25 rfl)) ic_0 ?_
    refine so_istore (i := 4) X (dkX2_givenUpFor (36, .istore 4, 2) (pgm 26 rfl)) (by decide) (Lf := fun x5 => [(4, .int x5), (3, .int x4), (2, .int x3), (0, .ref this), (1, .int a1)]) (fun _ => rfl) (fun x5 => ?_)
    refine so_pick (L' := [(0, .ref this), (2, .int x3), (3, .int x4), (4, .int x5)]) X [3, 2, 1, 0] rfl ?_
    refine so_loop (body := b_X2_givenUpFor_38 this x3) (fun (s38 : Int32 × Int32) => [(0, .ref this), (2, .int x3), (3, .int s38.1), (4, .int s38.2)]) (fun rec38 hrec38 s38 hh38 => ?_) FU (x4, x5) h2
    unfold b_X2_givenUpFor_38
    refine so_iload (i := 4) X 3 (dkX2_givenUpFor (38, .iload 4, 2) (pgm 27 rfl)) rfl ?_
    refine so_iload_n (i := 2) X 1 (dkX2_givenUpFor (40, .iload_n 2, 1) (pgm 28 rfl)) rfl rfl ?_
    refine so_icmp_gt (tgt := 95) X (dkX2_givenUpFor (41, .if_icmp .gt 54, 3) (pgm 29 rfl)) rfl (fun _ => ?_) (fun _ => ?_)
    · refine so_iload_n (i := 3) X 2 (dkX2_givenUpFor (95, .iload_n 3, 1) (pgm 57 rfl)) rfl rfl ?_
      exact so_iret X hr hlk (dkX2_givenUpFor (96, .ireturn, 1) (pgm 58 rfl))
    · refine so_iload (i := 4) X 3 (dkX2_givenUpFor (44, .iload 4, 2) (pgm 30 rfl)) rfl ?_
      refine so_iload_n (i := 2) X 1 (dkX2_givenUpFor (46, .iload_n 2, 1) (pgm 31 rfl)) rfl rfl ?_
      refine so_iconst (v := (-1 : Int32)) X (dkX2_givenUpFor (47, .iconst (-1), 1) (pgm 32 rfl)) ic_m1 ?_
      refine so_ixor X (dkX2_givenUpFor (48, .ixor, 1) (pgm 33 rfl)) ?_
      refine so_iand X (dkX2_givenUpFor (49, .iand, 1) (pgm 34 rfl)) ?_
      refine so_join (jf := fun (y6 : Int32) (h7 : PH) => lt (s38.2 + Int32.ofInt 1) (fun (x8 : Int32) => rec38 (y6, x8) h7)) (fun (j : Int32 → PH → Option (Int32 × PH)) => ∀ (y6 : Int32) (h7 : PH), SWo (QM mkI below args s D cA ad A) p l e (rmd 1) s m args below meth c 0 0 5 D cA ad A 89 [(0, .ref this), (2, .int x3), (3, .int y6), (4, .int s38.2)] [] h7 (j y6 h7)) ?_ (fun j89 hj89 => ?_)
      · intro y6 h7
        refine so_iinc (i := 4) X 3 (dkX2_givenUpFor (89, .iinc 4 1, 3) (pgm 55 rfl)) rfl rfl (by decide) (Lf := fun x8 => [(4, .int x8), (0, .ref this), (2, .int x3), (3, .int y6)]) (fun _ => rfl) (fun x8 => ?_)
        refine so_goto (tgt := 38) X (dkX2_givenUpFor (92, .goto (-54), 3) (pgm 56 rfl)) rfl ?_
        exact so_pick X [1, 2, 3, 0] rfl (hrec38 (y6, x8) h7)
      refine so_if_ne (tgt := 89) X (dkX2_givenUpFor (50, .ifCond .ne 39, 3) (pgm 35 rfl)) rfl (fun _ => ?_) (fun _ => ?_)
      · exact so_pick X [0, 1, 2, 3] rfl (hj89 s38.1 hh38)
      · refine so_aload_n (i := 0) X 0 (dkX2_givenUpFor (53, .aload_n 0, 1) (pgm 36 rfl)) rfl rfl ?_
        refine so_aload_n (i := 0) X 0 (dkX2_givenUpFor (54, .aload_n 0, 1) (pgm 37 rfl)) rfl rfl ?_
        refine sf_getI X ff_2_7 lk_397 hk (dkX2_givenUpFor (55, .getfield 37, 3) (pgm 38 rfl)) ?_
        refine so_iload (i := 4) X 3 (dkX2_givenUpFor (58, .iload 4, 2) (pgm 39 rfl)) rfl ?_
        refine so_iconst (v := (-1 : Int32)) X (dkX2_givenUpFor (60, .iconst (-1), 1) (pgm 40 rfl)) ic_m1 ?_
        refine so_ixor X (dkX2_givenUpFor (61, .ixor, 1) (pgm 41 rfl)) ?_
        refine so_iand X (dkX2_givenUpFor (62, .iand, 1) (pgm 42 rfl)) ?_
        refine so_callV (n := 1) (As := [.int ((hh38.1 this 7) &&& (s38.2 ^^^ (-1 : Int32)))]) X (ct_X2_areTogether l this ((hh38.1 this 7) &&& (s38.2 ^^^ (-1 : Int32))) hh38 hk) hk (by decide) rfl lk_700 lk_702 lk_5 lk_128 lk_703 (by decide +kernel) rfl rfl rfl (rm_ok (by omega) (by decide)) ⟨Nat.zero_le _, Nat.zero_le _⟩ (Nat.le_of_ble_eq_true rfl) (dkX2_givenUpFor (63, .invokevirtual 86, 3) (pgm 43 rfl)) (fun r9 h10 => ?_) rfl
        refine so_if_eq (tgt := 89) X (dkX2_givenUpFor (66, .ifCond .eq 23, 3) (pgm 44 rfl)) rfl (fun _ => ?_) (fun _ => ?_)
        · exact so_pick X [0, 1, 2, 3] rfl (hj89 s38.1 h10)
        · refine so_iload_n (i := 3) X 2 (dkX2_givenUpFor (69, .iload_n 3, 1) (pgm 45 rfl)) rfl rfl ?_
          refine so_iconst (v := (-1 : Int32)) X (dkX2_givenUpFor (70, .iconst (-1), 1) (pgm 46 rfl)) ic_m1 ?_
          refine so_join (jf := fun (h11 : PH) => lt s38.2 (fun (x12 : Int32) => j89 x12 h11)) (fun (j : PH → Option (Int32 × PH)) => ∀  (h11 : PH), SWo (QM mkI below args s D cA ad A) p l e (rmd 1) s m args below meth c 0 0 5 D cA ad A 86 [(0, .ref this), (2, .int x3), (4, .int s38.2)] [] h11 (j h11)) ?_ (fun j86 hj86 => ?_)
          · intro h11
            refine so_iload (i := 4) X 2 (dkX2_givenUpFor (86, .iload 4, 2) (pgm 53 rfl)) rfl ?_
            refine so_istore_n (i := 3) X (dkX2_givenUpFor (88, .istore_n 3, 1) (pgm 54 rfl)) rfl (by decide) (Lf := fun x12 => [(3, .int x12), (0, .ref this), (2, .int x3), (4, .int s38.2)]) (fun _ => rfl) (fun x12 => ?_)
            exact so_pick X [1, 2, 0, 3] rfl (hj89 x12 h11)
          refine so_icmp_eq (tgt := 86) X (dkX2_givenUpFor (71, .if_icmp .eq 15, 3) (pgm 47 rfl)) rfl (fun _ => ?_) (fun _ => ?_)
          · exact so_pick X [0, 1, 3] rfl (hj86 h10)
          · refine so_iload (i := 4) X 3 (dkX2_givenUpFor (74, .iload 4, 2) (pgm 48 rfl)) rfl ?_
            refine so_callS (n := 1) (As := [.int s38.2]) X (ct_J6_bitCount_0f7a4 l s38.2 h10 ) lk_683 lk_635 lk_147 lk_636 (by decide +kernel) rfl rfl rfl (rm_ok (by omega) (by decide)) ⟨Nat.zero_le _, Nat.zero_le _⟩ (Nat.le_of_ble_eq_true rfl) (dkX2_givenUpFor (76, .invokestatic 80, 3) (pgm 49 rfl)) (fun r13 h14 => ?_) rfl
            refine so_iload_n (i := 3) X 2 (dkX2_givenUpFor (79, .iload_n 3, 1) (pgm 50 rfl)) rfl rfl ?_
            refine so_callS (n := 1) (As := [.int s38.1]) X (ct_J6_bitCount_0f7a4 l s38.1 h14 ) lk_683 lk_635 lk_147 lk_636 (by decide +kernel) rfl rfl rfl (rm_ok (by omega) (by decide)) ⟨Nat.zero_le _, Nat.zero_le _⟩ (Nat.le_of_ble_eq_true rfl) (dkX2_givenUpFor (80, .invokestatic 80, 3) (pgm 51 rfl)) (fun r15 h16 => ?_) rfl
            refine so_icmp_ge (tgt := 89) X (dkX2_givenUpFor (83, .if_icmp .ge 6, 3) (pgm 52 rfl)) rfl (fun _ => ?_) (fun _ => ?_)
            · exact so_pick X [0, 1, 2, 3] rfl (hj89 s38.1 h16)
            · exact so_pick X [0, 1, 3] rfl (hj86 h16)
  · refine so_iconst (v := (-1 : Int32)) X (dkX2_givenUpFor (10, .iconst (-1), 1) (pgm 6 rfl)) ic_m1 ?_
    exact so_iret X hr hlk (dkX2_givenUpFor (11, .ireturn, 1) (pgm 7 rfl))
def pgX3_forget : List (Nat × Instr × Nat) := [(0, .aload_n 0, 1), (1, .getfield 9, 3), (4, .iconst (-1), 1), (5, .invokestatic 22, 3), (8, .return_, 1)]
theorem dkX3_forget : ∀ q ∈ pgX3_forget, decode cX3_forget q.1 = .ok q.2 := by decide +kernel
def f_X3_forget (this : Nat) (h0 : PH) : Option (Unit × PH) :=
  cb (f_J7_fill_53178 (rt this 1) 4096 (-1 : Int32) h0) (fun (r1 : Unit) (h2 : PH) => some ((), h2))
set_option maxRecDepth 100000 in
set_option maxHeartbeats 4000000 in
theorem ct_X3_forget (l : Launch) (this : Nat) (h0 : PH) (hk : (kd this).1 = 3) : CT mkV l yX3_forget cX3_forget 1 none (rmd 1) [.ref this] h0 (f_X3_forget this h0) := by
  refine ct_of (by decide) (Nat.le_of_ble_eq_true rfl) ?_
  intro p e s m args below meth c D cA ad A X hr hlk
  have X : Cx p s m args c RX3 cX3_forget 1 D cA ad A := X
  unfold f_X3_forget
  refine so_pick (L' := [(0, .ref this)]) X [0] rfl ?_
  refine so_aload_n (i := 0) X 0 (dkX3_forget (0, .aload_n 0, 1) (pgm 0 rfl)) rfl rfl ?_
  refine sf_getR X ff_3_1 lk_371 hk (dkX3_forget (1, .getfield 9, 3) (pgm 1 rfl)) ?_
  refine so_iconst (v := (-1 : Int32)) X (dkX3_forget (4, .iconst (-1), 1) (pgm 2 rfl)) ic_m1 ?_
  refine so_callS (n := 2) (As := [.ref (rt this 1), .int (-1 : Int32)]) X (ct_J7_fill_53178 l (rt this 1) 4096 (-1 : Int32) h0 (rk_3_1 this hk)) lk_367 lk_368 lk_127 lk_369 (by decide +kernel) rfl rfl rfl (rm_ok (by omega) (by decide)) ⟨Nat.zero_le _, Nat.zero_le _⟩ (Nat.le_of_ble_eq_true rfl) (dkX3_forget (5, .invokestatic 22, 3) (pgm 3 rfl)) (fun r1 h2 => ?_) rfl
  exact so_vret X hr hlk (dkX3_forget (8, .return_, 1) (pgm 4 rfl))
def pgX3_truthOf : List (Nat × Instr × Nat) := [(0, .iconst 0, 1), (1, .istore_n 3, 1), (2, .aload_n 0, 1), (3, .getfield 18, 3), (6, .getfield 38, 3), (9, .iload_n 1, 1), (10, .iaload, 1), (11, .istore 4, 2), (13, .iload 4, 2), (15, .aload_n 0, 1), (16, .getfield 18, 3), (19, .getfield 38, 3), (22, .iload_n 1, 1), (23, .iconst 1, 1), (24, .iadd, 1), (25, .iaload, 1), (26, .if_icmp .ge 156, 3), (29, .aload_n 0, 1), (30, .getfield 18, 3), (33, .getfield 41, 3), (36, .iload 4, 2), (38, .iaload, 1), (39, .bipush 12, 2), (41, .ishr, 1), (42, .istore 5, 2), (44, .aload_n 0, 1), (45, .getfield 18, 3), (48, .getfield 41, 3), (51, .iload 4, 2), (53, .iaload, 1), (54, .sipush 4095, 3), (57, .iand, 1), (58, .istore 6, 2), (60, .iload 5, 2), (62, .bipush 11, 2), (64, .if_icmp .lt 41, 3), (67, .iload_n 3, 1), (68, .sipush 900, 3), (71, .if_icmp .ge 34, 3), (74, .aload_n 0, 1), (75, .getfield 15, 3), (78, .iload_n 3, 1), (79, .iload 5, 2), (81, .bipush 11, 2), (83, .if_icmp .ne 8, 3), (86, .iload 6, 2), (88, .goto 10, 3), (91, .iload_n 2, 1), (92, .iload 6, 2), (94, .iand, 1), (95, .invokestatic 44, 3), (98, .iastore, 1), (99, .iinc 3 1, 3), (102, .goto 74, 3), (105, .iload 5, 2), (107, .iconst 4, 1), (108, .if_icmp .ne 28, 3), (111, .iload_n 3, 1), (112, .ifCond .le 24, 3), (115, .aload_n 0, 1), (116, .getfield 15, 3), (119, .iload_n 3, 1), (120, .iconst 1, 1), (121, .isub, 1), (122, .iconst 1, 1), (123, .aload_n 0, 1), (124, .getfield 15, 3), (127, .iload_n 3, 1), (128, .iconst 1, 1), (129, .isub, 1), (130, .iaload, 1), (131, .isub, 1), (132, .iastore, 1), (133, .goto 43, 3), (136, .iload_n 3, 1), (137, .iconst 1, 1), (138, .if_icmp .le 38, 3), (141, .iinc 3 (-1), 3), (144, .aload_n 0, 1), (145, .getfield 15, 3), (148, .iload_n 3, 1), (149, .iconst 1, 1), (150, .isub, 1), (151, .iload 5, 2), (153, .aload_n 0, 1), (154, .getfield 15, 3), (157, .iload_n 3, 1), (158, .iconst 1, 1), (159, .isub, 1), (160, .iaload, 1), (161, .i2l, 1), (162, .aload_n 0, 1), (163, .getfield 15, 3), (166, .iload_n 3, 1), (167, .iaload, 1), (168, .i2l, 1), (169, .invokestatic 50, 3), (172, .invokestatic 54, 3), (175, .iastore, 1), (176, .iinc 4 1, 3), (179, .goto (-166), 3), (182, .aload_n 0, 1), (183, .getfield 15, 3), (186, .iconst 0, 1), (187, .iaload, 1), (188, .ireturn, 1)]
theorem dkX3_truthOf : ∀ q ∈ pgX3_truthOf, decode cX3_truthOf q.1 = .ok q.2 := by decide +kernel
def b_X3_truthOf_13 (this : Nat) (a1 : Int32) (a2 : Int32) (rec13 : (Int32 × Int32) → PH → Option (Int32 × PH)) (s13 : Int32 × Int32) (hh13 : PH) : Option (Int32 × PH) :=
  ldI hh13 (rt (rt this 0) 14) 11 (a1 + (1 : Int32)) (fun (x4 : Int32) => if x4 ≤ s13.2 then (ldI hh13 (rt this 2) 900 (0 : Int32) (fun (x5 : Int32) => some (x5, hh13))) else (ldI hh13 (rt (rt this 0) 15) 900 s13.2 (fun (x6 : Int32) => lt (x6 >>> ((12 : Int32) &&& 31)) (fun (x7 : Int32) => ldI hh13 (rt (rt this 0) 15) 900 s13.2 (fun (x8 : Int32) => lt (x8 &&& (4095 : Int32)) (fun (x9 : Int32) => lt (fun (y10 : Int32) (h11 : PH) => lt (s13.2 + Int32.ofInt 1) (fun (x12 : Int32) => rec13 (y10, x12) h11)) (fun (j176 : Int32 → PH → Option (Int32 × PH)) => lt (fun (h13 : PH) => lt (fun (h14 : PH) => if s13.1 ≤ (1 : Int32) then (j176 s13.1 h14) else (lt (s13.1 + Int32.ofInt (-1)) (fun (x15 : Int32) => ldI h14 (rt this 2) 900 (x15 - (1 : Int32)) (fun (x16 : Int32) => ldI h14 (rt this 2) 900 x15 (fun (x17 : Int32) => cb (f_X3_reckon x7 x16.toInt64 x17.toInt64 h14) (fun (r18 : Int64) (h19 : PH) => cb (f_X3_kept r18 h19) (fun (r20 : Int32) (h21 : PH) => stI h21 (rt this 2) 900 (x15 - (1 : Int32)) r20 (fun (h22 : PH) => j176 x15 h22)))))))) (fun (j136 : PH → Option (Int32 × PH)) => if x7 = (4 : Int32) then (if s13.1 ≤ 0 then (j136 h13) else (ldI h13 (rt this 2) 900 (s13.1 - (1 : Int32)) (fun (x23 : Int32) => stI h13 (rt this 2) 900 (s13.1 - (1 : Int32)) ((1 : Int32) - x23) (fun (h24 : PH) => j176 s13.1 h24)))) else (j136 h13))) (fun (j105 : PH → Option (Int32 × PH)) => if x7 < (11 : Int32) then (j105 hh13) else (if (900 : Int32) ≤ s13.1 then (j105 hh13) else (lt (fun (t25 : Int32) (h26 : PH) => stI h26 (rt this 2) 900 s13.1 t25 (fun (h27 : PH) => lt (s13.1 + Int32.ofInt 1) (fun (x28 : Int32) => j176 x28 h27))) (fun (j98 : Int32 → PH → Option (Int32 × PH)) => if x7 = (11 : Int32) then (j98 x9 hh13) else (cb (f_J6_bitCount_0f7a4 (a2 &&& x9) hh13) (fun (r29 : Int32) (h30 : PH) => j98 r29 h30)))))))))))))
def f_X3_truthOf (this : Nat) (a1 : Int32) (a2 : Int32) (h0 : PH) : Option (Int32 × PH) :=
  lt (0 : Int32) (fun (x1 : Int32) => ldI h0 (rt (rt this 0) 14) 11 a1 (fun (x2 : Int32) => lt x2 (fun (x3 : Int32) => lp (b_X3_truthOf_13 this a1 a2) FU (x1, x3) h0)))
set_option maxRecDepth 100000 in
set_option maxHeartbeats 4000000 in
theorem ct_X3_truthOf (l : Launch) (this : Nat) (a1 : Int32) (a2 : Int32) (h0 : PH) (hk : (kd this).1 = 3) : CT mkI l yX3_truthOf cX3_truthOf 7 (some .int) (rmd 1) [.ref this, .int a1, .int a2] h0 (f_X3_truthOf this a1 a2 h0) := by
  refine ct_of (by decide) (Nat.le_of_ble_eq_true rfl) ?_
  intro p e s m args below meth c D cA ad A X hr hlk
  have X : Cx p s m args c RX3 cX3_truthOf 7 D cA ad A := X
  unfold f_X3_truthOf
  refine so_pick (L' := [(0, .ref this), (1, .int a1), (2, .int a2)]) X [0, 1, 2] rfl ?_
  refine so_iconst (v := (0 : Int32)) X (dkX3_truthOf (0, .iconst 0, 1) (pgm 0 rfl)) ic_0 ?_
  refine so_istore_n (i := 3) X (dkX3_truthOf (1, .istore_n 3, 1) (pgm 1 rfl)) rfl (by decide) (Lf := fun x1 => [(3, .int x1), (0, .ref this), (1, .int a1), (2, .int a2)]) (fun _ => rfl) (fun x1 => ?_)
  refine so_aload_n (i := 0) X 1 (dkX3_truthOf (2, .aload_n 0, 1) (pgm 2 rfl)) rfl rfl ?_
  refine sf_getR X ff_3_0 lk_370 hk (dkX3_truthOf (3, .getfield 18, 3) (pgm 3 rfl)) ?_
  refine sf_getR X ff_8_14 lk_218 (fo (rk_3_0 this hk)) (dkX3_truthOf (6, .getfield 38, 3) (pgm 4 rfl)) ?_
  refine so_iload_n (i := 1) X 2 (dkX3_truthOf (9, .iload_n 1, 1) (pgm 5 rfl)) rfl rfl ?_
  refine so_iald X (rk_8_14 (rt this 0) (fo (rk_3_0 this hk))) (dkX3_truthOf (10, .iaload, 1) (pgm 6 rfl)) (fun x2 => ?_)
  refine so_istore (i := 4) X (dkX3_truthOf (11, .istore 4, 2) (pgm 7 rfl)) (by decide) (Lf := fun x3 => [(4, .int x3), (3, .int x1), (0, .ref this), (1, .int a1), (2, .int a2)]) (fun _ => rfl) (fun x3 => ?_)
  refine so_pick (L' := [(0, .ref this), (1, .int a1), (2, .int a2), (3, .int x1), (4, .int x3)]) X [2, 3, 4, 1, 0] rfl ?_
  refine so_loop (body := b_X3_truthOf_13 this a1 a2) (fun (s13 : Int32 × Int32) => [(0, .ref this), (1, .int a1), (2, .int a2), (3, .int s13.1), (4, .int s13.2)]) (fun rec13 hrec13 s13 hh13 => ?_) FU (x1, x3) h0
  unfold b_X3_truthOf_13
  refine so_iload (i := 4) X 4 (dkX3_truthOf (13, .iload 4, 2) (pgm 8 rfl)) rfl ?_
  refine so_aload_n (i := 0) X 0 (dkX3_truthOf (15, .aload_n 0, 1) (pgm 9 rfl)) rfl rfl ?_
  refine sf_getR X ff_3_0 lk_370 hk (dkX3_truthOf (16, .getfield 18, 3) (pgm 10 rfl)) ?_
  refine sf_getR X ff_8_14 lk_218 (fo (rk_3_0 this hk)) (dkX3_truthOf (19, .getfield 38, 3) (pgm 11 rfl)) ?_
  refine so_iload_n (i := 1) X 1 (dkX3_truthOf (22, .iload_n 1, 1) (pgm 12 rfl)) rfl rfl ?_
  refine so_iconst (v := (1 : Int32)) X (dkX3_truthOf (23, .iconst 1, 1) (pgm 13 rfl)) ic_1 ?_
  refine so_iadd X (dkX3_truthOf (24, .iadd, 1) (pgm 14 rfl)) ?_
  refine so_iald X (rk_8_14 (rt this 0) (fo (rk_3_0 this hk))) (dkX3_truthOf (25, .iaload, 1) (pgm 15 rfl)) (fun x4 => ?_)
  refine so_icmp_ge (tgt := 182) X (dkX3_truthOf (26, .if_icmp .ge 156, 3) (pgm 16 rfl)) rfl (fun _ => ?_) (fun _ => ?_)
  · refine so_aload_n (i := 0) X 0 (dkX3_truthOf (182, .aload_n 0, 1) (pgm 101 rfl)) rfl rfl ?_
    refine sf_getR X ff_3_2 lk_372 hk (dkX3_truthOf (183, .getfield 15, 3) (pgm 102 rfl)) ?_
    refine so_iconst (v := (0 : Int32)) X (dkX3_truthOf (186, .iconst 0, 1) (pgm 103 rfl)) ic_0 ?_
    refine so_iald X (rk_3_2 this hk) (dkX3_truthOf (187, .iaload, 1) (pgm 104 rfl)) (fun x5 => ?_)
    exact so_iret X hr hlk (dkX3_truthOf (188, .ireturn, 1) (pgm 105 rfl))
  · refine so_aload_n (i := 0) X 0 (dkX3_truthOf (29, .aload_n 0, 1) (pgm 17 rfl)) rfl rfl ?_
    refine sf_getR X ff_3_0 lk_370 hk (dkX3_truthOf (30, .getfield 18, 3) (pgm 18 rfl)) ?_
    refine sf_getR X ff_8_15 lk_221 (fo (rk_3_0 this hk)) (dkX3_truthOf (33, .getfield 41, 3) (pgm 19 rfl)) ?_
    refine so_iload (i := 4) X 4 (dkX3_truthOf (36, .iload 4, 2) (pgm 20 rfl)) rfl ?_
    refine so_iald X (rk_8_15 (rt this 0) (fo (rk_3_0 this hk))) (dkX3_truthOf (38, .iaload, 1) (pgm 21 rfl)) (fun x6 => ?_)
    refine so_bipush (v := (12 : Int32)) X (dkX3_truthOf (39, .bipush 12, 2) (pgm 22 rfl)) bp_12 ?_
    refine so_ishr X (dkX3_truthOf (41, .ishr, 1) (pgm 23 rfl)) ?_
    refine so_istore (i := 5) X (dkX3_truthOf (42, .istore 5, 2) (pgm 24 rfl)) (by decide) (Lf := fun x7 => [(5, .int x7), (0, .ref this), (1, .int a1), (2, .int a2), (3, .int s13.1), (4, .int s13.2)]) (fun _ => rfl) (fun x7 => ?_)
    refine so_aload_n (i := 0) X 1 (dkX3_truthOf (44, .aload_n 0, 1) (pgm 25 rfl)) rfl rfl ?_
    refine sf_getR X ff_3_0 lk_370 hk (dkX3_truthOf (45, .getfield 18, 3) (pgm 26 rfl)) ?_
    refine sf_getR X ff_8_15 lk_221 (fo (rk_3_0 this hk)) (dkX3_truthOf (48, .getfield 41, 3) (pgm 27 rfl)) ?_
    refine so_iload (i := 4) X 5 (dkX3_truthOf (51, .iload 4, 2) (pgm 28 rfl)) rfl ?_
    refine so_iald X (rk_8_15 (rt this 0) (fo (rk_3_0 this hk))) (dkX3_truthOf (53, .iaload, 1) (pgm 29 rfl)) (fun x8 => ?_)
    refine so_sipush (v := (4095 : Int32)) X (dkX3_truthOf (54, .sipush 4095, 3) (pgm 30 rfl)) sp_4095 ?_
    refine so_iand X (dkX3_truthOf (57, .iand, 1) (pgm 31 rfl)) ?_
    refine so_istore (i := 6) X (dkX3_truthOf (58, .istore 6, 2) (pgm 32 rfl)) (by decide) (Lf := fun x9 => [(6, .int x9), (5, .int x7), (0, .ref this), (1, .int a1), (2, .int a2), (3, .int s13.1), (4, .int s13.2)]) (fun _ => rfl) (fun x9 => ?_)
    refine so_iload (i := 5) X 1 (dkX3_truthOf (60, .iload 5, 2) (pgm 33 rfl)) rfl ?_
    refine so_bipush (v := (11 : Int32)) X (dkX3_truthOf (62, .bipush 11, 2) (pgm 34 rfl)) bp_11 ?_
    refine so_join (jf := fun (y10 : Int32) (h11 : PH) => lt (s13.2 + Int32.ofInt 1) (fun (x12 : Int32) => rec13 (y10, x12) h11)) (fun (j : Int32 → PH → Option (Int32 × PH)) => ∀ (y10 : Int32) (h11 : PH), SWo (QM mkI below args s D cA ad A) p l e (rmd 1) s m args below meth c 0 0 7 D cA ad A 176 [(0, .ref this), (1, .int a1), (2, .int a2), (3, .int y10), (4, .int s13.2)] [] h11 (j y10 h11)) ?_ (fun j176 hj176 => ?_)
    · intro y10 h11
      refine so_iinc (i := 4) X 4 (dkX3_truthOf (176, .iinc 4 1, 3) (pgm 99 rfl)) rfl rfl (by decide) (Lf := fun x12 => [(4, .int x12), (0, .ref this), (1, .int a1), (2, .int a2), (3, .int y10)]) (fun _ => rfl) (fun x12 => ?_)
      refine so_goto (tgt := 13) X (dkX3_truthOf (179, .goto (-166), 3) (pgm 100 rfl)) rfl ?_
      exact so_pick X [1, 2, 3, 4, 0] rfl (hrec13 (y10, x12) h11)
    refine so_join (jf := fun (h13 : PH) => lt (fun (h14 : PH) => if s13.1 ≤ (1 : Int32) then (j176 s13.1 h14) else (lt (s13.1 + Int32.ofInt (-1)) (fun (x15 : Int32) => ldI h14 (rt this 2) 900 (x15 - (1 : Int32)) (fun (x16 : Int32) => ldI h14 (rt this 2) 900 x15 (fun (x17 : Int32) => cb (f_X3_reckon x7 x16.toInt64 x17.toInt64 h14) (fun (r18 : Int64) (h19 : PH) => cb (f_X3_kept r18 h19) (fun (r20 : Int32) (h21 : PH) => stI h21 (rt this 2) 900 (x15 - (1 : Int32)) r20 (fun (h22 : PH) => j176 x15 h22)))))))) (fun (j136 : PH → Option (Int32 × PH)) => if x7 = (4 : Int32) then (if s13.1 ≤ 0 then (j136 h13) else (ldI h13 (rt this 2) 900 (s13.1 - (1 : Int32)) (fun (x23 : Int32) => stI h13 (rt this 2) 900 (s13.1 - (1 : Int32)) ((1 : Int32) - x23) (fun (h24 : PH) => j176 s13.1 h24)))) else (j136 h13))) (fun (j : PH → Option (Int32 × PH)) => ∀  (h13 : PH), SWo (QM mkI below args s D cA ad A) p l e (rmd 1) s m args below meth c 0 0 7 D cA ad A 105 [(0, .ref this), (1, .int a1), (2, .int a2), (3, .int s13.1), (4, .int s13.2), (5, .int x7)] [] h13 (j h13)) ?_ (fun j105 hj105 => ?_)
    · intro h13
      refine so_iload (i := 5) X 5 (dkX3_truthOf (105, .iload 5, 2) (pgm 54 rfl)) rfl ?_
      refine so_iconst (v := (4 : Int32)) X (dkX3_truthOf (107, .iconst 4, 1) (pgm 55 rfl)) ic_4 ?_
      refine so_join (jf := fun (h14 : PH) => if s13.1 ≤ (1 : Int32) then (j176 s13.1 h14) else (lt (s13.1 + Int32.ofInt (-1)) (fun (x15 : Int32) => ldI h14 (rt this 2) 900 (x15 - (1 : Int32)) (fun (x16 : Int32) => ldI h14 (rt this 2) 900 x15 (fun (x17 : Int32) => cb (f_X3_reckon x7 x16.toInt64 x17.toInt64 h14) (fun (r18 : Int64) (h19 : PH) => cb (f_X3_kept r18 h19) (fun (r20 : Int32) (h21 : PH) => stI h21 (rt this 2) 900 (x15 - (1 : Int32)) r20 (fun (h22 : PH) => j176 x15 h22)))))))) (fun (j : PH → Option (Int32 × PH)) => ∀  (h14 : PH), SWo (QM mkI below args s D cA ad A) p l e (rmd 1) s m args below meth c 0 0 7 D cA ad A 136 [(0, .ref this), (1, .int a1), (2, .int a2), (3, .int s13.1), (4, .int s13.2), (5, .int x7)] [] h14 (j h14)) ?_ (fun j136 hj136 => ?_)
      · intro h14
        refine so_iload_n (i := 3) X 3 (dkX3_truthOf (136, .iload_n 3, 1) (pgm 74 rfl)) rfl rfl ?_
        refine so_iconst (v := (1 : Int32)) X (dkX3_truthOf (137, .iconst 1, 1) (pgm 75 rfl)) ic_1 ?_
        refine so_icmp_le (tgt := 176) X (dkX3_truthOf (138, .if_icmp .le 38, 3) (pgm 76 rfl)) rfl (fun _ => ?_) (fun _ => ?_)
        · exact so_pick X [0, 1, 2, 3, 4] rfl (hj176 s13.1 h14)
        · refine so_iinc (i := 3) X 3 (dkX3_truthOf (141, .iinc 3 (-1), 3) (pgm 77 rfl)) rfl rfl (by decide) (Lf := fun x15 => [(3, .int x15), (0, .ref this), (1, .int a1), (2, .int a2), (4, .int s13.2), (5, .int x7)]) (fun _ => rfl) (fun x15 => ?_)
          refine so_aload_n (i := 0) X 1 (dkX3_truthOf (144, .aload_n 0, 1) (pgm 78 rfl)) rfl rfl ?_
          refine sf_getR X ff_3_2 lk_372 hk (dkX3_truthOf (145, .getfield 15, 3) (pgm 79 rfl)) ?_
          refine so_iload_n (i := 3) X 0 (dkX3_truthOf (148, .iload_n 3, 1) (pgm 80 rfl)) rfl rfl ?_
          refine so_iconst (v := (1 : Int32)) X (dkX3_truthOf (149, .iconst 1, 1) (pgm 81 rfl)) ic_1 ?_
          refine so_isub X (dkX3_truthOf (150, .isub, 1) (pgm 82 rfl)) ?_
          refine so_iload (i := 5) X 5 (dkX3_truthOf (151, .iload 5, 2) (pgm 83 rfl)) rfl ?_
          refine so_aload_n (i := 0) X 1 (dkX3_truthOf (153, .aload_n 0, 1) (pgm 84 rfl)) rfl rfl ?_
          refine sf_getR X ff_3_2 lk_372 hk (dkX3_truthOf (154, .getfield 15, 3) (pgm 85 rfl)) ?_
          refine so_iload_n (i := 3) X 0 (dkX3_truthOf (157, .iload_n 3, 1) (pgm 86 rfl)) rfl rfl ?_
          refine so_iconst (v := (1 : Int32)) X (dkX3_truthOf (158, .iconst 1, 1) (pgm 87 rfl)) ic_1 ?_
          refine so_isub X (dkX3_truthOf (159, .isub, 1) (pgm 88 rfl)) ?_
          refine so_iald X (rk_3_2 this hk) (dkX3_truthOf (160, .iaload, 1) (pgm 89 rfl)) (fun x16 => ?_)
          refine so_i2l X (dkX3_truthOf (161, .i2l, 1) (pgm 90 rfl)) ?_
          refine so_aload_n (i := 0) X 1 (dkX3_truthOf (162, .aload_n 0, 1) (pgm 91 rfl)) rfl rfl ?_
          refine sf_getR X ff_3_2 lk_372 hk (dkX3_truthOf (163, .getfield 15, 3) (pgm 92 rfl)) ?_
          refine so_iload_n (i := 3) X 0 (dkX3_truthOf (166, .iload_n 3, 1) (pgm 93 rfl)) rfl rfl ?_
          refine so_iald X (rk_3_2 this hk) (dkX3_truthOf (167, .iaload, 1) (pgm 94 rfl)) (fun x17 => ?_)
          refine so_i2l X (dkX3_truthOf (168, .i2l, 1) (pgm 95 rfl)) ?_
          refine so_callS (n := 3) (As := [.int x7, .long x16.toInt64, .long x17.toInt64]) X (ct_X3_reckon l x7 x16.toInt64 x17.toInt64 h14 ) lk_652 lk_653 lk_126 lk_654 (by decide +kernel) rfl rfl rfl (rm_ok (by omega) (by decide)) ⟨Nat.zero_le _, Nat.zero_le _⟩ (Nat.le_of_ble_eq_true rfl) (dkX3_truthOf (169, .invokestatic 50, 3) (pgm 96 rfl)) (fun r18 h19 => ?_) rfl
          refine so_callS (n := 1) (As := [.long r18]) X (ct_X3_kept l r18 h19 ) lk_655 lk_656 lk_126 lk_657 (by decide +kernel) rfl rfl rfl (rm_ok (by omega) (by decide)) ⟨Nat.zero_le _, Nat.zero_le _⟩ (Nat.le_of_ble_eq_true rfl) (dkX3_truthOf (172, .invokestatic 54, 3) (pgm 97 rfl)) (fun r20 h21 => ?_) rfl
          refine so_iast X (rk_3_2 this hk) (dkX3_truthOf (175, .iastore, 1) (pgm 98 rfl)) (fun h22 => ?_)
          exact so_pick X [1, 2, 3, 0, 4] rfl (hj176 x15 h22)
      refine so_icmp_ne (tgt := 136) X (dkX3_truthOf (108, .if_icmp .ne 28, 3) (pgm 56 rfl)) rfl (fun _ => ?_) (fun _ => ?_)
      · exact so_pick X [0, 1, 2, 3, 4, 5] rfl (hj136 h13)
      · refine so_iload_n (i := 3) X 3 (dkX3_truthOf (111, .iload_n 3, 1) (pgm 57 rfl)) rfl rfl ?_
        refine so_if_le (tgt := 136) X (dkX3_truthOf (112, .ifCond .le 24, 3) (pgm 58 rfl)) rfl (fun _ => ?_) (fun _ => ?_)
        · exact so_pick X [0, 1, 2, 3, 4, 5] rfl (hj136 h13)
        · refine so_aload_n (i := 0) X 0 (dkX3_truthOf (115, .aload_n 0, 1) (pgm 59 rfl)) rfl rfl ?_
          refine sf_getR X ff_3_2 lk_372 hk (dkX3_truthOf (116, .getfield 15, 3) (pgm 60 rfl)) ?_
          refine so_iload_n (i := 3) X 3 (dkX3_truthOf (119, .iload_n 3, 1) (pgm 61 rfl)) rfl rfl ?_
          refine so_iconst (v := (1 : Int32)) X (dkX3_truthOf (120, .iconst 1, 1) (pgm 62 rfl)) ic_1 ?_
          refine so_isub X (dkX3_truthOf (121, .isub, 1) (pgm 63 rfl)) ?_
          refine so_iconst (v := (1 : Int32)) X (dkX3_truthOf (122, .iconst 1, 1) (pgm 64 rfl)) ic_1 ?_
          refine so_aload_n (i := 0) X 0 (dkX3_truthOf (123, .aload_n 0, 1) (pgm 65 rfl)) rfl rfl ?_
          refine sf_getR X ff_3_2 lk_372 hk (dkX3_truthOf (124, .getfield 15, 3) (pgm 66 rfl)) ?_
          refine so_iload_n (i := 3) X 3 (dkX3_truthOf (127, .iload_n 3, 1) (pgm 67 rfl)) rfl rfl ?_
          refine so_iconst (v := (1 : Int32)) X (dkX3_truthOf (128, .iconst 1, 1) (pgm 68 rfl)) ic_1 ?_
          refine so_isub X (dkX3_truthOf (129, .isub, 1) (pgm 69 rfl)) ?_
          refine so_iald X (rk_3_2 this hk) (dkX3_truthOf (130, .iaload, 1) (pgm 70 rfl)) (fun x23 => ?_)
          refine so_isub X (dkX3_truthOf (131, .isub, 1) (pgm 71 rfl)) ?_
          refine so_iast X (rk_3_2 this hk) (dkX3_truthOf (132, .iastore, 1) (pgm 72 rfl)) (fun h24 => ?_)
          refine so_goto (tgt := 176) X (dkX3_truthOf (133, .goto 43, 3) (pgm 73 rfl)) rfl ?_
          exact so_pick X [0, 1, 2, 3, 4] rfl (hj176 s13.1 h24)
    refine so_icmp_lt (tgt := 105) X (dkX3_truthOf (64, .if_icmp .lt 41, 3) (pgm 35 rfl)) rfl (fun _ => ?_) (fun _ => ?_)
    · exact so_pick X [2, 3, 4, 5, 6, 1] rfl (hj105 hh13)
    · refine so_iload_n (i := 3) X 5 (dkX3_truthOf (67, .iload_n 3, 1) (pgm 36 rfl)) rfl rfl ?_
      refine so_sipush (v := (900 : Int32)) X (dkX3_truthOf (68, .sipush 900, 3) (pgm 37 rfl)) sp_900 ?_
      refine so_icmp_ge (tgt := 105) X (dkX3_truthOf (71, .if_icmp .ge 34, 3) (pgm 38 rfl)) rfl (fun _ => ?_) (fun _ => ?_)
      · exact so_pick X [2, 3, 4, 5, 6, 1] rfl (hj105 hh13)
      · refine so_aload_n (i := 0) X 2 (dkX3_truthOf (74, .aload_n 0, 1) (pgm 39 rfl)) rfl rfl ?_
        refine sf_getR X ff_3_2 lk_372 hk (dkX3_truthOf (75, .getfield 15, 3) (pgm 40 rfl)) ?_
        refine so_iload_n (i := 3) X 5 (dkX3_truthOf (78, .iload_n 3, 1) (pgm 41 rfl)) rfl rfl ?_
        refine so_iload (i := 5) X 1 (dkX3_truthOf (79, .iload 5, 2) (pgm 42 rfl)) rfl ?_
        refine so_bipush (v := (11 : Int32)) X (dkX3_truthOf (81, .bipush 11, 2) (pgm 43 rfl)) bp_11 ?_
        refine so_join (jf := fun (t25 : Int32) (h26 : PH) => stI h26 (rt this 2) 900 s13.1 t25 (fun (h27 : PH) => lt (s13.1 + Int32.ofInt 1) (fun (x28 : Int32) => j176 x28 h27))) (fun (j : Int32 → PH → Option (Int32 × PH)) => ∀ (t25 : Int32) (h26 : PH), SWo (QM mkI below args s D cA ad A) p l e (rmd 1) s m args below meth c 0 0 7 D cA ad A 98 [(0, .ref this), (1, .int a1), (2, .int a2), (3, .int s13.1), (4, .int s13.2)] [.int t25, .int s13.1, .ref (rt this 2)] h26 (j t25 h26)) ?_ (fun j98 hj98 => ?_)
        · intro t25 h26
          refine so_iast X (rk_3_2 this hk) (dkX3_truthOf (98, .iastore, 1) (pgm 51 rfl)) (fun h27 => ?_)
          refine so_iinc (i := 3) X 3 (dkX3_truthOf (99, .iinc 3 1, 3) (pgm 52 rfl)) rfl rfl (by decide) (Lf := fun x28 => [(3, .int x28), (0, .ref this), (1, .int a1), (2, .int a2), (4, .int s13.2)]) (fun _ => rfl) (fun x28 => ?_)
          refine so_goto (tgt := 176) X (dkX3_truthOf (102, .goto 74, 3) (pgm 53 rfl)) rfl ?_
          exact so_pick X [1, 2, 3, 0, 4] rfl (hj176 x28 h27)
        refine so_icmp_ne (tgt := 91) X (dkX3_truthOf (83, .if_icmp .ne 8, 3) (pgm 44 rfl)) rfl (fun _ => ?_) (fun _ => ?_)
        · refine so_iload_n (i := 2) X 4 (dkX3_truthOf (91, .iload_n 2, 1) (pgm 47 rfl)) rfl rfl ?_
          refine so_iload (i := 6) X 0 (dkX3_truthOf (92, .iload 6, 2) (pgm 48 rfl)) rfl ?_
          refine so_iand X (dkX3_truthOf (94, .iand, 1) (pgm 49 rfl)) ?_
          refine so_callS (n := 1) (As := [.int (a2 &&& x9)]) X (ct_J6_bitCount_0f7a4 l (a2 &&& x9) hh13 ) lk_634 lk_635 lk_147 lk_636 (by decide +kernel) rfl rfl rfl (rm_ok (by omega) (by decide)) ⟨Nat.zero_le _, Nat.zero_le _⟩ (Nat.le_of_ble_eq_true rfl) (dkX3_truthOf (95, .invokestatic 44, 3) (pgm 50 rfl)) (fun r29 h30 => ?_) rfl
          exact so_pick X [2, 3, 4, 5, 6] rfl (hj98 r29 h30)
        · refine so_iload (i := 6) X 0 (dkX3_truthOf (86, .iload 6, 2) (pgm 45 rfl)) rfl ?_
          refine so_goto (tgt := 98) X (dkX3_truthOf (88, .goto 10, 3) (pgm 46 rfl)) rfl ?_
          exact so_pick X [2, 3, 4, 5, 6] rfl (hj98 x9 hh13)
def pgX4_reckon : List (Nat × Instr × Nat) := [(0, .aload_n 0, 1), (1, .getfield 20, 3), (4, .iconst 0, 1), (5, .lconst 1, 1), (6, .lastore, 1), (7, .iconst 1, 1), (8, .istore_n 2, 1), (9, .iload_n 2, 1), (10, .iload_n 1, 1), (11, .if_icmp .gt 105, 3), (14, .aload_n 0, 1), (15, .getfield 20, 3), (18, .iload_n 2, 1), (19, .aload_n 0, 1), (20, .getfield 20, 3), (23, .iload_n 2, 1), (24, .iconst 1, 1), (25, .isub, 1), (26, .laload, 1), (27, .aload_n 0, 1), (28, .getfield 30, 3), (31, .i2l, 1), (32, .lmul, 1), (33, .lastore, 1), (34, .iconst 1, 1), (35, .istore_n 3, 1), (36, .iload_n 3, 1), (37, .bipush 6, 2), (39, .if_icmp .gt 71, 3), (42, .lconst 0, 1), (43, .lstore 4, 2), (45, .iconst 0, 1), (46, .istore 6, 2), (48, .iload 6, 2), (50, .aload_n 0, 1), (51, .getfield 30, 3), (54, .if_icmp .ge 40, 3), (57, .lload 4, 2), (59, .aload_n 0, 1), (60, .aload_n 0, 1), (61, .getfield 11, 3), (64, .iload 6, 2), (66, .iaload, 1), (67, .iload_n 2, 1), (68, .iload_n 3, 1), (69, .invokevirtual 36, 3), (72, .aload_n 0, 1), (73, .getfield 17, 3), (76, .iload_n 2, 1), (77, .iconst 1, 1), (78, .isub, 1), (79, .aaload, 1), (80, .iload_n 3, 1), (81, .laload, 1), (82, .invokestatic 40, 3), (85, .ladd, 1), (86, .lstore 4, 2), (88, .iinc 6 1, 3), (91, .goto (-43), 3), (94, .aload_n 0, 1), (95, .getfield 17, 3), (98, .iload_n 2, 1), (99, .aaload, 1), (100, .iload_n 3, 1), (101, .lload 4, 2), (103, .lastore, 1), (104, .iinc 3 1, 3), (107, .goto (-71), 3), (110, .iinc 2 1, 3), (113, .goto (-104), 3), (116, .return_, 1)]
theorem dkX4_reckon : ∀ q ∈ pgX4_reckon, decode cX4_reckon q.1 = .ok q.2 := by decide +kernel
def b_X4_reckon_48 (this : Nat) (s9 : Int32) (s36 : Int32) (j94 : Int64 → PH → Option (Unit × PH)) (rec48 : (Int64 × Int32) → PH → Option (Unit × PH)) (s48 : Int64 × Int32) (hh48 : PH) : Option (Unit × PH) :=
  if (hh48.1 this 1) ≤ s48.2 then (j94 s48.1 hh48) else (ldI hh48 (rt this 0) 6 s48.2 (fun (x15 : Int32) => cb (f_X4_byGranting this x15 s9 s36 hh48) (fun (r16 : Int64) (h17 : PH) => ldR (rt this 2) 7 (s9 - (1 : Int32)) (fun (v18 : Nat) => ldL h17 v18 7 s36 (fun (x19 : Int64) => lt (s48.1 + (if x19 < r16 then r16 else x19)) (fun (x20 : Int64) => lt (s48.2 + Int32.ofInt 1) (fun (x21 : Int32) => rec48 (x20, x21) h17)))))))
def b_X4_reckon_36 (this : Nat) (s9 : Int32) (j110 : PH → Option (Unit × PH)) (rec36 : (Int32) → PH → Option (Unit × PH)) (s36 : Int32) (hh36 : PH) : Option (Unit × PH) :=
  if (6 : Int32) < s36 then (j110 hh36) else (lt (0 : Int64) (fun (x8 : Int64) => lt (0 : Int32) (fun (x9 : Int32) => lt (fun (y10 : Int64) (h11 : PH) => ldR (rt this 2) 7 s9 (fun (v12 : Nat) => stL h11 v12 7 s36 y10 (fun (h13 : PH) => lt (s36 + Int32.ofInt 1) (fun (x14 : Int32) => rec36 x14 h13)))) (fun (j94 : Int64 → PH → Option (Unit × PH)) => lp (b_X4_reckon_48 this s9 s36 j94) FU (x8, x9) hh36))))
def b_X4_reckon_9 (this : Nat) (a1 : Int32) (rec9 : (Int32) → PH → Option (Unit × PH)) (s9 : Int32) (hh9 : PH) : Option (Unit × PH) :=
  if a1 < s9 then (some ((), hh9)) else (ldL hh9 (rt this 3) 7 (s9 - (1 : Int32)) (fun (x3 : Int64) => stL hh9 (rt this 3) 7 s9 (x3 * ((hh9.1 this 1).toInt64)) (fun (h4 : PH) => lt (1 : Int32) (fun (x5 : Int32) => lt (fun (h6 : PH) => lt (s9 + Int32.ofInt 1) (fun (x7 : Int32) => rec9 x7 h6)) (fun (j110 : PH → Option (Unit × PH)) => lp (b_X4_reckon_36 this s9 j110) FU x5 h4)))))
def f_X4_reckon (this : Nat) (a1 : Int32) (h0 : PH) : Option (Unit × PH) :=
  stL h0 (rt this 3) 7 (0 : Int32) (1 : Int64) (fun (h1 : PH) => lt (1 : Int32) (fun (x2 : Int32) => lp (b_X4_reckon_9 this a1) FU x2 h1))
set_option maxRecDepth 100000 in
set_option maxHeartbeats 4000000 in
theorem ct_X4_reckon (l : Launch) (this : Nat) (a1 : Int32) (h0 : PH) (hk : (kd this).1 = 4) : CT mkV l yX4_reckon cX4_reckon 7 none (rmd 1) [.ref this, .int a1] h0 (f_X4_reckon this a1 h0) := by
  refine ct_of (by decide) (Nat.le_of_ble_eq_true rfl) ?_
  intro p e s m args below meth c D cA ad A X hr hlk
  have X : Cx p s m args c RX4 cX4_reckon 7 D cA ad A := X
  unfold f_X4_reckon
  refine so_pick (L' := [(0, .ref this), (1, .int a1)]) X [0, 1] rfl ?_
  refine so_aload_n (i := 0) X 0 (dkX4_reckon (0, .aload_n 0, 1) (pgm 0 rfl)) rfl rfl ?_
  refine sf_getR X ff_4_3 lk_527 hk (dkX4_reckon (1, .getfield 20, 3) (pgm 1 rfl)) ?_
  refine so_iconst (v := (0 : Int32)) X (dkX4_reckon (4, .iconst 0, 1) (pgm 2 rfl)) ic_0 ?_
  refine so_lconst (v := (1 : Int64)) X (dkX4_reckon (5, .lconst 1, 1) (pgm 3 rfl)) lc_1 ?_
  refine so_last X (rk_4_3 this hk) (dkX4_reckon (6, .lastore, 1) (pgm 4 rfl)) (fun h1 => ?_)
  refine so_iconst (v := (1 : Int32)) X (dkX4_reckon (7, .iconst 1, 1) (pgm 5 rfl)) ic_1 ?_
  refine so_istore_n (i := 2) X (dkX4_reckon (8, .istore_n 2, 1) (pgm 6 rfl)) rfl (by decide) (Lf := fun x2 => [(2, .int x2), (0, .ref this), (1, .int a1)]) (fun _ => rfl) (fun x2 => ?_)
  refine so_pick (L' := [(0, .ref this), (1, .int a1), (2, .int x2)]) X [1, 2, 0] rfl ?_
  refine so_loop (body := b_X4_reckon_9 this a1) (fun (s9 : Int32) => [(0, .ref this), (1, .int a1), (2, .int s9)]) (fun rec9 hrec9 s9 hh9 => ?_) FU x2 h1
  unfold b_X4_reckon_9
  refine so_iload_n (i := 2) X 2 (dkX4_reckon (9, .iload_n 2, 1) (pgm 7 rfl)) rfl rfl ?_
  refine so_iload_n (i := 1) X 1 (dkX4_reckon (10, .iload_n 1, 1) (pgm 8 rfl)) rfl rfl ?_
  refine so_icmp_gt (tgt := 116) X (dkX4_reckon (11, .if_icmp .gt 105, 3) (pgm 9 rfl)) rfl (fun _ => ?_) (fun _ => ?_)
  · exact so_vret X hr hlk (dkX4_reckon (116, .return_, 1) (pgm 70 rfl))
  · refine so_aload_n (i := 0) X 0 (dkX4_reckon (14, .aload_n 0, 1) (pgm 10 rfl)) rfl rfl ?_
    refine sf_getR X ff_4_3 lk_527 hk (dkX4_reckon (15, .getfield 20, 3) (pgm 11 rfl)) ?_
    refine so_iload_n (i := 2) X 2 (dkX4_reckon (18, .iload_n 2, 1) (pgm 12 rfl)) rfl rfl ?_
    refine so_aload_n (i := 0) X 0 (dkX4_reckon (19, .aload_n 0, 1) (pgm 13 rfl)) rfl rfl ?_
    refine sf_getR X ff_4_3 lk_527 hk (dkX4_reckon (20, .getfield 20, 3) (pgm 14 rfl)) ?_
    refine so_iload_n (i := 2) X 2 (dkX4_reckon (23, .iload_n 2, 1) (pgm 15 rfl)) rfl rfl ?_
    refine so_iconst (v := (1 : Int32)) X (dkX4_reckon (24, .iconst 1, 1) (pgm 16 rfl)) ic_1 ?_
    refine so_isub X (dkX4_reckon (25, .isub, 1) (pgm 17 rfl)) ?_
    refine so_lald X (rk_4_3 this hk) (dkX4_reckon (26, .laload, 1) (pgm 18 rfl)) (fun x3 => ?_)
    refine so_aload_n (i := 0) X 0 (dkX4_reckon (27, .aload_n 0, 1) (pgm 19 rfl)) rfl rfl ?_
    refine sf_getI X ff_4_1 lk_525 hk (dkX4_reckon (28, .getfield 30, 3) (pgm 20 rfl)) ?_
    refine so_i2l X (dkX4_reckon (31, .i2l, 1) (pgm 21 rfl)) ?_
    refine so_lmul X (dkX4_reckon (32, .lmul, 1) (pgm 22 rfl)) ?_
    refine so_last X (rk_4_3 this hk) (dkX4_reckon (33, .lastore, 1) (pgm 23 rfl)) (fun h4 => ?_)
    refine so_iconst (v := (1 : Int32)) X (dkX4_reckon (34, .iconst 1, 1) (pgm 24 rfl)) ic_1 ?_
    refine so_istore_n (i := 3) X (dkX4_reckon (35, .istore_n 3, 1) (pgm 25 rfl)) rfl (by decide) (Lf := fun x5 => [(3, .int x5), (0, .ref this), (1, .int a1), (2, .int s9)]) (fun _ => rfl) (fun x5 => ?_)
    refine so_join (jf := fun (h6 : PH) => lt (s9 + Int32.ofInt 1) (fun (x7 : Int32) => rec9 x7 h6)) (fun (j : PH → Option (Unit × PH)) => ∀  (h6 : PH), SWo (QM mkV below args s D cA ad A) p l e (rmd 1) s m args below meth c 0 0 7 D cA ad A 110 [(0, .ref this), (1, .int a1), (2, .int s9)] [] h6 (j h6)) ?_ (fun j110 hj110 => ?_)
    · intro h6
      refine so_iinc (i := 2) X 2 (dkX4_reckon (110, .iinc 2 1, 3) (pgm 68 rfl)) rfl rfl (by decide) (Lf := fun x7 => [(2, .int x7), (0, .ref this), (1, .int a1)]) (fun _ => rfl) (fun x7 => ?_)
      refine so_goto (tgt := 9) X (dkX4_reckon (113, .goto (-104), 3) (pgm 69 rfl)) rfl ?_
      exact so_pick X [1, 2, 0] rfl (hrec9 x7 h6)
    refine so_pick (L' := [(0, .ref this), (1, .int a1), (2, .int s9), (3, .int x5)]) X [1, 2, 3, 0] rfl ?_
    refine so_loop (body := b_X4_reckon_36 this s9 j110) (fun (s36 : Int32) => [(0, .ref this), (1, .int a1), (2, .int s9), (3, .int s36)]) (fun rec36 hrec36 s36 hh36 => ?_) FU x5 h4
    unfold b_X4_reckon_36
    refine so_iload_n (i := 3) X 3 (dkX4_reckon (36, .iload_n 3, 1) (pgm 26 rfl)) rfl rfl ?_
    refine so_bipush (v := (6 : Int32)) X (dkX4_reckon (37, .bipush 6, 2) (pgm 27 rfl)) bp_6 ?_
    refine so_icmp_gt (tgt := 110) X (dkX4_reckon (39, .if_icmp .gt 71, 3) (pgm 28 rfl)) rfl (fun _ => ?_) (fun _ => ?_)
    · exact so_pick X [0, 1, 2] rfl (hj110 hh36)
    · refine so_lconst (v := (0 : Int64)) X (dkX4_reckon (42, .lconst 0, 1) (pgm 29 rfl)) lc_0 ?_
      refine so_lstore (i := 4) X (dkX4_reckon (43, .lstore 4, 2) (pgm 30 rfl)) (by decide) (Lf := fun x8 => [(4, .long x8), (0, .ref this), (1, .int a1), (2, .int s9), (3, .int s36)]) (fun _ => rfl) (fun x8 => ?_)
      refine so_iconst (v := (0 : Int32)) X (dkX4_reckon (45, .iconst 0, 1) (pgm 31 rfl)) ic_0 ?_
      refine so_istore (i := 6) X (dkX4_reckon (46, .istore 6, 2) (pgm 32 rfl)) (by decide) (Lf := fun x9 => [(6, .int x9), (4, .long x8), (0, .ref this), (1, .int a1), (2, .int s9), (3, .int s36)]) (fun _ => rfl) (fun x9 => ?_)
      refine so_join (jf := fun (y10 : Int64) (h11 : PH) => ldR (rt this 2) 7 s9 (fun (v12 : Nat) => stL h11 v12 7 s36 y10 (fun (h13 : PH) => lt (s36 + Int32.ofInt 1) (fun (x14 : Int32) => rec36 x14 h13)))) (fun (j : Int64 → PH → Option (Unit × PH)) => ∀ (y10 : Int64) (h11 : PH), SWo (QM mkV below args s D cA ad A) p l e (rmd 1) s m args below meth c 0 0 7 D cA ad A 94 [(0, .ref this), (1, .int a1), (2, .int s9), (3, .int s36), (4, .long y10)] [] h11 (j y10 h11)) ?_ (fun j94 hj94 => ?_)
      · intro y10 h11
        refine so_aload_n (i := 0) X 0 (dkX4_reckon (94, .aload_n 0, 1) (pgm 59 rfl)) rfl rfl ?_
        refine sf_getR X ff_4_2 lk_526 hk (dkX4_reckon (95, .getfield 17, 3) (pgm 60 rfl)) ?_
        refine so_iload_n (i := 2) X 2 (dkX4_reckon (98, .iload_n 2, 1) (pgm 61 rfl)) rfl rfl ?_
        refine so_aaldK X (rk_4_2 this hk) (by decide) (by decide) 5 (fun _ => rfl) rfl (re_4_2 this hk) (dkX4_reckon (99, .aaload, 1) (pgm 62 rfl)) (fun v12 hv12 => ?_)
        refine so_iload_n (i := 3) X 3 (dkX4_reckon (100, .iload_n 3, 1) (pgm 63 rfl)) rfl rfl ?_
        refine so_lload (i := 4) X 4 (dkX4_reckon (101, .lload 4, 2) (pgm 64 rfl)) rfl ?_
        refine so_last X hv12 (dkX4_reckon (103, .lastore, 1) (pgm 65 rfl)) (fun h13 => ?_)
        refine so_iinc (i := 3) X 3 (dkX4_reckon (104, .iinc 3 1, 3) (pgm 66 rfl)) rfl rfl (by decide) (Lf := fun x14 => [(3, .int x14), (0, .ref this), (1, .int a1), (2, .int s9), (4, .long y10)]) (fun _ => rfl) (fun x14 => ?_)
        refine so_goto (tgt := 36) X (dkX4_reckon (107, .goto (-71), 3) (pgm 67 rfl)) rfl ?_
        exact so_pick X [1, 2, 3, 0] rfl (hrec36 x14 h13)
      refine so_pick (L' := [(0, .ref this), (1, .int a1), (2, .int s9), (3, .int s36), (4, .long x8), (6, .int x9)]) X [2, 3, 4, 5, 1, 0] rfl ?_
      refine so_loop (body := b_X4_reckon_48 this s9 s36 j94) (fun (s48 : Int64 × Int32) => [(0, .ref this), (1, .int a1), (2, .int s9), (3, .int s36), (4, .long s48.1), (6, .int s48.2)]) (fun rec48 hrec48 s48 hh48 => ?_) FU (x8, x9) hh36
      unfold b_X4_reckon_48
      refine so_iload (i := 6) X 5 (dkX4_reckon (48, .iload 6, 2) (pgm 33 rfl)) rfl ?_
      refine so_aload_n (i := 0) X 0 (dkX4_reckon (50, .aload_n 0, 1) (pgm 34 rfl)) rfl rfl ?_
      refine sf_getI X ff_4_1 lk_525 hk (dkX4_reckon (51, .getfield 30, 3) (pgm 35 rfl)) ?_
      refine so_icmp_ge (tgt := 94) X (dkX4_reckon (54, .if_icmp .ge 40, 3) (pgm 36 rfl)) rfl (fun _ => ?_) (fun _ => ?_)
      · exact so_pick X [0, 1, 2, 3, 4] rfl (hj94 s48.1 hh48)
      · refine so_lload (i := 4) X 4 (dkX4_reckon (57, .lload 4, 2) (pgm 37 rfl)) rfl ?_
        refine so_aload_n (i := 0) X 0 (dkX4_reckon (59, .aload_n 0, 1) (pgm 38 rfl)) rfl rfl ?_
        refine so_aload_n (i := 0) X 0 (dkX4_reckon (60, .aload_n 0, 1) (pgm 39 rfl)) rfl rfl ?_
        refine sf_getR X ff_4_0 lk_524 hk (dkX4_reckon (61, .getfield 11, 3) (pgm 40 rfl)) ?_
        refine so_iload (i := 6) X 5 (dkX4_reckon (64, .iload 6, 2) (pgm 41 rfl)) rfl ?_
        refine so_iald X (rk_4_0 this hk) (dkX4_reckon (66, .iaload, 1) (pgm 42 rfl)) (fun x15 => ?_)
        refine so_iload_n (i := 2) X 2 (dkX4_reckon (67, .iload_n 2, 1) (pgm 43 rfl)) rfl rfl ?_
        refine so_iload_n (i := 3) X 3 (dkX4_reckon (68, .iload_n 3, 1) (pgm 44 rfl)) rfl rfl ?_
        refine so_callV (n := 3) (As := [.int x15, .int s9, .int s36]) X (ct_X4_byGranting l this x15 s9 s36 hh48 hk) hk (by decide) rfl lk_1556 lk_1558 lk_53 lk_132 lk_1559 (by decide +kernel) rfl rfl rfl (rm_ok (by omega) (by decide)) ⟨Nat.zero_le _, Nat.zero_le _⟩ (Nat.le_of_ble_eq_true rfl) (dkX4_reckon (69, .invokevirtual 36, 3) (pgm 45 rfl)) (fun r16 h17 => ?_) rfl
        refine so_aload_n (i := 0) X 0 (dkX4_reckon (72, .aload_n 0, 1) (pgm 46 rfl)) rfl rfl ?_
        refine sf_getR X ff_4_2 lk_526 hk (dkX4_reckon (73, .getfield 17, 3) (pgm 47 rfl)) ?_
        refine so_iload_n (i := 2) X 2 (dkX4_reckon (76, .iload_n 2, 1) (pgm 48 rfl)) rfl rfl ?_
        refine so_iconst (v := (1 : Int32)) X (dkX4_reckon (77, .iconst 1, 1) (pgm 49 rfl)) ic_1 ?_
        refine so_isub X (dkX4_reckon (78, .isub, 1) (pgm 50 rfl)) ?_
        refine so_aaldK X (rk_4_2 this hk) (by decide) (by decide) 5 (fun _ => rfl) rfl (re_4_2 this hk) (dkX4_reckon (79, .aaload, 1) (pgm 51 rfl)) (fun v18 hv18 => ?_)
        refine so_iload_n (i := 3) X 3 (dkX4_reckon (80, .iload_n 3, 1) (pgm 52 rfl)) rfl rfl ?_
        refine so_lald X hv18 (dkX4_reckon (81, .laload, 1) (pgm 53 rfl)) (fun x19 => ?_)
        refine so_mmaxl X lk_1560 lk_1561 lk_135 lk_1562 (Nat.le_of_ble_eq_true rfl) (Nat.le_of_ble_eq_true rfl) ⟨Nat.zero_le _, Nat.zero_le _⟩ (dkX4_reckon (82, .invokestatic 40, 3) (pgm 54 rfl)) ?_
        refine so_ladd X (dkX4_reckon (85, .ladd, 1) (pgm 55 rfl)) ?_
        refine so_lstore (i := 4) X (dkX4_reckon (86, .lstore 4, 2) (pgm 56 rfl)) (by decide) (Lf := fun x20 => [(4, .long x20), (0, .ref this), (1, .int a1), (2, .int s9), (3, .int s36), (6, .int s48.2)]) (fun _ => rfl) (fun x20 => ?_)
        refine so_iinc (i := 6) X 5 (dkX4_reckon (88, .iinc 6 1, 3) (pgm 57 rfl)) rfl rfl (by decide) (Lf := fun x21 => [(6, .int x21), (4, .long x20), (0, .ref this), (1, .int a1), (2, .int s9), (3, .int s36)]) (fun _ => rfl) (fun x21 => ?_)
        refine so_goto (tgt := 48) X (dkX4_reckon (91, .goto (-43), 3) (pgm 58 rfl)) rfl ?_
        exact so_pick X [2, 3, 4, 5, 1, 0] rfl (hrec48 (x20, x21) h17)
def pgX5_search : List (Nat × Instr × Nat) := [(0, .iload_n 1, 1), (1, .ifCond .gt 21, 3), (4, .aload_n 0, 1), (5, .iload_n 3, 1), (6, .iload 4, 2), (8, .invokevirtual 45, 3), (11, .ifCond .eq 10, 3), (14, .aload_n 0, 1), (15, .iload_n 3, 1), (16, .iload 4, 2), (18, .invokevirtual 49, 3), (21, .return_, 1), (22, .iload_n 2, 1), (23, .istore 5, 2), (25, .iload 5, 2), (27, .aload_n 0, 1), (28, .getfield 15, 3), (31, .getfield 53, 3), (34, .if_icmp .ge 52, 3), (37, .iconst 1, 1), (38, .iload 5, 2), (40, .ishl, 1), (41, .istore 6, 2), (43, .aload_n 0, 1), (44, .iload_n 1, 1), (45, .iconst 1, 1), (46, .isub, 1), (47, .iload 5, 2), (49, .iconst 1, 1), (50, .iadd, 1), (51, .iload_n 3, 1), (52, .iload 6, 2), (54, .ior, 1), (55, .iload 4, 2), (57, .invokevirtual 41, 3), (60, .aload_n 0, 1), (61, .iload_n 1, 1), (62, .iconst 1, 1), (63, .isub, 1), (64, .iload 5, 2), (66, .iconst 1, 1), (67, .iadd, 1), (68, .iload_n 3, 1), (69, .iload 6, 2), (71, .ior, 1), (72, .iload 4, 2), (74, .iload 6, 2), (76, .ior, 1), (77, .invokevirtual 41, 3), (80, .iinc 5 1, 3), (83, .goto (-58), 3), (86, .return_, 1)]
theorem dkX5_search : ∀ q ∈ pgX5_search, decode cX5_search q.1 = .ok q.2 := by decide +kernel
def b_X5_search_25 (this : Nat) (a1 : Int32) (a3 : Int32) (a4 : Int32) (fr : Nat → Int32 → Int32 → Int32 → Int32 → PH → Option (Unit × PH)) (rec25 : (Int32) → PH → Option (Unit × PH)) (s25 : Int32) (hh25 : PH) : Option (Unit × PH) :=
  if (hh25.1 (rt this 0) 7) ≤ s25 then (some ((), hh25)) else (lt ((1 : Int32) <<< (s25 &&& 31)) (fun (x2 : Int32) => cb (fr this (a1 - (1 : Int32)) (s25 + (1 : Int32)) (a3 ||| x2) a4 hh25) (fun (r3 : Unit) (h4 : PH) => cb (fr this (a1 - (1 : Int32)) (s25 + (1 : Int32)) (a3 ||| x2) (a4 ||| x2) h4) (fun (r5 : Unit) (h6 : PH) => lt (s25 + Int32.ofInt 1) (fun (x7 : Int32) => rec25 x7 h6)))))
def g_X5_search (fr : Nat → Int32 → Int32 → Int32 → Int32 → PH → Option (Unit × PH)) (this : Nat) (a1 : Int32) (a2 : Int32) (a3 : Int32) (a4 : Int32) (h0 : PH) : Option (Unit × PH) :=
  if 0 < a1 then (lt a2 (fun (x1 : Int32) => lp (b_X5_search_25 this a1 a3 a4 fr) FU x1 h0)) else (cb (f_X5_fits this a3 a4 h0) (fun (r8 : Int32) (h9 : PH) => lt (fun (h10 : PH) => some ((), h10)) (fun (j21 : PH → Option (Unit × PH)) => if r8 = 0 then (j21 h9) else (cb (f_X5_keep this a3 a4 h9) (fun (r11 : Unit) (h12 : PH) => j21 h12)))))
def f_X5_search : Nat → Nat → Int32 → Int32 → Int32 → Int32 → PH → Option (Unit × PH)
  | 0 => fun _ _ _ _ _ _ => none
  | dd + 1 => g_X5_search (f_X5_search dd)
set_option maxRecDepth 100000 in
set_option maxHeartbeats 4000000 in
theorem cg_X5_search (l : Launch) (dd : Nat) (fr : Nat → Int32 → Int32 → Int32 → Int32 → PH → Option (Unit × PH)) (hfr : ∀ (this : Nat) (a1 : Int32) (a2 : Int32) (a3 : Int32) (a4 : Int32) (h0 : PH) (hk : (kd this).1 = 5), CT mkV l yX5_search cX5_search 7 none (rmd (dd + 0)) [.ref this, .int a1, .int a2, .int a3, .int a4] h0 (fr this a1 a2 a3 a4 h0)) (this : Nat) (a1 : Int32) (a2 : Int32) (a3 : Int32) (a4 : Int32) (h0 : PH) (hk : (kd this).1 = 5) : CT mkV l yX5_search cX5_search 7 none (rmd (dd + 1)) [.ref this, .int a1, .int a2, .int a3, .int a4] h0 (g_X5_search fr this a1 a2 a3 a4 h0) := by
  refine ct_of (by decide) (Nat.le_of_ble_eq_true rfl) ?_
  intro p e s m args below meth c D cA ad A X hr hlk
  have X : Cx p s m args c RX5 cX5_search 7 D cA ad A := X
  unfold g_X5_search
  refine so_pick (L' := [(0, .ref this), (1, .int a1), (2, .int a2), (3, .int a3), (4, .int a4)]) X [0, 1, 2, 3, 4] rfl ?_
  refine so_iload_n (i := 1) X 1 (dkX5_search (0, .iload_n 1, 1) (pgm 0 rfl)) rfl rfl ?_
  refine so_if_gt (tgt := 22) X (dkX5_search (1, .ifCond .gt 21, 3) (pgm 1 rfl)) rfl (fun _ => ?_) (fun _ => ?_)
  · refine so_iload_n (i := 2) X 2 (dkX5_search (22, .iload_n 2, 1) (pgm 12 rfl)) rfl rfl ?_
    refine so_istore (i := 5) X (dkX5_search (23, .istore 5, 2) (pgm 13 rfl)) (by decide) (Lf := fun x1 => [(5, .int x1), (0, .ref this), (1, .int a1), (2, .int a2), (3, .int a3), (4, .int a4)]) (fun _ => rfl) (fun x1 => ?_)
    refine so_pick (L' := [(0, .ref this), (1, .int a1), (3, .int a3), (4, .int a4), (5, .int x1)]) X [1, 2, 4, 5, 0] rfl ?_
    refine so_loop (body := b_X5_search_25 this a1 a3 a4 fr) (fun (s25 : Int32) => [(0, .ref this), (1, .int a1), (3, .int a3), (4, .int a4), (5, .int s25)]) (fun rec25 hrec25 s25 hh25 => ?_) FU x1 h0
    unfold b_X5_search_25
    refine so_iload (i := 5) X 4 (dkX5_search (25, .iload 5, 2) (pgm 14 rfl)) rfl ?_
    refine so_aload_n (i := 0) X 0 (dkX5_search (27, .aload_n 0, 1) (pgm 15 rfl)) rfl rfl ?_
    refine sf_getR X ff_5_0 lk_457 hk (dkX5_search (28, .getfield 15, 3) (pgm 16 rfl)) ?_
    refine sf_getI X ff_8_7 lk_195 (fo (rk_5_0 this hk)) (dkX5_search (31, .getfield 53, 3) (pgm 17 rfl)) ?_
    refine so_icmp_ge (tgt := 86) X (dkX5_search (34, .if_icmp .ge 52, 3) (pgm 18 rfl)) rfl (fun _ => ?_) (fun _ => ?_)
    · exact so_vret X hr hlk (dkX5_search (86, .return_, 1) (pgm 51 rfl))
    · refine so_iconst (v := (1 : Int32)) X (dkX5_search (37, .iconst 1, 1) (pgm 19 rfl)) ic_1 ?_
      refine so_iload (i := 5) X 4 (dkX5_search (38, .iload 5, 2) (pgm 20 rfl)) rfl ?_
      refine so_ishl X (dkX5_search (40, .ishl, 1) (pgm 21 rfl)) ?_
      refine so_istore (i := 6) X (dkX5_search (41, .istore 6, 2) (pgm 22 rfl)) (by decide) (Lf := fun x2 => [(6, .int x2), (0, .ref this), (1, .int a1), (3, .int a3), (4, .int a4), (5, .int s25)]) (fun _ => rfl) (fun x2 => ?_)
      refine so_aload_n (i := 0) X 1 (dkX5_search (43, .aload_n 0, 1) (pgm 23 rfl)) rfl rfl ?_
      refine so_iload_n (i := 1) X 2 (dkX5_search (44, .iload_n 1, 1) (pgm 24 rfl)) rfl rfl ?_
      refine so_iconst (v := (1 : Int32)) X (dkX5_search (45, .iconst 1, 1) (pgm 25 rfl)) ic_1 ?_
      refine so_isub X (dkX5_search (46, .isub, 1) (pgm 26 rfl)) ?_
      refine so_iload (i := 5) X 5 (dkX5_search (47, .iload 5, 2) (pgm 27 rfl)) rfl ?_
      refine so_iconst (v := (1 : Int32)) X (dkX5_search (49, .iconst 1, 1) (pgm 28 rfl)) ic_1 ?_
      refine so_iadd X (dkX5_search (50, .iadd, 1) (pgm 29 rfl)) ?_
      refine so_iload_n (i := 3) X 3 (dkX5_search (51, .iload_n 3, 1) (pgm 30 rfl)) rfl rfl ?_
      refine so_iload (i := 6) X 0 (dkX5_search (52, .iload 6, 2) (pgm 31 rfl)) rfl ?_
      refine so_ior X (dkX5_search (54, .ior, 1) (pgm 32 rfl)) ?_
      refine so_iload (i := 4) X 4 (dkX5_search (55, .iload 4, 2) (pgm 33 rfl)) rfl ?_
      refine so_callV (n := 4) (As := [.int (a1 - (1 : Int32)), .int (s25 + (1 : Int32)), .int (a3 ||| x2), .int a4]) X (hfr this (a1 - (1 : Int32)) (s25 + (1 : Int32)) (a3 ||| x2) a4 hh25 hk) hk (by decide) rfl lk_1393 lk_1395 lk_43 lk_130 lk_1396 (by decide +kernel) rfl rfl rfl (rm_ok (by omega) (by decide)) ⟨Nat.zero_le _, Nat.zero_le _⟩ (Nat.le_of_ble_eq_true rfl) (dkX5_search (57, .invokevirtual 41, 3) (pgm 34 rfl)) (fun r3 h4 => ?_) rfl
      refine so_aload_n (i := 0) X 1 (dkX5_search (60, .aload_n 0, 1) (pgm 35 rfl)) rfl rfl ?_
      refine so_iload_n (i := 1) X 2 (dkX5_search (61, .iload_n 1, 1) (pgm 36 rfl)) rfl rfl ?_
      refine so_iconst (v := (1 : Int32)) X (dkX5_search (62, .iconst 1, 1) (pgm 37 rfl)) ic_1 ?_
      refine so_isub X (dkX5_search (63, .isub, 1) (pgm 38 rfl)) ?_
      refine so_iload (i := 5) X 5 (dkX5_search (64, .iload 5, 2) (pgm 39 rfl)) rfl ?_
      refine so_iconst (v := (1 : Int32)) X (dkX5_search (66, .iconst 1, 1) (pgm 40 rfl)) ic_1 ?_
      refine so_iadd X (dkX5_search (67, .iadd, 1) (pgm 41 rfl)) ?_
      refine so_iload_n (i := 3) X 3 (dkX5_search (68, .iload_n 3, 1) (pgm 42 rfl)) rfl rfl ?_
      refine so_iload (i := 6) X 0 (dkX5_search (69, .iload 6, 2) (pgm 43 rfl)) rfl ?_
      refine so_ior X (dkX5_search (71, .ior, 1) (pgm 44 rfl)) ?_
      refine so_iload (i := 4) X 4 (dkX5_search (72, .iload 4, 2) (pgm 45 rfl)) rfl ?_
      refine so_iload (i := 6) X 0 (dkX5_search (74, .iload 6, 2) (pgm 46 rfl)) rfl ?_
      refine so_ior X (dkX5_search (76, .ior, 1) (pgm 47 rfl)) ?_
      refine so_callV (n := 4) (As := [.int (a1 - (1 : Int32)), .int (s25 + (1 : Int32)), .int (a3 ||| x2), .int (a4 ||| x2)]) X (hfr this (a1 - (1 : Int32)) (s25 + (1 : Int32)) (a3 ||| x2) (a4 ||| x2) h4 hk) hk (by decide) rfl lk_1393 lk_1395 lk_43 lk_130 lk_1396 (by decide +kernel) rfl rfl rfl (rm_ok (by omega) (by decide)) ⟨Nat.zero_le _, Nat.zero_le _⟩ (Nat.le_of_ble_eq_true rfl) (dkX5_search (77, .invokevirtual 41, 3) (pgm 48 rfl)) (fun r5 h6 => ?_) rfl
      refine so_iinc (i := 5) X 5 (dkX5_search (80, .iinc 5 1, 3) (pgm 49 rfl)) rfl rfl (by decide) (Lf := fun x7 => [(5, .int x7), (6, .int x2), (0, .ref this), (1, .int a1), (3, .int a3), (4, .int a4)]) (fun _ => rfl) (fun x7 => ?_)
      refine so_goto (tgt := 25) X (dkX5_search (83, .goto (-58), 3) (pgm 50 rfl)) rfl ?_
      exact so_pick X [2, 3, 4, 5, 0] rfl (hrec25 x7 h6)
  · refine so_aload_n (i := 0) X 0 (dkX5_search (4, .aload_n 0, 1) (pgm 2 rfl)) rfl rfl ?_
    refine so_iload_n (i := 3) X 3 (dkX5_search (5, .iload_n 3, 1) (pgm 3 rfl)) rfl rfl ?_
    refine so_iload (i := 4) X 4 (dkX5_search (6, .iload 4, 2) (pgm 4 rfl)) rfl ?_
    refine so_callV (n := 2) (As := [.int a3, .int a4]) X (ct_X5_fits l this a3 a4 h0 hk) hk (by decide) rfl lk_1397 lk_1399 lk_44 lk_130 lk_1400 (by decide +kernel) rfl rfl rfl (rm_ok (by omega) (by decide)) ⟨Nat.zero_le _, Nat.zero_le _⟩ (Nat.le_of_ble_eq_true rfl) (dkX5_search (8, .invokevirtual 45, 3) (pgm 5 rfl)) (fun r8 h9 => ?_) rfl
    refine so_join (jf := fun (h10 : PH) => some ((), h10)) (fun (j : PH → Option (Unit × PH)) => ∀  (h10 : PH), SWo (QM mkV below args s D cA ad A) p l e (rmd (dd + 1)) s m args below meth c 0 0 7 D cA ad A 21 [] [] h10 (j h10)) ?_ (fun j21 hj21 => ?_)
    · intro h10
      exact so_vret X hr hlk (dkX5_search (21, .return_, 1) (pgm 11 rfl))
    refine so_if_eq (tgt := 21) X (dkX5_search (11, .ifCond .eq 10, 3) (pgm 6 rfl)) rfl (fun _ => ?_) (fun _ => ?_)
    · exact so_pick X [] rfl (hj21 h9)
    · refine so_aload_n (i := 0) X 0 (dkX5_search (14, .aload_n 0, 1) (pgm 7 rfl)) rfl rfl ?_
      refine so_iload_n (i := 3) X 3 (dkX5_search (15, .iload_n 3, 1) (pgm 8 rfl)) rfl rfl ?_
      refine so_iload (i := 4) X 4 (dkX5_search (16, .iload 4, 2) (pgm 9 rfl)) rfl ?_
      refine so_callV (n := 2) (As := [.int a3, .int a4]) X (ct_X5_keep l this a3 a4 h9 hk) hk (by decide) rfl lk_1401 lk_1403 lk_45 lk_130 lk_1404 (by decide +kernel) rfl rfl rfl (rm_ok (by omega) (by decide)) ⟨Nat.zero_le _, Nat.zero_le _⟩ (Nat.le_of_ble_eq_true rfl) (dkX5_search (18, .invokevirtual 49, 3) (pgm 10 rfl)) (fun r11 h12 => ?_) rfl
      exact so_pick X [] rfl (hj21 h12)
theorem ct_X5_search (l : Launch) : ∀ (dd : Nat) (this : Nat) (a1 : Int32) (a2 : Int32) (a3 : Int32) (a4 : Int32) (h0 : PH) (hk : (kd this).1 = 5), CT mkV l yX5_search cX5_search 7 none (rmd (dd + 0)) [.ref this, .int a1, .int a2, .int a3, .int a4] h0 (f_X5_search dd this a1 a2 a3 a4 h0)
  | 0 => fun _ _ _ _ _ _ _ => by intro _ _ _ _ _ _ _ e1; cases e1
  | dd + 1 => fun this a1 a2 a3 a4 h0 hk => by
    have e9 : dd + 1 + 0 = dd + 1 := by omega
    rw [e9]
    exact cg_X5_search l dd (f_X5_search dd) (ct_X5_search l dd) this a1 a2 a3 a4 h0 hk
def pgX7_turnOf : List (Nat × Instr × Nat) := [(0, .iload_n 2, 1), (1, .ifCond .ne 11, 3), (4, .aload_n 0, 1), (5, .getfield 15, 3), (8, .iload_n 1, 1), (9, .iaload, 1), (10, .ineg, 1), (11, .ireturn, 1), (12, .iload_n 2, 1), (13, .iconst 1, 1), (14, .if_icmp .ne 11, 3), (17, .aload_n 0, 1), (18, .getfield 9, 3), (21, .iload_n 1, 1), (22, .iaload, 1), (23, .ineg, 1), (24, .ireturn, 1), (25, .iload_n 2, 1), (26, .iconst 2, 1), (27, .if_icmp .ne 17, 3), (30, .aload_n 0, 1), (31, .aload_n 0, 1), (32, .getfield 18, 3), (35, .getfield 75, 3), (38, .iload_n 1, 1), (39, .iaload, 1), (40, .invokevirtual 78, 3), (43, .ireturn, 1), (44, .aload_n 0, 1), (45, .getfield 26, 3), (48, .iconst 1, 1), (49, .iload_n 1, 1), (50, .ishl, 1), (51, .invokevirtual 67, 3), (54, .istore_n 3, 1), (55, .iload_n 3, 1), (56, .iconst (-1), 1), (57, .if_icmp .ne 8, 3), (60, .bipush 13, 2), (62, .goto 7, 3), (65, .iload_n 3, 1), (66, .invokestatic 81, 3), (69, .ireturn, 1)]
theorem dkX7_turnOf : ∀ q ∈ pgX7_turnOf, decode cX7_turnOf q.1 = .ok q.2 := by decide +kernel
def f_X7_turnOf (this : Nat) (a1 : Int32) (a2 : Int32) (h0 : PH) : Option (Int32 × PH) :=
  if a2 = 0 then (ldI h0 (rt this 4) 10 a1 (fun (x12 : Int32) => some ((-x12), h0))) else (if a2 = (1 : Int32) then (ldI h0 (rt this 3) 10 a1 (fun (x11 : Int32) => some ((-x11), h0))) else (if a2 = (2 : Int32) then (ldI h0 (rt (rt this 0) 12) 10 a1 (fun (x8 : Int32) => cb (f_X7_openOf this x8 h0) (fun (r9 : Int32) (h10 : PH) => some (r9, h10)))) else (cb (f_X2_leastPlan (rt this 2) ((1 : Int32) <<< (a1 &&& 31)) h0) (fun (r1 : Int32) (h2 : PH) => lt r1 (fun (x3 : Int32) => lt (fun (t4 : Int32) (h5 : PH) => some (t4, h5)) (fun (j69 : Int32 → PH → Option (Int32 × PH)) => if x3 = (-1 : Int32) then (j69 (13 : Int32) h2) else (cb (f_J6_bitCount_0f7a4 x3 h2) (fun (r6 : Int32) (h7 : PH) => j69 r6 h7))))))))
set_option maxRecDepth 100000 in
set_option maxHeartbeats 4000000 in
theorem ct_X7_turnOf (l : Launch) (this : Nat) (a1 : Int32) (a2 : Int32) (h0 : PH) (hk : (kd this).1 = 7) : CT mkI l yX7_turnOf cX7_turnOf 4 (some .int) (rmd 1) [.ref this, .int a1, .int a2] h0 (f_X7_turnOf this a1 a2 h0) := by
  refine ct_of (by decide) (Nat.le_of_ble_eq_true rfl) ?_
  intro p e s m args below meth c D cA ad A X hr hlk
  have X : Cx p s m args c RX7 cX7_turnOf 4 D cA ad A := X
  unfold f_X7_turnOf
  refine so_pick (L' := [(0, .ref this), (1, .int a1), (2, .int a2)]) X [0, 1, 2] rfl ?_
  refine so_iload_n (i := 2) X 2 (dkX7_turnOf (0, .iload_n 2, 1) (pgm 0 rfl)) rfl rfl ?_
  refine so_if_ne (tgt := 12) X (dkX7_turnOf (1, .ifCond .ne 11, 3) (pgm 1 rfl)) rfl (fun _ => ?_) (fun _ => ?_)
  · refine so_iload_n (i := 2) X 2 (dkX7_turnOf (12, .iload_n 2, 1) (pgm 8 rfl)) rfl rfl ?_
    refine so_iconst (v := (1 : Int32)) X (dkX7_turnOf (13, .iconst 1, 1) (pgm 9 rfl)) ic_1 ?_
    refine so_icmp_ne (tgt := 25) X (dkX7_turnOf (14, .if_icmp .ne 11, 3) (pgm 10 rfl)) rfl (fun _ => ?_) (fun _ => ?_)
    · refine so_iload_n (i := 2) X 2 (dkX7_turnOf (25, .iload_n 2, 1) (pgm 17 rfl)) rfl rfl ?_
      refine so_iconst (v := (2 : Int32)) X (dkX7_turnOf (26, .iconst 2, 1) (pgm 18 rfl)) ic_2 ?_
      refine so_icmp_ne (tgt := 44) X (dkX7_turnOf (27, .if_icmp .ne 17, 3) (pgm 19 rfl)) rfl (fun _ => ?_) (fun _ => ?_)
      · refine so_aload_n (i := 0) X 0 (dkX7_turnOf (44, .aload_n 0, 1) (pgm 28 rfl)) rfl rfl ?_
        refine sf_getR X ff_7_2 lk_426 hk (dkX7_turnOf (45, .getfield 26, 3) (pgm 29 rfl)) ?_
        refine so_iconst (v := (1 : Int32)) X (dkX7_turnOf (48, .iconst 1, 1) (pgm 30 rfl)) ic_1 ?_
        refine so_iload_n (i := 1) X 1 (dkX7_turnOf (49, .iload_n 1, 1) (pgm 31 rfl)) rfl rfl ?_
        refine so_ishl X (dkX7_turnOf (50, .ishl, 1) (pgm 32 rfl)) ?_
        refine so_callV (n := 1) (As := [.int ((1 : Int32) <<< (a1 &&& 31))]) X (ct_X2_leastPlan l (rt this 2) ((1 : Int32) <<< (a1 &&& 31)) h0 (fo (rk_7_2 this hk))) (fo (rk_7_2 this hk)) (by decide) rfl lk_735 lk_736 lk_737 lk_128 lk_738 (by decide +kernel) rfl rfl rfl (rm_ok (by omega) (by decide)) ⟨Nat.zero_le _, Nat.zero_le _⟩ (Nat.le_of_ble_eq_true rfl) (dkX7_turnOf (51, .invokevirtual 67, 3) (pgm 33 rfl)) (fun r1 h2 => ?_) rfl
        refine so_istore_n (i := 3) X (dkX7_turnOf (54, .istore_n 3, 1) (pgm 34 rfl)) rfl (by decide) (Lf := fun x3 => [(3, .int x3), (0, .ref this), (1, .int a1), (2, .int a2)]) (fun _ => rfl) (fun x3 => ?_)
        refine so_iload_n (i := 3) X 0 (dkX7_turnOf (55, .iload_n 3, 1) (pgm 35 rfl)) rfl rfl ?_
        refine so_iconst (v := (-1 : Int32)) X (dkX7_turnOf (56, .iconst (-1), 1) (pgm 36 rfl)) ic_m1 ?_
        refine so_join (jf := fun (t4 : Int32) (h5 : PH) => some (t4, h5)) (fun (j : Int32 → PH → Option (Int32 × PH)) => ∀ (t4 : Int32) (h5 : PH), SWo (QM mkI below args s D cA ad A) p l e (rmd 1) s m args below meth c 0 0 4 D cA ad A 69 [] [.int t4] h5 (j t4 h5)) ?_ (fun j69 hj69 => ?_)
        · intro t4 h5
          exact so_iret X hr hlk (dkX7_turnOf (69, .ireturn, 1) (pgm 42 rfl))
        refine so_icmp_ne (tgt := 65) X (dkX7_turnOf (57, .if_icmp .ne 8, 3) (pgm 37 rfl)) rfl (fun _ => ?_) (fun _ => ?_)
        · refine so_iload_n (i := 3) X 0 (dkX7_turnOf (65, .iload_n 3, 1) (pgm 40 rfl)) rfl rfl ?_
          refine so_callS (n := 1) (As := [.int x3]) X (ct_J6_bitCount_0f7a4 l x3 h2 ) lk_739 lk_635 lk_147 lk_636 (by decide +kernel) rfl rfl rfl (rm_ok (by omega) (by decide)) ⟨Nat.zero_le _, Nat.zero_le _⟩ (Nat.le_of_ble_eq_true rfl) (dkX7_turnOf (66, .invokestatic 81, 3) (pgm 41 rfl)) (fun r6 h7 => ?_) rfl
          exact so_pick X [] rfl (hj69 r6 h7)
        · refine so_bipush (v := (13 : Int32)) X (dkX7_turnOf (60, .bipush 13, 2) (pgm 38 rfl)) bp_13 ?_
          refine so_goto (tgt := 69) X (dkX7_turnOf (62, .goto 7, 3) (pgm 39 rfl)) rfl ?_
          exact so_pick X [] rfl (hj69 (13 : Int32) h2)
      · refine so_aload_n (i := 0) X 0 (dkX7_turnOf (30, .aload_n 0, 1) (pgm 20 rfl)) rfl rfl ?_
        refine so_aload_n (i := 0) X 0 (dkX7_turnOf (31, .aload_n 0, 1) (pgm 21 rfl)) rfl rfl ?_
        refine sf_getR X ff_7_0 lk_424 hk (dkX7_turnOf (32, .getfield 18, 3) (pgm 22 rfl)) ?_
        refine sf_getR X ff_8_12 lk_208 (fo (rk_7_0 this hk)) (dkX7_turnOf (35, .getfield 75, 3) (pgm 23 rfl)) ?_
        refine so_iload_n (i := 1) X 1 (dkX7_turnOf (38, .iload_n 1, 1) (pgm 24 rfl)) rfl rfl ?_
        refine so_iald X (rk_8_12 (rt this 0) (fo (rk_7_0 this hk))) (dkX7_turnOf (39, .iaload, 1) (pgm 25 rfl)) (fun x8 => ?_)
        refine so_callV (n := 1) (As := [.int x8]) X (ct_X7_openOf l this x8 h0 hk) hk (by decide) rfl lk_731 lk_733 lk_10 lk_129 lk_734 (by decide +kernel) rfl rfl rfl (rm_ok (by omega) (by decide)) ⟨Nat.zero_le _, Nat.zero_le _⟩ (Nat.le_of_ble_eq_true rfl) (dkX7_turnOf (40, .invokevirtual 78, 3) (pgm 26 rfl)) (fun r9 h10 => ?_) rfl
        exact so_iret X hr hlk (dkX7_turnOf (43, .ireturn, 1) (pgm 27 rfl))
    · refine so_aload_n (i := 0) X 0 (dkX7_turnOf (17, .aload_n 0, 1) (pgm 11 rfl)) rfl rfl ?_
      refine sf_getR X ff_7_3 lk_427 hk (dkX7_turnOf (18, .getfield 9, 3) (pgm 12 rfl)) ?_
      refine so_iload_n (i := 1) X 1 (dkX7_turnOf (21, .iload_n 1, 1) (pgm 13 rfl)) rfl rfl ?_
      refine so_iald X (rk_7_3 this hk) (dkX7_turnOf (22, .iaload, 1) (pgm 14 rfl)) (fun x11 => ?_)
      refine so_ineg X (dkX7_turnOf (23, .ineg, 1) (pgm 15 rfl)) ?_
      exact so_iret X hr hlk (dkX7_turnOf (24, .ireturn, 1) (pgm 16 rfl))
  · refine so_aload_n (i := 0) X 0 (dkX7_turnOf (4, .aload_n 0, 1) (pgm 2 rfl)) rfl rfl ?_
    refine sf_getR X ff_7_4 lk_428 hk (dkX7_turnOf (5, .getfield 15, 3) (pgm 3 rfl)) ?_
    refine so_iload_n (i := 1) X 1 (dkX7_turnOf (8, .iload_n 1, 1) (pgm 4 rfl)) rfl rfl ?_
    refine so_iald X (rk_7_4 this hk) (dkX7_turnOf (9, .iaload, 1) (pgm 5 rfl)) (fun x12 => ?_)
    refine so_ineg X (dkX7_turnOf (10, .ineg, 1) (pgm 6 rfl)) ?_
    exact so_iret X hr hlk (dkX7_turnOf (11, .ireturn, 1) (pgm 7 rfl))

def pgX1_takePart : List (Nat × Instr × Nat) := [(0, .aload_n 0, 1), (1, .iload_n 2, 1), (2, .iconst 2, 1), (3, .idiv, 1), (4, .invokevirtual 60, 3), (7, .istore_n 3, 1), (8, .iconst 0, 1), (9, .istore 4, 2), (11, .iconst 0, 1), (12, .istore 5, 2), (14, .iload 5, 2), (16, .bipush 32, 2), (18, .if_icmp .ge 30, 3), (21, .iload 5, 2), (23, .iload_n 3, 1), (24, .ishr, 1), (25, .iconst 1, 1), (26, .iand, 1), (27, .iload_n 2, 1), (28, .iconst 2, 1), (29, .irem, 1), (30, .if_icmp .ne 12, 3), (33, .iload 4, 2), (35, .iconst 1, 1), (36, .iload 5, 2), (38, .ishl, 1), (39, .ior, 1), (40, .istore 4, 2), (42, .iinc 5 1, 3), (45, .goto (-31), 3), (48, .iload_n 1, 1), (49, .iconst 5, 1), (50, .imul, 1), (51, .iload_n 1, 1), (52, .iadd, 1), (53, .istore 5, 2), (55, .aload_n 0, 1), (56, .getfield 21, 3), (59, .iload 5, 2), (61, .aaload, 1), (62, .iconst 0, 1), (63, .iload 4, 2), (65, .iastore, 1), (66, .aload_n 0, 1), (67, .getfield 24, 3), (70, .iload 5, 2), (72, .iconst 1, 1), (73, .iastore, 1), (74, .return_, 1)]
theorem dkX1_takePart : ∀ q ∈ pgX1_takePart, decode cX1_takePart q.1 = .ok q.2 := by decide +kernel
def b_X1_takePart_14 (a2 : Int32) (x3 : Int32) (j48 : Int32 → PH → Option (Unit × PH)) (rec14 : (Int32 × Int32) → PH → Option (Unit × PH)) (s14 : Int32 × Int32) (hh14 : PH) : Option (Unit × PH) :=
  if (32 : Int32) ≤ s14.2 then (j48 s14.1 hh14) else (nz (2 : Int32) (lt (fun (y12 : Int32) (h13 : PH) => lt (s14.2 + Int32.ofInt 1) (fun (x14 : Int32) => rec14 (y12, x14) h13)) (fun (j42 : Int32 → PH → Option (Unit × PH)) => if ((s14.2 >>> (x3 &&& 31)) &&& (1 : Int32)) = (a2 - a2 / (2 : Int32) * (2 : Int32)) then (lt (s14.1 ||| ((1 : Int32) <<< (s14.2 &&& 31))) (fun (x15 : Int32) => j42 x15 hh14)) else (j42 s14.1 hh14))))
def f_X1_takePart (this : Nat) (a1 : Int32) (a2 : Int32) (h0 : PH) : Option (Unit × PH) :=
  nz (2 : Int32) (cb (f_X1_placeOfCell this (a2 / (2 : Int32)) h0) (fun (r1 : Int32) (h2 : PH) => lt r1 (fun (x3 : Int32) => lt (0 : Int32) (fun (x4 : Int32) => lt (0 : Int32) (fun (x5 : Int32) => lt (fun (y6 : Int32) (h7 : PH) => lt ((a1 * (5 : Int32)) + a1) (fun (x8 : Int32) => ldR (rt this 5) 25 x8 (fun (v9 : Nat) => stI h7 v9 14 (0 : Int32) y6 (fun (h10 : PH) => stI h10 (rt this 6) 25 x8 (1 : Int32) (fun (h11 : PH) => some ((), h11)))))) (fun (j48 : Int32 → PH → Option (Unit × PH)) => lp (b_X1_takePart_14 a2 x3 j48) FU (x4, x5) h2))))))
set_option maxRecDepth 100000 in
set_option maxHeartbeats 4000000 in
theorem ct_X1_takePart (l : Launch) (this : Nat) (a1 : Int32) (a2 : Int32) (h0 : PH) (hk : (kd this).1 = 1) : CT mkV l yX1_takePart cX1_takePart 6 none (rmd 1) [.ref this, .int a1, .int a2] h0 (f_X1_takePart this a1 a2 h0) := by
  refine ct_of (by decide) (Nat.le_of_ble_eq_true rfl) ?_
  intro p e s m args below meth c D cA ad A X hr hlk
  have X : Cx p s m args c RX1 cX1_takePart 6 D cA ad A := X
  unfold f_X1_takePart
  refine so_pick (L' := [(0, .ref this), (1, .int a1), (2, .int a2)]) X [0, 1, 2] rfl ?_
  refine so_aload_n (i := 0) X 0 (dkX1_takePart (0, .aload_n 0, 1) (pgm 0 rfl)) rfl rfl ?_
  refine so_iload_n (i := 2) X 2 (dkX1_takePart (1, .iload_n 2, 1) (pgm 1 rfl)) rfl rfl ?_
  refine so_iconst (v := (2 : Int32)) X (dkX1_takePart (2, .iconst 2, 1) (pgm 2 rfl)) ic_2 ?_
  refine so_idiv X (dkX1_takePart (3, .idiv, 1) (pgm 3 rfl)) (fun _ => ?_)
  refine so_callV (n := 1) (As := [.int (a2 / (2 : Int32))]) X (ct_X1_placeOfCell l this (a2 / (2 : Int32)) h0 hk) hk (by decide) rfl lk_1424 lk_1426 lk_47 lk_131 lk_1427 (by decide +kernel) rfl rfl rfl (rm_ok (by omega) (by decide)) ⟨Nat.zero_le _, Nat.zero_le _⟩ (Nat.le_of_ble_eq_true rfl) (dkX1_takePart (4, .invokevirtual 60, 3) (pgm 4 rfl)) (fun r1 h2 => ?_) rfl
  refine so_istore_n (i := 3) X (dkX1_takePart (7, .istore_n 3, 1) (pgm 5 rfl)) rfl (by decide) (Lf := fun x3 => [(3, .int x3), (0, .ref this), (1, .int a1), (2, .int a2)]) (fun _ => rfl) (fun x3 => ?_)
  refine so_iconst (v := (0 : Int32)) X (dkX1_takePart (8, .iconst 0, 1) (pgm 6 rfl)) ic_0 ?_
  refine so_istore (i := 4) X (dkX1_takePart (9, .istore 4, 2) (pgm 7 rfl)) (by decide) (Lf := fun x4 => [(4, .int x4), (3, .int x3), (0, .ref this), (1, .int a1), (2, .int a2)]) (fun _ => rfl) (fun x4 => ?_)
  refine so_iconst (v := (0 : Int32)) X (dkX1_takePart (11, .iconst 0, 1) (pgm 8 rfl)) ic_0 ?_
  refine so_istore (i := 5) X (dkX1_takePart (12, .istore 5, 2) (pgm 9 rfl)) (by decide) (Lf := fun x5 => [(5, .int x5), (4, .int x4), (3, .int x3), (0, .ref this), (1, .int a1), (2, .int a2)]) (fun _ => rfl) (fun x5 => ?_)
  refine so_join (jf := fun (y6 : Int32) (h7 : PH) => lt ((a1 * (5 : Int32)) + a1) (fun (x8 : Int32) => ldR (rt this 5) 25 x8 (fun (v9 : Nat) => stI h7 v9 14 (0 : Int32) y6 (fun (h10 : PH) => stI h10 (rt this 6) 25 x8 (1 : Int32) (fun (h11 : PH) => some ((), h11)))))) (fun (j : Int32 → PH → Option (Unit × PH)) => ∀ (y6 : Int32) (h7 : PH), SWo (QM mkV below args s D cA ad A) p l e (rmd 1) s m args below meth c 0 0 6 D cA ad A 48 [(0, .ref this), (1, .int a1), (4, .int y6)] [] h7 (j y6 h7)) ?_ (fun j48 hj48 => ?_)
  · intro y6 h7
    refine so_iload_n (i := 1) X 1 (dkX1_takePart (48, .iload_n 1, 1) (pgm 30 rfl)) rfl rfl ?_
    refine so_iconst (v := (5 : Int32)) X (dkX1_takePart (49, .iconst 5, 1) (pgm 31 rfl)) ic_5 ?_
    refine so_imul X (dkX1_takePart (50, .imul, 1) (pgm 32 rfl)) ?_
    refine so_iload_n (i := 1) X 1 (dkX1_takePart (51, .iload_n 1, 1) (pgm 33 rfl)) rfl rfl ?_
    refine so_iadd X (dkX1_takePart (52, .iadd, 1) (pgm 34 rfl)) ?_
    refine so_istore (i := 5) X (dkX1_takePart (53, .istore 5, 2) (pgm 35 rfl)) (by decide) (Lf := fun x8 => [(5, .int x8), (0, .ref this), (1, .int a1), (4, .int y6)]) (fun _ => rfl) (fun x8 => ?_)
    refine so_aload_n (i := 0) X 1 (dkX1_takePart (55, .aload_n 0, 1) (pgm 36 rfl)) rfl rfl ?_
    refine sf_getR X ff_1_5 lk_493 hk (dkX1_takePart (56, .getfield 21, 3) (pgm 37 rfl)) ?_
    refine so_iload (i := 5) X 0 (dkX1_takePart (59, .iload 5, 2) (pgm 38 rfl)) rfl ?_
    refine so_aaldK X (rk_1_5 this hk) (by decide) (by decide) 4 (fun _ => rfl) rfl (re_1_5 this hk) (dkX1_takePart (61, .aaload, 1) (pgm 39 rfl)) (fun v9 hv9 => ?_)
    refine so_iconst (v := (0 : Int32)) X (dkX1_takePart (62, .iconst 0, 1) (pgm 40 rfl)) ic_0 ?_
    refine so_iload (i := 4) X 3 (dkX1_takePart (63, .iload 4, 2) (pgm 41 rfl)) rfl ?_
    refine so_iast X hv9 (dkX1_takePart (65, .iastore, 1) (pgm 42 rfl)) (fun h10 => ?_)
    refine so_aload_n (i := 0) X 1 (dkX1_takePart (66, .aload_n 0, 1) (pgm 43 rfl)) rfl rfl ?_
    refine sf_getR X ff_1_6 lk_494 hk (dkX1_takePart (67, .getfield 24, 3) (pgm 44 rfl)) ?_
    refine so_iload (i := 5) X 0 (dkX1_takePart (70, .iload 5, 2) (pgm 45 rfl)) rfl ?_
    refine so_iconst (v := (1 : Int32)) X (dkX1_takePart (72, .iconst 1, 1) (pgm 46 rfl)) ic_1 ?_
    refine so_iast X (rk_1_6 this hk) (dkX1_takePart (73, .iastore, 1) (pgm 47 rfl)) (fun h11 => ?_)
    exact so_vret X hr hlk (dkX1_takePart (74, .return_, 1) (pgm 48 rfl))
  refine so_pick (L' := [(0, .ref this), (1, .int a1), (2, .int a2), (3, .int x3), (4, .int x4), (5, .int x5)]) X [3, 4, 5, 2, 1, 0] rfl ?_
  refine so_loop (body := b_X1_takePart_14 a2 x3 j48) (fun (s14 : Int32 × Int32) => [(0, .ref this), (1, .int a1), (2, .int a2), (3, .int x3), (4, .int s14.1), (5, .int s14.2)]) (fun rec14 hrec14 s14 hh14 => ?_) FU (x4, x5) h2
  unfold b_X1_takePart_14
  refine so_iload (i := 5) X 5 (dkX1_takePart (14, .iload 5, 2) (pgm 10 rfl)) rfl ?_
  refine so_bipush (v := (32 : Int32)) X (dkX1_takePart (16, .bipush 32, 2) (pgm 11 rfl)) bp_32 ?_
  refine so_icmp_ge (tgt := 48) X (dkX1_takePart (18, .if_icmp .ge 30, 3) (pgm 12 rfl)) rfl (fun _ => ?_) (fun _ => ?_)
  · exact so_pick X [0, 1, 4] rfl (hj48 s14.1 hh14)
  · refine so_iload (i := 5) X 5 (dkX1_takePart (21, .iload 5, 2) (pgm 13 rfl)) rfl ?_
    refine so_iload_n (i := 3) X 3 (dkX1_takePart (23, .iload_n 3, 1) (pgm 14 rfl)) rfl rfl ?_
    refine so_ishr X (dkX1_takePart (24, .ishr, 1) (pgm 15 rfl)) ?_
    refine so_iconst (v := (1 : Int32)) X (dkX1_takePart (25, .iconst 1, 1) (pgm 16 rfl)) ic_1 ?_
    refine so_iand X (dkX1_takePart (26, .iand, 1) (pgm 17 rfl)) ?_
    refine so_iload_n (i := 2) X 2 (dkX1_takePart (27, .iload_n 2, 1) (pgm 18 rfl)) rfl rfl ?_
    refine so_iconst (v := (2 : Int32)) X (dkX1_takePart (28, .iconst 2, 1) (pgm 19 rfl)) ic_2 ?_
    refine so_irem X (dkX1_takePart (29, .irem, 1) (pgm 20 rfl)) (fun _ => ?_)
    refine so_join (jf := fun (y12 : Int32) (h13 : PH) => lt (s14.2 + Int32.ofInt 1) (fun (x14 : Int32) => rec14 (y12, x14) h13)) (fun (j : Int32 → PH → Option (Unit × PH)) => ∀ (y12 : Int32) (h13 : PH), SWo (QM mkV below args s D cA ad A) p l e (rmd 1) s m args below meth c 0 0 6 D cA ad A 42 [(0, .ref this), (1, .int a1), (2, .int a2), (3, .int x3), (4, .int y12), (5, .int s14.2)] [] h13 (j y12 h13)) ?_ (fun j42 hj42 => ?_)
    · intro y12 h13
      refine so_iinc (i := 5) X 5 (dkX1_takePart (42, .iinc 5 1, 3) (pgm 28 rfl)) rfl rfl (by decide) (Lf := fun x14 => [(5, .int x14), (0, .ref this), (1, .int a1), (2, .int a2), (3, .int x3), (4, .int y12)]) (fun _ => rfl) (fun x14 => ?_)
      refine so_goto (tgt := 14) X (dkX1_takePart (45, .goto (-31), 3) (pgm 29 rfl)) rfl ?_
      exact so_pick X [1, 2, 3, 4, 5, 0] rfl (hrec14 (y12, x14) h13)
    refine so_icmp_ne (tgt := 42) X (dkX1_takePart (30, .if_icmp .ne 12, 3) (pgm 21 rfl)) rfl (fun _ => ?_) (fun _ => ?_)
    · exact so_pick X [0, 1, 2, 3, 4, 5] rfl (hj42 s14.1 hh14)
    · refine so_iload (i := 4) X 4 (dkX1_takePart (33, .iload 4, 2) (pgm 22 rfl)) rfl ?_
      refine so_iconst (v := (1 : Int32)) X (dkX1_takePart (35, .iconst 1, 1) (pgm 23 rfl)) ic_1 ?_
      refine so_iload (i := 5) X 5 (dkX1_takePart (36, .iload 5, 2) (pgm 24 rfl)) rfl ?_
      refine so_ishl X (dkX1_takePart (38, .ishl, 1) (pgm 25 rfl)) ?_
      refine so_ior X (dkX1_takePart (39, .ior, 1) (pgm 26 rfl)) ?_
      refine so_istore (i := 4) X (dkX1_takePart (40, .istore 4, 2) (pgm 27 rfl)) (by decide) (Lf := fun x15 => [(4, .int x15), (0, .ref this), (1, .int a1), (2, .int a2), (3, .int x3), (5, .int s14.2)]) (fun _ => rfl) (fun x15 => ?_)
      exact so_pick X [1, 2, 3, 4, 0, 5] rfl (hj42 x15 hh14)
def pgX1_bracket : List (Nat × Instr × Nat) := [(0, .iconst 1, 1), (1, .istore_n 1, 1), (2, .iload_n 1, 1), (3, .aload_n 0, 1), (4, .getfield 41, 3), (7, .if_icmp .ge 65, 3), (10, .iconst 0, 1), (11, .istore_n 2, 1), (12, .iload_n 2, 1), (13, .iload_n 1, 1), (14, .iadd, 1), (15, .aload_n 0, 1), (16, .getfield 41, 3), (19, .if_icmp .ge 47, 3), (22, .iload_n 2, 1), (23, .iload_n 1, 1), (24, .iadd, 1), (25, .istore_n 3, 1), (26, .aload_n 0, 1), (27, .getfield 24, 3), (30, .iload_n 2, 1), (31, .iconst 5, 1), (32, .imul, 1), (33, .iload_n 3, 1), (34, .iadd, 1), (35, .iconst 0, 1), (36, .iastore, 1), (37, .iload_n 2, 1), (38, .istore 4, 2), (40, .iload 4, 2), (42, .iload_n 3, 1), (43, .if_icmp .ge 17, 3), (46, .aload_n 0, 1), (47, .iload_n 2, 1), (48, .iload 4, 2), (50, .iload_n 3, 1), (51, .invokevirtual 64, 3), (54, .iinc 4 1, 3), (57, .goto (-17), 3), (60, .iinc 2 1, 3), (63, .goto (-51), 3), (66, .iinc 1 1, 3), (69, .goto (-67), 3), (72, .return_, 1)]
theorem dkX1_bracket : ∀ q ∈ pgX1_bracket, decode cX1_bracket q.1 = .ok q.2 := by decide +kernel
def b_X1_bracket_40 (this : Nat) (s12 : Int32) (x5 : Int32) (j60 : PH → Option (Unit × PH)) (rec40 : (Int32) → PH → Option (Unit × PH)) (s40 : Int32) (hh40 : PH) : Option (Unit × PH) :=
  if x5 ≤ s40 then (j60 hh40) else (cb (f_X1_joinAt this s12 s40 x5 hh40) (fun (r10 : Unit) (h11 : PH) => lt (s40 + Int32.ofInt 1) (fun (x12 : Int32) => rec40 x12 h11)))
def b_X1_bracket_12 (this : Nat) (s2 : Int32) (j66 : PH → Option (Unit × PH)) (rec12 : (Int32) → PH → Option (Unit × PH)) (s12 : Int32) (hh12 : PH) : Option (Unit × PH) :=
  if (hh12.1 this 7) ≤ (s12 + s2) then (j66 hh12) else (lt (s12 + s2) (fun (x5 : Int32) => stI hh12 (rt this 6) 25 ((s12 * (5 : Int32)) + x5) (0 : Int32) (fun (h6 : PH) => lt s12 (fun (x7 : Int32) => lt (fun (h8 : PH) => lt (s12 + Int32.ofInt 1) (fun (x9 : Int32) => rec12 x9 h8)) (fun (j60 : PH → Option (Unit × PH)) => lp (b_X1_bracket_40 this s12 x5 j60) FU x7 h6)))))
def b_X1_bracket_2 (this : Nat) (rec2 : (Int32) → PH → Option (Unit × PH)) (s2 : Int32) (hh2 : PH) : Option (Unit × PH) :=
  if (hh2.1 this 7) ≤ s2 then (some ((), hh2)) else (lt (0 : Int32) (fun (x2 : Int32) => lt (fun (h3 : PH) => lt (s2 + Int32.ofInt 1) (fun (x4 : Int32) => rec2 x4 h3)) (fun (j66 : PH → Option (Unit × PH)) => lp (b_X1_bracket_12 this s2 j66) FU x2 hh2)))
def f_X1_bracket (this : Nat) (h0 : PH) : Option (Unit × PH) :=
  lt (1 : Int32) (fun (x1 : Int32) => lp (b_X1_bracket_2 this) FU x1 h0)
set_option maxRecDepth 100000 in
set_option maxHeartbeats 4000000 in
theorem ct_X1_bracket (l : Launch) (this : Nat) (h0 : PH) (hk : (kd this).1 = 1) : CT mkV l yX1_bracket cX1_bracket 5 none (rmd 1) [.ref this] h0 (f_X1_bracket this h0) := by
  refine ct_of (by decide) (Nat.le_of_ble_eq_true rfl) ?_
  intro p e s m args below meth c D cA ad A X hr hlk
  have X : Cx p s m args c RX1 cX1_bracket 5 D cA ad A := X
  unfold f_X1_bracket
  refine so_pick (L' := [(0, .ref this)]) X [0] rfl ?_
  refine so_iconst (v := (1 : Int32)) X (dkX1_bracket (0, .iconst 1, 1) (pgm 0 rfl)) ic_1 ?_
  refine so_istore_n (i := 1) X (dkX1_bracket (1, .istore_n 1, 1) (pgm 1 rfl)) rfl (by decide) (Lf := fun x1 => [(1, .int x1), (0, .ref this)]) (fun _ => rfl) (fun x1 => ?_)
  refine so_pick (L' := [(0, .ref this), (1, .int x1)]) X [1, 0] rfl ?_
  refine so_loop (body := b_X1_bracket_2 this) (fun (s2 : Int32) => [(0, .ref this), (1, .int s2)]) (fun rec2 hrec2 s2 hh2 => ?_) FU x1 h0
  unfold b_X1_bracket_2
  refine so_iload_n (i := 1) X 1 (dkX1_bracket (2, .iload_n 1, 1) (pgm 2 rfl)) rfl rfl ?_
  refine so_aload_n (i := 0) X 0 (dkX1_bracket (3, .aload_n 0, 1) (pgm 3 rfl)) rfl rfl ?_
  refine sf_getI X ff_1_7 lk_495 hk (dkX1_bracket (4, .getfield 41, 3) (pgm 4 rfl)) ?_
  refine so_icmp_ge (tgt := 72) X (dkX1_bracket (7, .if_icmp .ge 65, 3) (pgm 5 rfl)) rfl (fun _ => ?_) (fun _ => ?_)
  · exact so_vret X hr hlk (dkX1_bracket (72, .return_, 1) (pgm 43 rfl))
  · refine so_iconst (v := (0 : Int32)) X (dkX1_bracket (10, .iconst 0, 1) (pgm 6 rfl)) ic_0 ?_
    refine so_istore_n (i := 2) X (dkX1_bracket (11, .istore_n 2, 1) (pgm 7 rfl)) rfl (by decide) (Lf := fun x2 => [(2, .int x2), (0, .ref this), (1, .int s2)]) (fun _ => rfl) (fun x2 => ?_)
    refine so_join (jf := fun (h3 : PH) => lt (s2 + Int32.ofInt 1) (fun (x4 : Int32) => rec2 x4 h3)) (fun (j : PH → Option (Unit × PH)) => ∀  (h3 : PH), SWo (QM mkV below args s D cA ad A) p l e (rmd 1) s m args below meth c 0 0 5 D cA ad A 66 [(0, .ref this), (1, .int s2)] [] h3 (j h3)) ?_ (fun j66 hj66 => ?_)
    · intro h3
      refine so_iinc (i := 1) X 1 (dkX1_bracket (66, .iinc 1 1, 3) (pgm 41 rfl)) rfl rfl (by decide) (Lf := fun x4 => [(1, .int x4), (0, .ref this)]) (fun _ => rfl) (fun x4 => ?_)
      refine so_goto (tgt := 2) X (dkX1_bracket (69, .goto (-67), 3) (pgm 42 rfl)) rfl ?_
      exact so_pick X [1, 0] rfl (hrec2 x4 h3)
    refine so_pick (L' := [(0, .ref this), (1, .int s2), (2, .int x2)]) X [1, 2, 0] rfl ?_
    refine so_loop (body := b_X1_bracket_12 this s2 j66) (fun (s12 : Int32) => [(0, .ref this), (1, .int s2), (2, .int s12)]) (fun rec12 hrec12 s12 hh12 => ?_) FU x2 hh2
    unfold b_X1_bracket_12
    refine so_iload_n (i := 2) X 2 (dkX1_bracket (12, .iload_n 2, 1) (pgm 8 rfl)) rfl rfl ?_
    refine so_iload_n (i := 1) X 1 (dkX1_bracket (13, .iload_n 1, 1) (pgm 9 rfl)) rfl rfl ?_
    refine so_iadd X (dkX1_bracket (14, .iadd, 1) (pgm 10 rfl)) ?_
    refine so_aload_n (i := 0) X 0 (dkX1_bracket (15, .aload_n 0, 1) (pgm 11 rfl)) rfl rfl ?_
    refine sf_getI X ff_1_7 lk_495 hk (dkX1_bracket (16, .getfield 41, 3) (pgm 12 rfl)) ?_
    refine so_icmp_ge (tgt := 66) X (dkX1_bracket (19, .if_icmp .ge 47, 3) (pgm 13 rfl)) rfl (fun _ => ?_) (fun _ => ?_)
    · exact so_pick X [0, 1] rfl (hj66 hh12)
    · refine so_iload_n (i := 2) X 2 (dkX1_bracket (22, .iload_n 2, 1) (pgm 14 rfl)) rfl rfl ?_
      refine so_iload_n (i := 1) X 1 (dkX1_bracket (23, .iload_n 1, 1) (pgm 15 rfl)) rfl rfl ?_
      refine so_iadd X (dkX1_bracket (24, .iadd, 1) (pgm 16 rfl)) ?_
      refine so_istore_n (i := 3) X (dkX1_bracket (25, .istore_n 3, 1) (pgm 17 rfl)) rfl (by decide) (Lf := fun x5 => [(3, .int x5), (0, .ref this), (1, .int s2), (2, .int s12)]) (fun _ => rfl) (fun x5 => ?_)
      refine so_aload_n (i := 0) X 1 (dkX1_bracket (26, .aload_n 0, 1) (pgm 18 rfl)) rfl rfl ?_
      refine sf_getR X ff_1_6 lk_494 hk (dkX1_bracket (27, .getfield 24, 3) (pgm 19 rfl)) ?_
      refine so_iload_n (i := 2) X 3 (dkX1_bracket (30, .iload_n 2, 1) (pgm 20 rfl)) rfl rfl ?_
      refine so_iconst (v := (5 : Int32)) X (dkX1_bracket (31, .iconst 5, 1) (pgm 21 rfl)) ic_5 ?_
      refine so_imul X (dkX1_bracket (32, .imul, 1) (pgm 22 rfl)) ?_
      refine so_iload_n (i := 3) X 0 (dkX1_bracket (33, .iload_n 3, 1) (pgm 23 rfl)) rfl rfl ?_
      refine so_iadd X (dkX1_bracket (34, .iadd, 1) (pgm 24 rfl)) ?_
      refine so_iconst (v := (0 : Int32)) X (dkX1_bracket (35, .iconst 0, 1) (pgm 25 rfl)) ic_0 ?_
      refine so_iast X (rk_1_6 this hk) (dkX1_bracket (36, .iastore, 1) (pgm 26 rfl)) (fun h6 => ?_)
      refine so_iload_n (i := 2) X 3 (dkX1_bracket (37, .iload_n 2, 1) (pgm 27 rfl)) rfl rfl ?_
      refine so_istore (i := 4) X (dkX1_bracket (38, .istore 4, 2) (pgm 28 rfl)) (by decide) (Lf := fun x7 => [(4, .int x7), (3, .int x5), (0, .ref this), (1, .int s2), (2, .int s12)]) (fun _ => rfl) (fun x7 => ?_)
      refine so_join (jf := fun (h8 : PH) => lt (s12 + Int32.ofInt 1) (fun (x9 : Int32) => rec12 x9 h8)) (fun (j : PH → Option (Unit × PH)) => ∀  (h8 : PH), SWo (QM mkV below args s D cA ad A) p l e (rmd 1) s m args below meth c 0 0 5 D cA ad A 60 [(0, .ref this), (1, .int s2), (2, .int s12)] [] h8 (j h8)) ?_ (fun j60 hj60 => ?_)
      · intro h8
        refine so_iinc (i := 2) X 2 (dkX1_bracket (60, .iinc 2 1, 3) (pgm 39 rfl)) rfl rfl (by decide) (Lf := fun x9 => [(2, .int x9), (0, .ref this), (1, .int s2)]) (fun _ => rfl) (fun x9 => ?_)
        refine so_goto (tgt := 12) X (dkX1_bracket (63, .goto (-51), 3) (pgm 40 rfl)) rfl ?_
        exact so_pick X [1, 2, 0] rfl (hrec12 x9 h8)
      refine so_pick (L' := [(0, .ref this), (1, .int s2), (2, .int s12), (3, .int x5), (4, .int x7)]) X [2, 3, 4, 1, 0] rfl ?_
      refine so_loop (body := b_X1_bracket_40 this s12 x5 j60) (fun (s40 : Int32) => [(0, .ref this), (1, .int s2), (2, .int s12), (3, .int x5), (4, .int s40)]) (fun rec40 hrec40 s40 hh40 => ?_) FU x7 h6
      unfold b_X1_bracket_40
      refine so_iload (i := 4) X 4 (dkX1_bracket (40, .iload 4, 2) (pgm 29 rfl)) rfl ?_
      refine so_iload_n (i := 3) X 3 (dkX1_bracket (42, .iload_n 3, 1) (pgm 30 rfl)) rfl rfl ?_
      refine so_icmp_ge (tgt := 60) X (dkX1_bracket (43, .if_icmp .ge 17, 3) (pgm 31 rfl)) rfl (fun _ => ?_) (fun _ => ?_)
      · exact so_pick X [0, 1, 2] rfl (hj60 hh40)
      · refine so_aload_n (i := 0) X 0 (dkX1_bracket (46, .aload_n 0, 1) (pgm 32 rfl)) rfl rfl ?_
        refine so_iload_n (i := 2) X 2 (dkX1_bracket (47, .iload_n 2, 1) (pgm 33 rfl)) rfl rfl ?_
        refine so_iload (i := 4) X 4 (dkX1_bracket (48, .iload 4, 2) (pgm 34 rfl)) rfl ?_
        refine so_iload_n (i := 3) X 3 (dkX1_bracket (50, .iload_n 3, 1) (pgm 35 rfl)) rfl rfl ?_
        refine so_callV (n := 3) (As := [.int s12, .int s40, .int x5]) X (ct_X1_joinAt l this s12 s40 x5 hh40 hk) hk (by decide) rfl lk_1433 lk_1435 lk_48 lk_131 lk_1436 (by decide +kernel) rfl rfl rfl (rm_ok (by omega) (by decide)) ⟨Nat.zero_le _, Nat.zero_le _⟩ (Nat.le_of_ble_eq_true rfl) (dkX1_bracket (51, .invokevirtual 64, 3) (pgm 36 rfl)) (fun r10 h11 => ?_) rfl
        refine so_iinc (i := 4) X 4 (dkX1_bracket (54, .iinc 4 1, 3) (pgm 37 rfl)) rfl rfl (by decide) (Lf := fun x12 => [(4, .int x12), (0, .ref this), (1, .int s2), (2, .int s12), (3, .int x5)]) (fun _ => rfl) (fun x12 => ?_)
        refine so_goto (tgt := 40) X (dkX1_bracket (57, .goto (-17), 3) (pgm 38 rfl)) rfl ?_
        exact so_pick X [1, 2, 3, 4, 0] rfl (hrec40 x12 h11)
def pgX1_unlike : List (Nat × Instr × Nat) := [(0, .iconst 0, 1), (1, .istore_n 1, 1), (2, .iconst 0, 1), (3, .istore_n 2, 1), (4, .iload_n 2, 1), (5, .aload_n 0, 1), (6, .invokevirtual 68, 3), (9, .if_icmp .ge 20, 3), (12, .aload_n 0, 1), (13, .iload_n 2, 1), (14, .invokevirtual 72, 3), (17, .ifCond .eq 6, 3), (20, .iinc 1 1, 3), (23, .iinc 2 1, 3), (26, .goto (-22), 3), (29, .iload_n 1, 1), (30, .ireturn, 1)]
theorem dkX1_unlike : ∀ q ∈ pgX1_unlike, decode cX1_unlike q.1 = .ok q.2 := by decide +kernel
def b_X1_unlike_4 (this : Nat) (rec4 : (Int32 × Int32) → PH → Option (Int32 × PH)) (s4 : Int32 × Int32) (hh4 : PH) : Option (Int32 × PH) :=
  cb (f_X1_all this hh4) (fun (r3 : Int32) (h4 : PH) => if r3 ≤ s4.2 then (some (s4.1, h4)) else (cb (f_X1_isNew this s4.2 h4) (fun (r5 : Int32) (h6 : PH) => lt (fun (y7 : Int32) (h8 : PH) => lt (s4.2 + Int32.ofInt 1) (fun (x9 : Int32) => rec4 (y7, x9) h8)) (fun (j23 : Int32 → PH → Option (Int32 × PH)) => if r5 = 0 then (j23 s4.1 h6) else (lt (s4.1 + Int32.ofInt 1) (fun (x10 : Int32) => j23 x10 h6))))))
def f_X1_unlike (this : Nat) (h0 : PH) : Option (Int32 × PH) :=
  lt (0 : Int32) (fun (x1 : Int32) => lt (0 : Int32) (fun (x2 : Int32) => lp (b_X1_unlike_4 this) FU (x1, x2) h0))
set_option maxRecDepth 100000 in
set_option maxHeartbeats 4000000 in
theorem ct_X1_unlike (l : Launch) (this : Nat) (h0 : PH) (hk : (kd this).1 = 1) : CT mkI l yX1_unlike cX1_unlike 3 (some .int) (rmd 1) [.ref this] h0 (f_X1_unlike this h0) := by
  refine ct_of (by decide) (Nat.le_of_ble_eq_true rfl) ?_
  intro p e s m args below meth c D cA ad A X hr hlk
  have X : Cx p s m args c RX1 cX1_unlike 3 D cA ad A := X
  unfold f_X1_unlike
  refine so_pick (L' := [(0, .ref this)]) X [0] rfl ?_
  refine so_iconst (v := (0 : Int32)) X (dkX1_unlike (0, .iconst 0, 1) (pgm 0 rfl)) ic_0 ?_
  refine so_istore_n (i := 1) X (dkX1_unlike (1, .istore_n 1, 1) (pgm 1 rfl)) rfl (by decide) (Lf := fun x1 => [(1, .int x1), (0, .ref this)]) (fun _ => rfl) (fun x1 => ?_)
  refine so_iconst (v := (0 : Int32)) X (dkX1_unlike (2, .iconst 0, 1) (pgm 2 rfl)) ic_0 ?_
  refine so_istore_n (i := 2) X (dkX1_unlike (3, .istore_n 2, 1) (pgm 3 rfl)) rfl (by decide) (Lf := fun x2 => [(2, .int x2), (1, .int x1), (0, .ref this)]) (fun _ => rfl) (fun x2 => ?_)
  refine so_pick (L' := [(0, .ref this), (1, .int x1), (2, .int x2)]) X [2, 1, 0] rfl ?_
  refine so_loop (body := b_X1_unlike_4 this) (fun (s4 : Int32 × Int32) => [(0, .ref this), (1, .int s4.1), (2, .int s4.2)]) (fun rec4 hrec4 s4 hh4 => ?_) FU (x1, x2) h0
  unfold b_X1_unlike_4
  refine so_iload_n (i := 2) X 2 (dkX1_unlike (4, .iload_n 2, 1) (pgm 4 rfl)) rfl rfl ?_
  refine so_aload_n (i := 0) X 0 (dkX1_unlike (5, .aload_n 0, 1) (pgm 5 rfl)) rfl rfl ?_
  refine so_callV (n := 0) (As := []) X (ct_X1_all l this hh4 hk) hk (by decide) rfl lk_1445 lk_1438 lk_1439 lk_131 lk_1440 (by decide +kernel) rfl rfl rfl (rm_ok (by omega) (by decide)) ⟨Nat.zero_le _, Nat.zero_le _⟩ (Nat.le_of_ble_eq_true rfl) (dkX1_unlike (6, .invokevirtual 68, 3) (pgm 6 rfl)) (fun r3 h4 => ?_) rfl
  refine so_icmp_ge (tgt := 29) X (dkX1_unlike (9, .if_icmp .ge 20, 3) (pgm 7 rfl)) rfl (fun _ => ?_) (fun _ => ?_)
  · refine so_iload_n (i := 1) X 1 (dkX1_unlike (29, .iload_n 1, 1) (pgm 15 rfl)) rfl rfl ?_
    exact so_iret X hr hlk (dkX1_unlike (30, .ireturn, 1) (pgm 16 rfl))
  · refine so_aload_n (i := 0) X 0 (dkX1_unlike (12, .aload_n 0, 1) (pgm 8 rfl)) rfl rfl ?_
    refine so_iload_n (i := 2) X 2 (dkX1_unlike (13, .iload_n 2, 1) (pgm 9 rfl)) rfl rfl ?_
    refine so_callV (n := 1) (As := [.int s4.2]) X (ct_X1_isNew l this s4.2 h4 hk) hk (by decide) rfl lk_1446 lk_1448 lk_49 lk_131 lk_1449 (by decide +kernel) rfl rfl rfl (rm_ok (by omega) (by decide)) ⟨Nat.zero_le _, Nat.zero_le _⟩ (Nat.le_of_ble_eq_true rfl) (dkX1_unlike (14, .invokevirtual 72, 3) (pgm 10 rfl)) (fun r5 h6 => ?_) rfl
    refine so_join (jf := fun (y7 : Int32) (h8 : PH) => lt (s4.2 + Int32.ofInt 1) (fun (x9 : Int32) => rec4 (y7, x9) h8)) (fun (j : Int32 → PH → Option (Int32 × PH)) => ∀ (y7 : Int32) (h8 : PH), SWo (QM mkI below args s D cA ad A) p l e (rmd 1) s m args below meth c 0 0 3 D cA ad A 23 [(0, .ref this), (1, .int y7), (2, .int s4.2)] [] h8 (j y7 h8)) ?_ (fun j23 hj23 => ?_)
    · intro y7 h8
      refine so_iinc (i := 2) X 2 (dkX1_unlike (23, .iinc 2 1, 3) (pgm 13 rfl)) rfl rfl (by decide) (Lf := fun x9 => [(2, .int x9), (0, .ref this), (1, .int y7)]) (fun _ => rfl) (fun x9 => ?_)
      refine so_goto (tgt := 4) X (dkX1_unlike (26, .goto (-22), 3) (pgm 14 rfl)) rfl ?_
      exact so_pick X [1, 2, 0] rfl (hrec4 (y7, x9) h8)
    refine so_if_eq (tgt := 23) X (dkX1_unlike (17, .ifCond .eq 6, 3) (pgm 11 rfl)) rfl (fun _ => ?_) (fun _ => ?_)
    · exact so_pick X [0, 1, 2] rfl (hj23 s4.1 h6)
    · refine so_iinc (i := 1) X 1 (dkX1_unlike (20, .iinc 1 1, 3) (pgm 12 rfl)) rfl rfl (by decide) (Lf := fun x10 => [(1, .int x10), (0, .ref this), (2, .int s4.2)]) (fun _ => rfl) (fun x10 => ?_)
      exact so_pick X [1, 0, 2] rfl (hj23 x10 h6)
def pgX1_sortPlans : List (Nat × Instr × Nat) := [(0, .aload_n 0, 1), (1, .getfield 16, 3), (4, .iconst 0, 1), (5, .invokestatic 91, 3), (8, .iconst 0, 1), (9, .istore_n 1, 1), (10, .iload_n 1, 1), (11, .aload_n 0, 1), (12, .getfield 31, 3), (15, .getfield 97, 3), (18, .if_icmp .ge 73, 3), (21, .aload_n 0, 1), (22, .getfield 27, 3), (25, .aload_n 0, 1), (26, .getfield 31, 3), (29, .getfield 102, 3), (32, .iload_n 1, 1), (33, .iaload, 1), (34, .invokevirtual 105, 3), (37, .istore_n 2, 1), (38, .iconst 0, 1), (39, .istore_n 3, 1), (40, .iconst 0, 1), (41, .istore 4, 2), (43, .iload 4, 2), (45, .aload_n 0, 1), (46, .getfield 44, 3), (49, .if_icmp .ge 26, 3), (52, .iload_n 3, 1), (53, .iload_n 2, 1), (54, .aload_n 0, 1), (55, .getfield 13, 3), (58, .iload 4, 2), (60, .iaload, 1), (61, .ishr, 1), (62, .iconst 1, 1), (63, .iand, 1), (64, .iload 4, 2), (66, .ishl, 1), (67, .ior, 1), (68, .istore_n 3, 1), (69, .iinc 4 1, 3), (72, .goto (-29), 3), (75, .aload_n 0, 1), (76, .getfield 16, 3), (79, .iload_n 3, 1), (80, .dup2, 1), (81, .iaload, 1), (82, .iconst 1, 1), (83, .iadd, 1), (84, .iastore, 1), (85, .iinc 1 1, 3), (88, .goto (-78), 3), (91, .return_, 1)]
theorem dkX1_sortPlans : ∀ q ∈ pgX1_sortPlans, decode cX1_sortPlans q.1 = .ok q.2 := by decide +kernel
def b_X1_sortPlans_43 (this : Nat) (x7 : Int32) (j75 : Int32 → PH → Option (Unit × PH)) (rec43 : (Int32 × Int32) → PH → Option (Unit × PH)) (s43 : Int32 × Int32) (hh43 : PH) : Option (Unit × PH) :=
  if (hh43.1 this 8) ≤ s43.2 then (j75 s43.1 hh43) else (ldI hh43 (rt this 3) 5 s43.2 (fun (x15 : Int32) => lt (s43.1 ||| (((x7 >>> (x15 &&& 31)) &&& (1 : Int32)) <<< (s43.2 &&& 31))) (fun (x16 : Int32) => lt (s43.2 + Int32.ofInt 1) (fun (x17 : Int32) => rec43 (x16, x17) hh43))))
def b_X1_sortPlans_10 (this : Nat) (rec10 : (Int32) → PH → Option (Unit × PH)) (s10 : Int32) (hh10 : PH) : Option (Unit × PH) :=
  if (hh10.1 (rt this 1) 4) ≤ s10 then (some ((), hh10)) else (ldI hh10 (rt (rt this 1) 3) 4096 s10 (fun (x4 : Int32) => cb (f_X8_weatherOf (rt this 0) x4 hh10) (fun (r5 : Int32) (h6 : PH) => lt r5 (fun (x7 : Int32) => lt (0 : Int32) (fun (x8 : Int32) => lt (0 : Int32) (fun (x9 : Int32) => lt (fun (y10 : Int32) (h11 : PH) => ldI h11 (rt this 4) 32 y10 (fun (x12 : Int32) => stI h11 (rt this 4) 32 y10 (x12 + (1 : Int32)) (fun (h13 : PH) => lt (s10 + Int32.ofInt 1) (fun (x14 : Int32) => rec10 x14 h13)))) (fun (j75 : Int32 → PH → Option (Unit × PH)) => lp (b_X1_sortPlans_43 this x7 j75) FU (x8, x9) h6)))))))
def f_X1_sortPlans (this : Nat) (h0 : PH) : Option (Unit × PH) :=
  cb (f_J7_fill_53178 (rt this 4) 32 (0 : Int32) h0) (fun (r1 : Unit) (h2 : PH) => lt (0 : Int32) (fun (x3 : Int32) => lp (b_X1_sortPlans_10 this) FU x3 h2))
set_option maxRecDepth 100000 in
set_option maxHeartbeats 4000000 in
theorem ct_X1_sortPlans (l : Launch) (this : Nat) (h0 : PH) (hk : (kd this).1 = 1) : CT mkV l yX1_sortPlans cX1_sortPlans 5 none (rmd 1) [.ref this] h0 (f_X1_sortPlans this h0) := by
  refine ct_of (by decide) (Nat.le_of_ble_eq_true rfl) ?_
  intro p e s m args below meth c D cA ad A X hr hlk
  have X : Cx p s m args c RX1 cX1_sortPlans 5 D cA ad A := X
  unfold f_X1_sortPlans
  refine so_pick (L' := [(0, .ref this)]) X [0] rfl ?_
  refine so_aload_n (i := 0) X 0 (dkX1_sortPlans (0, .aload_n 0, 1) (pgm 0 rfl)) rfl rfl ?_
  refine sf_getR X ff_1_4 lk_492 hk (dkX1_sortPlans (1, .getfield 16, 3) (pgm 1 rfl)) ?_
  refine so_iconst (v := (0 : Int32)) X (dkX1_sortPlans (4, .iconst 0, 1) (pgm 2 rfl)) ic_0 ?_
  refine so_callS (n := 2) (As := [.ref (rt this 4), .int (0 : Int32)]) X (ct_J7_fill_53178 l (rt this 4) 32 (0 : Int32) h0 (rk_1_4 this hk)) lk_1458 lk_368 lk_127 lk_369 (by decide +kernel) rfl rfl rfl (rm_ok (by omega) (by decide)) ⟨Nat.zero_le _, Nat.zero_le _⟩ (Nat.le_of_ble_eq_true rfl) (dkX1_sortPlans (5, .invokestatic 91, 3) (pgm 3 rfl)) (fun r1 h2 => ?_) rfl
  refine so_iconst (v := (0 : Int32)) X (dkX1_sortPlans (8, .iconst 0, 1) (pgm 4 rfl)) ic_0 ?_
  refine so_istore_n (i := 1) X (dkX1_sortPlans (9, .istore_n 1, 1) (pgm 5 rfl)) rfl (by decide) (Lf := fun x3 => [(1, .int x3), (0, .ref this)]) (fun _ => rfl) (fun x3 => ?_)
  refine so_pick (L' := [(0, .ref this), (1, .int x3)]) X [1, 0] rfl ?_
  refine so_loop (body := b_X1_sortPlans_10 this) (fun (s10 : Int32) => [(0, .ref this), (1, .int s10)]) (fun rec10 hrec10 s10 hh10 => ?_) FU x3 h2
  unfold b_X1_sortPlans_10
  refine so_iload_n (i := 1) X 1 (dkX1_sortPlans (10, .iload_n 1, 1) (pgm 6 rfl)) rfl rfl ?_
  refine so_aload_n (i := 0) X 0 (dkX1_sortPlans (11, .aload_n 0, 1) (pgm 7 rfl)) rfl rfl ?_
  refine sf_getR X ff_1_1 lk_489 hk (dkX1_sortPlans (12, .getfield 31, 3) (pgm 8 rfl)) ?_
  refine sf_getI X ff_2_4 lk_393 (fo (rk_1_1 this hk)) (dkX1_sortPlans (15, .getfield 97, 3) (pgm 9 rfl)) ?_
  refine so_icmp_ge (tgt := 91) X (dkX1_sortPlans (18, .if_icmp .ge 73, 3) (pgm 10 rfl)) rfl (fun _ => ?_) (fun _ => ?_)
  · exact so_vret X hr hlk (dkX1_sortPlans (91, .return_, 1) (pgm 53 rfl))
  · refine so_aload_n (i := 0) X 0 (dkX1_sortPlans (21, .aload_n 0, 1) (pgm 11 rfl)) rfl rfl ?_
    refine sf_getR X ff_1_0 lk_488 hk (dkX1_sortPlans (22, .getfield 27, 3) (pgm 12 rfl)) ?_
    refine so_aload_n (i := 0) X 0 (dkX1_sortPlans (25, .aload_n 0, 1) (pgm 13 rfl)) rfl rfl ?_
    refine sf_getR X ff_1_1 lk_489 hk (dkX1_sortPlans (26, .getfield 31, 3) (pgm 14 rfl)) ?_
    refine sf_getR X ff_2_3 lk_390 (fo (rk_1_1 this hk)) (dkX1_sortPlans (29, .getfield 102, 3) (pgm 15 rfl)) ?_
    refine so_iload_n (i := 1) X 1 (dkX1_sortPlans (32, .iload_n 1, 1) (pgm 16 rfl)) rfl rfl ?_
    refine so_iald X (rk_2_3 (rt this 1) (fo (rk_1_1 this hk))) (dkX1_sortPlans (33, .iaload, 1) (pgm 17 rfl)) (fun x4 => ?_)
    refine so_callV (n := 1) (As := [.int x4]) X (ct_X8_weatherOf l (rt this 0) x4 hh10 (fo (rk_1_0 this hk))) (fo (rk_1_0 this hk)) (by decide) rfl lk_1459 lk_641 lk_642 lk_122 lk_643 (by decide +kernel) rfl rfl rfl (rm_ok (by omega) (by decide)) ⟨Nat.zero_le _, Nat.zero_le _⟩ (Nat.le_of_ble_eq_true rfl) (dkX1_sortPlans (34, .invokevirtual 105, 3) (pgm 18 rfl)) (fun r5 h6 => ?_) rfl
    refine so_istore_n (i := 2) X (dkX1_sortPlans (37, .istore_n 2, 1) (pgm 19 rfl)) rfl (by decide) (Lf := fun x7 => [(2, .int x7), (0, .ref this), (1, .int s10)]) (fun _ => rfl) (fun x7 => ?_)
    refine so_iconst (v := (0 : Int32)) X (dkX1_sortPlans (38, .iconst 0, 1) (pgm 20 rfl)) ic_0 ?_
    refine so_istore_n (i := 3) X (dkX1_sortPlans (39, .istore_n 3, 1) (pgm 21 rfl)) rfl (by decide) (Lf := fun x8 => [(3, .int x8), (2, .int x7), (0, .ref this), (1, .int s10)]) (fun _ => rfl) (fun x8 => ?_)
    refine so_iconst (v := (0 : Int32)) X (dkX1_sortPlans (40, .iconst 0, 1) (pgm 22 rfl)) ic_0 ?_
    refine so_istore (i := 4) X (dkX1_sortPlans (41, .istore 4, 2) (pgm 23 rfl)) (by decide) (Lf := fun x9 => [(4, .int x9), (3, .int x8), (2, .int x7), (0, .ref this), (1, .int s10)]) (fun _ => rfl) (fun x9 => ?_)
    refine so_join (jf := fun (y10 : Int32) (h11 : PH) => ldI h11 (rt this 4) 32 y10 (fun (x12 : Int32) => stI h11 (rt this 4) 32 y10 (x12 + (1 : Int32)) (fun (h13 : PH) => lt (s10 + Int32.ofInt 1) (fun (x14 : Int32) => rec10 x14 h13)))) (fun (j : Int32 → PH → Option (Unit × PH)) => ∀ (y10 : Int32) (h11 : PH), SWo (QM mkV below args s D cA ad A) p l e (rmd 1) s m args below meth c 0 0 5 D cA ad A 75 [(0, .ref this), (1, .int s10), (3, .int y10)] [] h11 (j y10 h11)) ?_ (fun j75 hj75 => ?_)
    · intro y10 h11
      refine so_aload_n (i := 0) X 0 (dkX1_sortPlans (75, .aload_n 0, 1) (pgm 43 rfl)) rfl rfl ?_
      refine sf_getR X ff_1_4 lk_492 hk (dkX1_sortPlans (76, .getfield 16, 3) (pgm 44 rfl)) ?_
      refine so_iload_n (i := 3) X 2 (dkX1_sortPlans (79, .iload_n 3, 1) (pgm 45 rfl)) rfl rfl ?_
      refine so_dup2 X (dkX1_sortPlans (80, .dup2, 1) (pgm 46 rfl)) rfl rfl ?_
      refine so_iald X (rk_1_4 this hk) (dkX1_sortPlans (81, .iaload, 1) (pgm 47 rfl)) (fun x12 => ?_)
      refine so_iconst (v := (1 : Int32)) X (dkX1_sortPlans (82, .iconst 1, 1) (pgm 48 rfl)) ic_1 ?_
      refine so_iadd X (dkX1_sortPlans (83, .iadd, 1) (pgm 49 rfl)) ?_
      refine so_iast X (rk_1_4 this hk) (dkX1_sortPlans (84, .iastore, 1) (pgm 50 rfl)) (fun h13 => ?_)
      refine so_iinc (i := 1) X 1 (dkX1_sortPlans (85, .iinc 1 1, 3) (pgm 51 rfl)) rfl rfl (by decide) (Lf := fun x14 => [(1, .int x14), (0, .ref this), (3, .int y10)]) (fun _ => rfl) (fun x14 => ?_)
      refine so_goto (tgt := 10) X (dkX1_sortPlans (88, .goto (-78), 3) (pgm 52 rfl)) rfl ?_
      exact so_pick X [1, 0] rfl (hrec10 x14 h13)
    refine so_pick (L' := [(0, .ref this), (1, .int s10), (2, .int x7), (3, .int x8), (4, .int x9)]) X [3, 4, 2, 1, 0] rfl ?_
    refine so_loop (body := b_X1_sortPlans_43 this x7 j75) (fun (s43 : Int32 × Int32) => [(0, .ref this), (1, .int s10), (2, .int x7), (3, .int s43.1), (4, .int s43.2)]) (fun rec43 hrec43 s43 hh43 => ?_) FU (x8, x9) h6
    unfold b_X1_sortPlans_43
    refine so_iload (i := 4) X 4 (dkX1_sortPlans (43, .iload 4, 2) (pgm 24 rfl)) rfl ?_
    refine so_aload_n (i := 0) X 0 (dkX1_sortPlans (45, .aload_n 0, 1) (pgm 25 rfl)) rfl rfl ?_
    refine sf_getI X ff_1_8 lk_496 hk (dkX1_sortPlans (46, .getfield 44, 3) (pgm 26 rfl)) ?_
    refine so_icmp_ge (tgt := 75) X (dkX1_sortPlans (49, .if_icmp .ge 26, 3) (pgm 27 rfl)) rfl (fun _ => ?_) (fun _ => ?_)
    · exact so_pick X [0, 1, 3] rfl (hj75 s43.1 hh43)
    · refine so_iload_n (i := 3) X 3 (dkX1_sortPlans (52, .iload_n 3, 1) (pgm 28 rfl)) rfl rfl ?_
      refine so_iload_n (i := 2) X 2 (dkX1_sortPlans (53, .iload_n 2, 1) (pgm 29 rfl)) rfl rfl ?_
      refine so_aload_n (i := 0) X 0 (dkX1_sortPlans (54, .aload_n 0, 1) (pgm 30 rfl)) rfl rfl ?_
      refine sf_getR X ff_1_3 lk_491 hk (dkX1_sortPlans (55, .getfield 13, 3) (pgm 31 rfl)) ?_
      refine so_iload (i := 4) X 4 (dkX1_sortPlans (58, .iload 4, 2) (pgm 32 rfl)) rfl ?_
      refine so_iald X (rk_1_3 this hk) (dkX1_sortPlans (60, .iaload, 1) (pgm 33 rfl)) (fun x15 => ?_)
      refine so_ishr X (dkX1_sortPlans (61, .ishr, 1) (pgm 34 rfl)) ?_
      refine so_iconst (v := (1 : Int32)) X (dkX1_sortPlans (62, .iconst 1, 1) (pgm 35 rfl)) ic_1 ?_
      refine so_iand X (dkX1_sortPlans (63, .iand, 1) (pgm 36 rfl)) ?_
      refine so_iload (i := 4) X 4 (dkX1_sortPlans (64, .iload 4, 2) (pgm 37 rfl)) rfl ?_
      refine so_ishl X (dkX1_sortPlans (66, .ishl, 1) (pgm 38 rfl)) ?_
      refine so_ior X (dkX1_sortPlans (67, .ior, 1) (pgm 39 rfl)) ?_
      refine so_istore_n (i := 3) X (dkX1_sortPlans (68, .istore_n 3, 1) (pgm 40 rfl)) rfl (by decide) (Lf := fun x16 => [(3, .int x16), (0, .ref this), (1, .int s10), (2, .int x7), (4, .int s43.2)]) (fun _ => rfl) (fun x16 => ?_)
      refine so_iinc (i := 4) X 4 (dkX1_sortPlans (69, .iinc 4 1, 3) (pgm 41 rfl)) rfl rfl (by decide) (Lf := fun x17 => [(4, .int x17), (3, .int x16), (0, .ref this), (1, .int s10), (2, .int x7)]) (fun _ => rfl) (fun x17 => ?_)
      refine so_goto (tgt := 43) X (dkX1_sortPlans (72, .goto (-29), 3) (pgm 42 rfl)) rfl ?_
      exact so_pick X [2, 3, 4, 1, 0] rfl (hrec43 (x16, x17) hh43)
def pgX2_spread : List (Nat × Instr × Nat) := [(0, .iconst 0, 1), (1, .istore_n 1, 1), (2, .iload_n 1, 1), (3, .aload_n 0, 1), (4, .getfield 21, 3), (7, .getfield 77, 3), (10, .if_icmp .ge 63, 3), (13, .iconst 0, 1), (14, .istore_n 2, 1), (15, .iload_n 2, 1), (16, .iconst 1, 1), (17, .aload_n 0, 1), (18, .getfield 21, 3), (21, .getfield 77, 3), (24, .ishl, 1), (25, .if_icmp .ge 42, 3), (28, .iload_n 2, 1), (29, .iload_n 1, 1), (30, .ishr, 1), (31, .iconst 1, 1), (32, .iand, 1), (33, .ifCond .ne 28, 3), (36, .aload_n 0, 1), (37, .getfield 15, 3), (40, .iload_n 2, 1), (41, .aload_n 0, 1), (42, .getfield 15, 3), (45, .iload_n 2, 1), (46, .iaload, 1), (47, .aload_n 0, 1), (48, .getfield 15, 3), (51, .iload_n 2, 1), (52, .iconst 1, 1), (53, .iload_n 1, 1), (54, .ishl, 1), (55, .ior, 1), (56, .iaload, 1), (57, .invokestatic 71, 3), (60, .iastore, 1), (61, .iinc 2 1, 3), (64, .goto (-49), 3), (67, .iinc 1 1, 3), (70, .goto (-68), 3), (73, .return_, 1)]
theorem dkX2_spread : ∀ q ∈ pgX2_spread, decode cX2_spread q.1 = .ok q.2 := by decide +kernel
def b_X2_spread_15 (this : Nat) (s2 : Int32) (j67 : PH → Option (Unit × PH)) (rec15 : (Int32) → PH → Option (Unit × PH)) (s15 : Int32) (hh15 : PH) : Option (Unit × PH) :=
  if ((1 : Int32) <<< ((hh15.1 (rt this 0) 5) &&& 31)) ≤ s15 then (j67 hh15) else (lt (fun (h5 : PH) => lt (s15 + Int32.ofInt 1) (fun (x6 : Int32) => rec15 x6 h5)) (fun (j61 : PH → Option (Unit × PH)) => if ((s15 >>> (s2 &&& 31)) &&& (1 : Int32)) = 0 then (ldI hh15 (rt this 5) 1024 s15 (fun (x7 : Int32) => ldI hh15 (rt this 5) 1024 (s15 ||| ((1 : Int32) <<< (s2 &&& 31))) (fun (x8 : Int32) => cb (f_X2_lesser x7 x8 hh15) (fun (r9 : Int32) (h10 : PH) => stI h10 (rt this 5) 1024 s15 r9 (fun (h11 : PH) => j61 h11))))) else (j61 hh15)))
def b_X2_spread_2 (this : Nat) (rec2 : (Int32) → PH → Option (Unit × PH)) (s2 : Int32) (hh2 : PH) : Option (Unit × PH) :=
  if (hh2.1 (rt this 0) 5) ≤ s2 then (some ((), hh2)) else (lt (0 : Int32) (fun (x2 : Int32) => lt (fun (h3 : PH) => lt (s2 + Int32.ofInt 1) (fun (x4 : Int32) => rec2 x4 h3)) (fun (j67 : PH → Option (Unit × PH)) => lp (b_X2_spread_15 this s2 j67) FU x2 hh2)))
def f_X2_spread (this : Nat) (h0 : PH) : Option (Unit × PH) :=
  lt (0 : Int32) (fun (x1 : Int32) => lp (b_X2_spread_2 this) FU x1 h0)
set_option maxRecDepth 100000 in
set_option maxHeartbeats 4000000 in
theorem ct_X2_spread (l : Launch) (this : Nat) (h0 : PH) (hk : (kd this).1 = 2) : CT mkV l yX2_spread cX2_spread 3 none (rmd 2) [.ref this] h0 (f_X2_spread this h0) := by
  refine ct_of (by decide) (Nat.le_of_ble_eq_true rfl) ?_
  intro p e s m args below meth c D cA ad A X hr hlk
  have X : Cx p s m args c RX2 cX2_spread 3 D cA ad A := X
  unfold f_X2_spread
  refine so_pick (L' := [(0, .ref this)]) X [0] rfl ?_
  refine so_iconst (v := (0 : Int32)) X (dkX2_spread (0, .iconst 0, 1) (pgm 0 rfl)) ic_0 ?_
  refine so_istore_n (i := 1) X (dkX2_spread (1, .istore_n 1, 1) (pgm 1 rfl)) rfl (by decide) (Lf := fun x1 => [(1, .int x1), (0, .ref this)]) (fun _ => rfl) (fun x1 => ?_)
  refine so_pick (L' := [(0, .ref this), (1, .int x1)]) X [1, 0] rfl ?_
  refine so_loop (body := b_X2_spread_2 this) (fun (s2 : Int32) => [(0, .ref this), (1, .int s2)]) (fun rec2 hrec2 s2 hh2 => ?_) FU x1 h0
  unfold b_X2_spread_2
  refine so_iload_n (i := 1) X 1 (dkX2_spread (2, .iload_n 1, 1) (pgm 2 rfl)) rfl rfl ?_
  refine so_aload_n (i := 0) X 0 (dkX2_spread (3, .aload_n 0, 1) (pgm 3 rfl)) rfl rfl ?_
  refine sf_getR X ff_2_0 lk_386 hk (dkX2_spread (4, .getfield 21, 3) (pgm 4 rfl)) ?_
  refine sf_getI X ff_8_5 lk_184 (fo (rk_2_0 this hk)) (dkX2_spread (7, .getfield 77, 3) (pgm 5 rfl)) ?_
  refine so_icmp_ge (tgt := 73) X (dkX2_spread (10, .if_icmp .ge 63, 3) (pgm 6 rfl)) rfl (fun _ => ?_) (fun _ => ?_)
  · exact so_vret X hr hlk (dkX2_spread (73, .return_, 1) (pgm 43 rfl))
  · refine so_iconst (v := (0 : Int32)) X (dkX2_spread (13, .iconst 0, 1) (pgm 7 rfl)) ic_0 ?_
    refine so_istore_n (i := 2) X (dkX2_spread (14, .istore_n 2, 1) (pgm 8 rfl)) rfl (by decide) (Lf := fun x2 => [(2, .int x2), (0, .ref this), (1, .int s2)]) (fun _ => rfl) (fun x2 => ?_)
    refine so_join (jf := fun (h3 : PH) => lt (s2 + Int32.ofInt 1) (fun (x4 : Int32) => rec2 x4 h3)) (fun (j : PH → Option (Unit × PH)) => ∀  (h3 : PH), SWo (QM mkV below args s D cA ad A) p l e (rmd 2) s m args below meth c 0 0 3 D cA ad A 67 [(0, .ref this), (1, .int s2)] [] h3 (j h3)) ?_ (fun j67 hj67 => ?_)
    · intro h3
      refine so_iinc (i := 1) X 1 (dkX2_spread (67, .iinc 1 1, 3) (pgm 41 rfl)) rfl rfl (by decide) (Lf := fun x4 => [(1, .int x4), (0, .ref this)]) (fun _ => rfl) (fun x4 => ?_)
      refine so_goto (tgt := 2) X (dkX2_spread (70, .goto (-68), 3) (pgm 42 rfl)) rfl ?_
      exact so_pick X [1, 0] rfl (hrec2 x4 h3)
    refine so_pick (L' := [(0, .ref this), (1, .int s2), (2, .int x2)]) X [1, 2, 0] rfl ?_
    refine so_loop (body := b_X2_spread_15 this s2 j67) (fun (s15 : Int32) => [(0, .ref this), (1, .int s2), (2, .int s15)]) (fun rec15 hrec15 s15 hh15 => ?_) FU x2 hh2
    unfold b_X2_spread_15
    refine so_iload_n (i := 2) X 2 (dkX2_spread (15, .iload_n 2, 1) (pgm 9 rfl)) rfl rfl ?_
    refine so_iconst (v := (1 : Int32)) X (dkX2_spread (16, .iconst 1, 1) (pgm 10 rfl)) ic_1 ?_
    refine so_aload_n (i := 0) X 0 (dkX2_spread (17, .aload_n 0, 1) (pgm 11 rfl)) rfl rfl ?_
    refine sf_getR X ff_2_0 lk_386 hk (dkX2_spread (18, .getfield 21, 3) (pgm 12 rfl)) ?_
    refine sf_getI X ff_8_5 lk_184 (fo (rk_2_0 this hk)) (dkX2_spread (21, .getfield 77, 3) (pgm 13 rfl)) ?_
    refine so_ishl X (dkX2_spread (24, .ishl, 1) (pgm 14 rfl)) ?_
    refine so_icmp_ge (tgt := 67) X (dkX2_spread (25, .if_icmp .ge 42, 3) (pgm 15 rfl)) rfl (fun _ => ?_) (fun _ => ?_)
    · exact so_pick X [0, 1] rfl (hj67 hh15)
    · refine so_iload_n (i := 2) X 2 (dkX2_spread (28, .iload_n 2, 1) (pgm 16 rfl)) rfl rfl ?_
      refine so_iload_n (i := 1) X 1 (dkX2_spread (29, .iload_n 1, 1) (pgm 17 rfl)) rfl rfl ?_
      refine so_ishr X (dkX2_spread (30, .ishr, 1) (pgm 18 rfl)) ?_
      refine so_iconst (v := (1 : Int32)) X (dkX2_spread (31, .iconst 1, 1) (pgm 19 rfl)) ic_1 ?_
      refine so_iand X (dkX2_spread (32, .iand, 1) (pgm 20 rfl)) ?_
      refine so_join (jf := fun (h5 : PH) => lt (s15 + Int32.ofInt 1) (fun (x6 : Int32) => rec15 x6 h5)) (fun (j : PH → Option (Unit × PH)) => ∀  (h5 : PH), SWo (QM mkV below args s D cA ad A) p l e (rmd 2) s m args below meth c 0 0 3 D cA ad A 61 [(0, .ref this), (1, .int s2), (2, .int s15)] [] h5 (j h5)) ?_ (fun j61 hj61 => ?_)
      · intro h5
        refine so_iinc (i := 2) X 2 (dkX2_spread (61, .iinc 2 1, 3) (pgm 39 rfl)) rfl rfl (by decide) (Lf := fun x6 => [(2, .int x6), (0, .ref this), (1, .int s2)]) (fun _ => rfl) (fun x6 => ?_)
        refine so_goto (tgt := 15) X (dkX2_spread (64, .goto (-49), 3) (pgm 40 rfl)) rfl ?_
        exact so_pick X [1, 2, 0] rfl (hrec15 x6 h5)
      refine so_if_ne (tgt := 61) X (dkX2_spread (33, .ifCond .ne 28, 3) (pgm 21 rfl)) rfl (fun _ => ?_) (fun _ => ?_)
      · exact so_pick X [0, 1, 2] rfl (hj61 hh15)
      · refine so_aload_n (i := 0) X 0 (dkX2_spread (36, .aload_n 0, 1) (pgm 22 rfl)) rfl rfl ?_
        refine sf_getR X ff_2_5 lk_395 hk (dkX2_spread (37, .getfield 15, 3) (pgm 23 rfl)) ?_
        refine so_iload_n (i := 2) X 2 (dkX2_spread (40, .iload_n 2, 1) (pgm 24 rfl)) rfl rfl ?_
        refine so_aload_n (i := 0) X 0 (dkX2_spread (41, .aload_n 0, 1) (pgm 25 rfl)) rfl rfl ?_
        refine sf_getR X ff_2_5 lk_395 hk (dkX2_spread (42, .getfield 15, 3) (pgm 26 rfl)) ?_
        refine so_iload_n (i := 2) X 2 (dkX2_spread (45, .iload_n 2, 1) (pgm 27 rfl)) rfl rfl ?_
        refine so_iald X (rk_2_5 this hk) (dkX2_spread (46, .iaload, 1) (pgm 28 rfl)) (fun x7 => ?_)
        refine so_aload_n (i := 0) X 0 (dkX2_spread (47, .aload_n 0, 1) (pgm 29 rfl)) rfl rfl ?_
        refine sf_getR X ff_2_5 lk_395 hk (dkX2_spread (48, .getfield 15, 3) (pgm 30 rfl)) ?_
        refine so_iload_n (i := 2) X 2 (dkX2_spread (51, .iload_n 2, 1) (pgm 31 rfl)) rfl rfl ?_
        refine so_iconst (v := (1 : Int32)) X (dkX2_spread (52, .iconst 1, 1) (pgm 32 rfl)) ic_1 ?_
        refine so_iload_n (i := 1) X 1 (dkX2_spread (53, .iload_n 1, 1) (pgm 33 rfl)) rfl rfl ?_
        refine so_ishl X (dkX2_spread (54, .ishl, 1) (pgm 34 rfl)) ?_
        refine so_ior X (dkX2_spread (55, .ior, 1) (pgm 35 rfl)) ?_
        refine so_iald X (rk_2_5 this hk) (dkX2_spread (56, .iaload, 1) (pgm 36 rfl)) (fun x8 => ?_)
        refine so_callS (n := 2) (As := [.int x7, .int x8]) X (ct_X2_lesser l x7 x8 hh15 ) lk_680 lk_681 lk_128 lk_682 (by decide +kernel) rfl rfl rfl (rm_ok (by omega) (by decide)) ⟨Nat.zero_le _, Nat.zero_le _⟩ (Nat.le_of_ble_eq_true rfl) (dkX2_spread (57, .invokestatic 71, 3) (pgm 37 rfl)) (fun r9 h10 => ?_) rfl
        refine so_iast X (rk_2_5 this hk) (dkX2_spread (60, .iastore, 1) (pgm 38 rfl)) (fun h11 => ?_)
        exact so_pick X [0, 1, 2] rfl (hj61 h11)
def pgX2_nightsForAll : List (Nat × Instr × Nat) := [(0, .aload_n 0, 1), (1, .getfield 18, 3), (4, .iconst 0, 1), (5, .iconst 0, 1), (6, .iastore, 1), (7, .iconst 1, 1), (8, .istore_n 1, 1), (9, .iload_n 1, 1), (10, .aload_n 0, 1), (11, .getfield 37, 3), (14, .if_icmp .gt 35, 3), (17, .aload_n 0, 1), (18, .getfield 18, 3), (21, .iload_n 1, 1), (22, .iload_n 1, 1), (23, .aload_n 0, 1), (24, .getfield 37, 3), (27, .iconst (-1), 1), (28, .ixor, 1), (29, .iand, 1), (30, .ifCond .ne 11, 3), (33, .aload_n 0, 1), (34, .iload_n 1, 1), (35, .invokevirtual 93, 3), (38, .goto 4, 3), (41, .iconst (-1), 1), (42, .iastore, 1), (43, .iinc 1 1, 3), (46, .goto (-37), 3), (49, .aload_n 0, 1), (50, .getfield 18, 3), (53, .aload_n 0, 1), (54, .getfield 37, 3), (57, .iaload, 1), (58, .ireturn, 1)]
theorem dkX2_nightsForAll : ∀ q ∈ pgX2_nightsForAll, decode cX2_nightsForAll q.1 = .ok q.2 := by decide +kernel
def b_X2_nightsForAll_9 (this : Nat) (rec9 : (Int32) → PH → Option (Int32 × PH)) (s9 : Int32) (hh9 : PH) : Option (Int32 × PH) :=
  if (hh9.1 this 7) < s9 then (ldI hh9 (rt this 6) 1024 (hh9.1 this 7) (fun (x3 : Int32) => some (x3, hh9))) else (lt (fun (t4 : Int32) (h5 : PH) => stI h5 (rt this 6) 1024 s9 t4 (fun (h6 : PH) => lt (s9 + Int32.ofInt 1) (fun (x7 : Int32) => rec9 x7 h6))) (fun (j42 : Int32 → PH → Option (Int32 × PH)) => if (s9 &&& ((hh9.1 this 7) ^^^ (-1 : Int32))) = 0 then (cb (f_X2_nightsFor this s9 hh9) (fun (r8 : Int32) (h9 : PH) => j42 r8 h9)) else (j42 (-1 : Int32) hh9)))
def f_X2_nightsForAll (this : Nat) (h0 : PH) : Option (Int32 × PH) :=
  stI h0 (rt this 6) 1024 (0 : Int32) (0 : Int32) (fun (h1 : PH) => lt (1 : Int32) (fun (x2 : Int32) => lp (b_X2_nightsForAll_9 this) FU x2 h1))
set_option maxRecDepth 100000 in
set_option maxHeartbeats 4000000 in
theorem ct_X2_nightsForAll (l : Launch) (this : Nat) (h0 : PH) (hk : (kd this).1 = 2) : CT mkI l yX2_nightsForAll cX2_nightsForAll 2 (some .int) (rmd 2) [.ref this] h0 (f_X2_nightsForAll this h0) := by
  refine ct_of (by decide) (Nat.le_of_ble_eq_true rfl) ?_
  intro p e s m args below meth c D cA ad A X hr hlk
  have X : Cx p s m args c RX2 cX2_nightsForAll 2 D cA ad A := X
  unfold f_X2_nightsForAll
  refine so_pick (L' := [(0, .ref this)]) X [0] rfl ?_
  refine so_aload_n (i := 0) X 0 (dkX2_nightsForAll (0, .aload_n 0, 1) (pgm 0 rfl)) rfl rfl ?_
  refine sf_getR X ff_2_6 lk_396 hk (dkX2_nightsForAll (1, .getfield 18, 3) (pgm 1 rfl)) ?_
  refine so_iconst (v := (0 : Int32)) X (dkX2_nightsForAll (4, .iconst 0, 1) (pgm 2 rfl)) ic_0 ?_
  refine so_iconst (v := (0 : Int32)) X (dkX2_nightsForAll (5, .iconst 0, 1) (pgm 3 rfl)) ic_0 ?_
  refine so_iast X (rk_2_6 this hk) (dkX2_nightsForAll (6, .iastore, 1) (pgm 4 rfl)) (fun h1 => ?_)
  refine so_iconst (v := (1 : Int32)) X (dkX2_nightsForAll (7, .iconst 1, 1) (pgm 5 rfl)) ic_1 ?_
  refine so_istore_n (i := 1) X (dkX2_nightsForAll (8, .istore_n 1, 1) (pgm 6 rfl)) rfl (by decide) (Lf := fun x2 => [(1, .int x2), (0, .ref this)]) (fun _ => rfl) (fun x2 => ?_)
  refine so_pick (L' := [(0, .ref this), (1, .int x2)]) X [1, 0] rfl ?_
  refine so_loop (body := b_X2_nightsForAll_9 this) (fun (s9 : Int32) => [(0, .ref this), (1, .int s9)]) (fun rec9 hrec9 s9 hh9 => ?_) FU x2 h1
  unfold b_X2_nightsForAll_9
  refine so_iload_n (i := 1) X 1 (dkX2_nightsForAll (9, .iload_n 1, 1) (pgm 7 rfl)) rfl rfl ?_
  refine so_aload_n (i := 0) X 0 (dkX2_nightsForAll (10, .aload_n 0, 1) (pgm 8 rfl)) rfl rfl ?_
  refine sf_getI X ff_2_7 lk_397 hk (dkX2_nightsForAll (11, .getfield 37, 3) (pgm 9 rfl)) ?_
  refine so_icmp_gt (tgt := 49) X (dkX2_nightsForAll (14, .if_icmp .gt 35, 3) (pgm 10 rfl)) rfl (fun _ => ?_) (fun _ => ?_)
  · refine so_aload_n (i := 0) X 0 (dkX2_nightsForAll (49, .aload_n 0, 1) (pgm 29 rfl)) rfl rfl ?_
    refine sf_getR X ff_2_6 lk_396 hk (dkX2_nightsForAll (50, .getfield 18, 3) (pgm 30 rfl)) ?_
    refine so_aload_n (i := 0) X 0 (dkX2_nightsForAll (53, .aload_n 0, 1) (pgm 31 rfl)) rfl rfl ?_
    refine sf_getI X ff_2_7 lk_397 hk (dkX2_nightsForAll (54, .getfield 37, 3) (pgm 32 rfl)) ?_
    refine so_iald X (rk_2_6 this hk) (dkX2_nightsForAll (57, .iaload, 1) (pgm 33 rfl)) (fun x3 => ?_)
    exact so_iret X hr hlk (dkX2_nightsForAll (58, .ireturn, 1) (pgm 34 rfl))
  · refine so_aload_n (i := 0) X 0 (dkX2_nightsForAll (17, .aload_n 0, 1) (pgm 11 rfl)) rfl rfl ?_
    refine sf_getR X ff_2_6 lk_396 hk (dkX2_nightsForAll (18, .getfield 18, 3) (pgm 12 rfl)) ?_
    refine so_iload_n (i := 1) X 1 (dkX2_nightsForAll (21, .iload_n 1, 1) (pgm 13 rfl)) rfl rfl ?_
    refine so_iload_n (i := 1) X 1 (dkX2_nightsForAll (22, .iload_n 1, 1) (pgm 14 rfl)) rfl rfl ?_
    refine so_aload_n (i := 0) X 0 (dkX2_nightsForAll (23, .aload_n 0, 1) (pgm 15 rfl)) rfl rfl ?_
    refine sf_getI X ff_2_7 lk_397 hk (dkX2_nightsForAll (24, .getfield 37, 3) (pgm 16 rfl)) ?_
    refine so_iconst (v := (-1 : Int32)) X (dkX2_nightsForAll (27, .iconst (-1), 1) (pgm 17 rfl)) ic_m1 ?_
    refine so_ixor X (dkX2_nightsForAll (28, .ixor, 1) (pgm 18 rfl)) ?_
    refine so_iand X (dkX2_nightsForAll (29, .iand, 1) (pgm 19 rfl)) ?_
    refine so_join (jf := fun (t4 : Int32) (h5 : PH) => stI h5 (rt this 6) 1024 s9 t4 (fun (h6 : PH) => lt (s9 + Int32.ofInt 1) (fun (x7 : Int32) => rec9 x7 h6))) (fun (j : Int32 → PH → Option (Int32 × PH)) => ∀ (t4 : Int32) (h5 : PH), SWo (QM mkI below args s D cA ad A) p l e (rmd 2) s m args below meth c 0 0 2 D cA ad A 42 [(0, .ref this), (1, .int s9)] [.int t4, .int s9, .ref (rt this 6)] h5 (j t4 h5)) ?_ (fun j42 hj42 => ?_)
    · intro t4 h5
      refine so_iast X (rk_2_6 this hk) (dkX2_nightsForAll (42, .iastore, 1) (pgm 26 rfl)) (fun h6 => ?_)
      refine so_iinc (i := 1) X 1 (dkX2_nightsForAll (43, .iinc 1 1, 3) (pgm 27 rfl)) rfl rfl (by decide) (Lf := fun x7 => [(1, .int x7), (0, .ref this)]) (fun _ => rfl) (fun x7 => ?_)
      refine so_goto (tgt := 9) X (dkX2_nightsForAll (46, .goto (-37), 3) (pgm 28 rfl)) rfl ?_
      exact so_pick X [1, 0] rfl (hrec9 x7 h6)
    refine so_if_ne (tgt := 41) X (dkX2_nightsForAll (30, .ifCond .ne 11, 3) (pgm 20 rfl)) rfl (fun _ => ?_) (fun _ => ?_)
    · refine so_iconst (v := (-1 : Int32)) X (dkX2_nightsForAll (41, .iconst (-1), 1) (pgm 25 rfl)) ic_m1 ?_
      exact so_pick X [0, 1] rfl (hj42 (-1 : Int32) hh9)
    · refine so_aload_n (i := 0) X 0 (dkX2_nightsForAll (33, .aload_n 0, 1) (pgm 21 rfl)) rfl rfl ?_
      refine so_iload_n (i := 1) X 1 (dkX2_nightsForAll (34, .iload_n 1, 1) (pgm 22 rfl)) rfl rfl ?_
      refine so_callV (n := 1) (As := [.int s9]) X (ct_X2_nightsFor l this s9 hh9 hk) hk (by decide) rfl lk_696 lk_698 lk_4 lk_128 lk_699 (by decide +kernel) rfl rfl rfl (rm_ok (by omega) (by decide)) ⟨Nat.zero_le _, Nat.zero_le _⟩ (Nat.le_of_ble_eq_true rfl) (dkX2_nightsForAll (35, .invokevirtual 93, 3) (pgm 23 rfl)) (fun r8 h9 => ?_) rfl
      refine so_goto (tgt := 42) X (dkX2_nightsForAll (38, .goto 4, 3) (pgm 24 rfl)) rfl ?_
      exact so_pick X [0, 1] rfl (hj42 r8 h9)
def pgX3_truthOf : List (Nat × Instr × Nat) := [(0, .iconst 0, 1), (1, .istore_n 3, 1), (2, .aload_n 0, 1), (3, .getfield 18, 3), (6, .getfield 38, 3), (9, .iload_n 1, 1), (10, .iaload, 1), (11, .istore 4, 2), (13, .iload 4, 2), (15, .aload_n 0, 1), (16, .getfield 18, 3), (19, .getfield 38, 3), (22, .iload_n 1, 1), (23, .iconst 1, 1), (24, .iadd, 1), (25, .iaload, 1), (26, .if_icmp .ge 156, 3), (29, .aload_n 0, 1), (30, .getfield 18, 3), (33, .getfield 41, 3), (36, .iload 4, 2), (38, .iaload, 1), (39, .bipush 12, 2), (41, .ishr, 1), (42, .istore 5, 2), (44, .aload_n 0, 1), (45, .getfield 18, 3), (48, .getfield 41, 3), (51, .iload 4, 2), (53, .iaload, 1), (54, .sipush 4095, 3), (57, .iand, 1), (58, .istore 6, 2), (60, .iload 5, 2), (62, .bipush 11, 2), (64, .if_icmp .lt 41, 3), (67, .iload_n 3, 1), (68, .sipush 900, 3), (71, .if_icmp .ge 34, 3), (74, .aload_n 0, 1), (75, .getfield 15, 3), (78, .iload_n 3, 1), (79, .iload 5, 2), (81, .bipush 11, 2), (83, .if_icmp .ne 8, 3), (86, .iload 6, 2), (88, .goto 10, 3), (91, .iload_n 2, 1), (92, .iload 6, 2), (94, .iand, 1), (95, .invokestatic 44, 3), (98, .iastore, 1), (99, .iinc 3 1, 3), (102, .goto 74, 3), (105, .iload 5, 2), (107, .iconst 4, 1), (108, .if_icmp .ne 28, 3), (111, .iload_n 3, 1), (112, .ifCond .le 24, 3), (115, .aload_n 0, 1), (116, .getfield 15, 3), (119, .iload_n 3, 1), (120, .iconst 1, 1), (121, .isub, 1), (122, .iconst 1, 1), (123, .aload_n 0, 1), (124, .getfield 15, 3), (127, .iload_n 3, 1), (128, .iconst 1, 1), (129, .isub, 1), (130, .iaload, 1), (131, .isub, 1), (132, .iastore, 1), (133, .goto 43, 3), (136, .iload_n 3, 1), (137, .iconst 1, 1), (138, .if_icmp .le 38, 3), (141, .iinc 3 (-1), 3), (144, .aload_n 0, 1), (145, .getfield 15, 3), (148, .iload_n 3, 1), (149, .iconst 1, 1), (150, .isub, 1), (151, .iload 5, 2), (153, .aload_n 0, 1), (154, .getfield 15, 3), (157, .iload_n 3, 1), (158, .iconst 1, 1), (159, .isub, 1), (160, .iaload, 1), (161, .i2l, 1), (162, .aload_n 0, 1), (163, .getfield 15, 3), (166, .iload_n 3, 1), (167, .iaload, 1), (168, .i2l, 1), (169, .invokestatic 50, 3), (172, .invokestatic 54, 3), (175, .iastore, 1), (176, .iinc 4 1, 3), (179, .goto (-166), 3), (182, .aload_n 0, 1), (183, .getfield 15, 3), (186, .iconst 0, 1), (187, .iaload, 1), (188, .ireturn, 1)]
theorem dkX3_truthOf : ∀ q ∈ pgX3_truthOf, decode cX3_truthOf q.1 = .ok q.2 := by decide +kernel
def b_X3_truthOf_13 (this : Nat) (a1 : Int32) (a2 : Int32) (rec13 : (Int32 × Int32) → PH → Option (Int32 × PH)) (s13 : Int32 × Int32) (hh13 : PH) : Option (Int32 × PH) :=
  ldI hh13 (rt (rt this 0) 14) 11 (a1 + (1 : Int32)) (fun (x4 : Int32) => if x4 ≤ s13.2 then (ldI hh13 (rt this 2) 900 (0 : Int32) (fun (x5 : Int32) => some (x5, hh13))) else (ldI hh13 (rt (rt this 0) 15) 900 s13.2 (fun (x6 : Int32) => lt (x6 >>> ((12 : Int32) &&& 31)) (fun (x7 : Int32) => ldI hh13 (rt (rt this 0) 15) 900 s13.2 (fun (x8 : Int32) => lt (x8 &&& (4095 : Int32)) (fun (x9 : Int32) => lt (fun (y10 : Int32) (h11 : PH) => lt (s13.2 + Int32.ofInt 1) (fun (x12 : Int32) => rec13 (y10, x12) h11)) (fun (j176 : Int32 → PH → Option (Int32 × PH)) => lt (fun (h13 : PH) => lt (fun (h14 : PH) => if s13.1 ≤ (1 : Int32) then (j176 s13.1 h14) else (lt (s13.1 + Int32.ofInt (-1)) (fun (x15 : Int32) => ldI h14 (rt this 2) 900 (x15 - (1 : Int32)) (fun (x16 : Int32) => ldI h14 (rt this 2) 900 x15 (fun (x17 : Int32) => cb (f_X3_reckon x7 x16.toInt64 x17.toInt64 h14) (fun (r18 : Int64) (h19 : PH) => cb (f_X3_kept r18 h19) (fun (r20 : Int32) (h21 : PH) => stI h21 (rt this 2) 900 (x15 - (1 : Int32)) r20 (fun (h22 : PH) => j176 x15 h22)))))))) (fun (j136 : PH → Option (Int32 × PH)) => if x7 = (4 : Int32) then (if s13.1 ≤ 0 then (j136 h13) else (ldI h13 (rt this 2) 900 (s13.1 - (1 : Int32)) (fun (x23 : Int32) => stI h13 (rt this 2) 900 (s13.1 - (1 : Int32)) ((1 : Int32) - x23) (fun (h24 : PH) => j176 s13.1 h24)))) else (j136 h13))) (fun (j105 : PH → Option (Int32 × PH)) => if x7 < (11 : Int32) then (j105 hh13) else (if (900 : Int32) ≤ s13.1 then (j105 hh13) else (lt (fun (t25 : Int32) (h26 : PH) => stI h26 (rt this 2) 900 s13.1 t25 (fun (h27 : PH) => lt (s13.1 + Int32.ofInt 1) (fun (x28 : Int32) => j176 x28 h27))) (fun (j98 : Int32 → PH → Option (Int32 × PH)) => if x7 = (11 : Int32) then (j98 x9 hh13) else (cb (f_J6_bitCount_0f7a4 (a2 &&& x9) hh13) (fun (r29 : Int32) (h30 : PH) => j98 r29 h30)))))))))))))
def f_X3_truthOf (this : Nat) (a1 : Int32) (a2 : Int32) (h0 : PH) : Option (Int32 × PH) :=
  lt (0 : Int32) (fun (x1 : Int32) => ldI h0 (rt (rt this 0) 14) 11 a1 (fun (x2 : Int32) => lt x2 (fun (x3 : Int32) => lp (b_X3_truthOf_13 this a1 a2) FU (x1, x3) h0)))
set_option maxRecDepth 100000 in
set_option maxHeartbeats 4000000 in
theorem ct_X3_truthOf (l : Launch) (this : Nat) (a1 : Int32) (a2 : Int32) (h0 : PH) (hk : (kd this).1 = 3) : CT mkI l yX3_truthOf cX3_truthOf 7 (some .int) (rmd 1) [.ref this, .int a1, .int a2] h0 (f_X3_truthOf this a1 a2 h0) := by
  refine ct_of (by decide) (Nat.le_of_ble_eq_true rfl) ?_
  intro p e s m args below meth c D cA ad A X hr hlk
  have X : Cx p s m args c RX3 cX3_truthOf 7 D cA ad A := X
  unfold f_X3_truthOf
  refine so_pick (L' := [(0, .ref this), (1, .int a1), (2, .int a2)]) X [0, 1, 2] rfl ?_
  refine so_iconst (v := (0 : Int32)) X (dkX3_truthOf (0, .iconst 0, 1) (pgm 0 rfl)) ic_0 ?_
  refine so_istore_n (i := 3) X (dkX3_truthOf (1, .istore_n 3, 1) (pgm 1 rfl)) rfl (by decide) (Lf := fun x1 => [(3, .int x1), (0, .ref this), (1, .int a1), (2, .int a2)]) (fun _ => rfl) (fun x1 => ?_)
  refine so_aload_n (i := 0) X 1 (dkX3_truthOf (2, .aload_n 0, 1) (pgm 2 rfl)) rfl rfl ?_
  refine sf_getR X ff_3_0 lk_370 hk (dkX3_truthOf (3, .getfield 18, 3) (pgm 3 rfl)) ?_
  refine sf_getR X ff_8_14 lk_218 (fo (rk_3_0 this hk)) (dkX3_truthOf (6, .getfield 38, 3) (pgm 4 rfl)) ?_
  refine so_iload_n (i := 1) X 2 (dkX3_truthOf (9, .iload_n 1, 1) (pgm 5 rfl)) rfl rfl ?_
  refine so_iald X (rk_8_14 (rt this 0) (fo (rk_3_0 this hk))) (dkX3_truthOf (10, .iaload, 1) (pgm 6 rfl)) (fun x2 => ?_)
  refine so_istore (i := 4) X (dkX3_truthOf (11, .istore 4, 2) (pgm 7 rfl)) (by decide) (Lf := fun x3 => [(4, .int x3), (3, .int x1), (0, .ref this), (1, .int a1), (2, .int a2)]) (fun _ => rfl) (fun x3 => ?_)
  refine so_pick (L' := [(0, .ref this), (1, .int a1), (2, .int a2), (3, .int x1), (4, .int x3)]) X [2, 3, 4, 1, 0] rfl ?_
  refine so_loop (body := b_X3_truthOf_13 this a1 a2) (fun (s13 : Int32 × Int32) => [(0, .ref this), (1, .int a1), (2, .int a2), (3, .int s13.1), (4, .int s13.2)]) (fun rec13 hrec13 s13 hh13 => ?_) FU (x1, x3) h0
  unfold b_X3_truthOf_13
  refine so_iload (i := 4) X 4 (dkX3_truthOf (13, .iload 4, 2) (pgm 8 rfl)) rfl ?_
  refine so_aload_n (i := 0) X 0 (dkX3_truthOf (15, .aload_n 0, 1) (pgm 9 rfl)) rfl rfl ?_
  refine sf_getR X ff_3_0 lk_370 hk (dkX3_truthOf (16, .getfield 18, 3) (pgm 10 rfl)) ?_
  refine sf_getR X ff_8_14 lk_218 (fo (rk_3_0 this hk)) (dkX3_truthOf (19, .getfield 38, 3) (pgm 11 rfl)) ?_
  refine so_iload_n (i := 1) X 1 (dkX3_truthOf (22, .iload_n 1, 1) (pgm 12 rfl)) rfl rfl ?_
  refine so_iconst (v := (1 : Int32)) X (dkX3_truthOf (23, .iconst 1, 1) (pgm 13 rfl)) ic_1 ?_
  refine so_iadd X (dkX3_truthOf (24, .iadd, 1) (pgm 14 rfl)) ?_
  refine so_iald X (rk_8_14 (rt this 0) (fo (rk_3_0 this hk))) (dkX3_truthOf (25, .iaload, 1) (pgm 15 rfl)) (fun x4 => ?_)
  refine so_icmp_ge (tgt := 182) X (dkX3_truthOf (26, .if_icmp .ge 156, 3) (pgm 16 rfl)) rfl (fun _ => ?_) (fun _ => ?_)
  · refine so_aload_n (i := 0) X 0 (dkX3_truthOf (182, .aload_n 0, 1) (pgm 101 rfl)) rfl rfl ?_
    refine sf_getR X ff_3_2 lk_372 hk (dkX3_truthOf (183, .getfield 15, 3) (pgm 102 rfl)) ?_
    refine so_iconst (v := (0 : Int32)) X (dkX3_truthOf (186, .iconst 0, 1) (pgm 103 rfl)) ic_0 ?_
    refine so_iald X (rk_3_2 this hk) (dkX3_truthOf (187, .iaload, 1) (pgm 104 rfl)) (fun x5 => ?_)
    exact so_iret X hr hlk (dkX3_truthOf (188, .ireturn, 1) (pgm 105 rfl))
  · refine so_aload_n (i := 0) X 0 (dkX3_truthOf (29, .aload_n 0, 1) (pgm 17 rfl)) rfl rfl ?_
    refine sf_getR X ff_3_0 lk_370 hk (dkX3_truthOf (30, .getfield 18, 3) (pgm 18 rfl)) ?_
    refine sf_getR X ff_8_15 lk_221 (fo (rk_3_0 this hk)) (dkX3_truthOf (33, .getfield 41, 3) (pgm 19 rfl)) ?_
    refine so_iload (i := 4) X 4 (dkX3_truthOf (36, .iload 4, 2) (pgm 20 rfl)) rfl ?_
    refine so_iald X (rk_8_15 (rt this 0) (fo (rk_3_0 this hk))) (dkX3_truthOf (38, .iaload, 1) (pgm 21 rfl)) (fun x6 => ?_)
    refine so_bipush (v := (12 : Int32)) X (dkX3_truthOf (39, .bipush 12, 2) (pgm 22 rfl)) bp_12 ?_
    refine so_ishr X (dkX3_truthOf (41, .ishr, 1) (pgm 23 rfl)) ?_
    refine so_istore (i := 5) X (dkX3_truthOf (42, .istore 5, 2) (pgm 24 rfl)) (by decide) (Lf := fun x7 => [(5, .int x7), (0, .ref this), (1, .int a1), (2, .int a2), (3, .int s13.1), (4, .int s13.2)]) (fun _ => rfl) (fun x7 => ?_)
    refine so_aload_n (i := 0) X 1 (dkX3_truthOf (44, .aload_n 0, 1) (pgm 25 rfl)) rfl rfl ?_
    refine sf_getR X ff_3_0 lk_370 hk (dkX3_truthOf (45, .getfield 18, 3) (pgm 26 rfl)) ?_
    refine sf_getR X ff_8_15 lk_221 (fo (rk_3_0 this hk)) (dkX3_truthOf (48, .getfield 41, 3) (pgm 27 rfl)) ?_
    refine so_iload (i := 4) X 5 (dkX3_truthOf (51, .iload 4, 2) (pgm 28 rfl)) rfl ?_
    refine so_iald X (rk_8_15 (rt this 0) (fo (rk_3_0 this hk))) (dkX3_truthOf (53, .iaload, 1) (pgm 29 rfl)) (fun x8 => ?_)
    refine so_sipush (v := (4095 : Int32)) X (dkX3_truthOf (54, .sipush 4095, 3) (pgm 30 rfl)) sp_4095 ?_
    refine so_iand X (dkX3_truthOf (57, .iand, 1) (pgm 31 rfl)) ?_
    refine so_istore (i := 6) X (dkX3_truthOf (58, .istore 6, 2) (pgm 32 rfl)) (by decide) (Lf := fun x9 => [(6, .int x9), (5, .int x7), (0, .ref this), (1, .int a1), (2, .int a2), (3, .int s13.1), (4, .int s13.2)]) (fun _ => rfl) (fun x9 => ?_)
    refine so_iload (i := 5) X 1 (dkX3_truthOf (60, .iload 5, 2) (pgm 33 rfl)) rfl ?_
    refine so_bipush (v := (11 : Int32)) X (dkX3_truthOf (62, .bipush 11, 2) (pgm 34 rfl)) bp_11 ?_
    refine so_join (jf := fun (y10 : Int32) (h11 : PH) => lt (s13.2 + Int32.ofInt 1) (fun (x12 : Int32) => rec13 (y10, x12) h11)) (fun (j : Int32 → PH → Option (Int32 × PH)) => ∀ (y10 : Int32) (h11 : PH), SWo (QM mkI below args s D cA ad A) p l e (rmd 1) s m args below meth c 0 0 7 D cA ad A 176 [(0, .ref this), (1, .int a1), (2, .int a2), (3, .int y10), (4, .int s13.2)] [] h11 (j y10 h11)) ?_ (fun j176 hj176 => ?_)
    · intro y10 h11
      refine so_iinc (i := 4) X 4 (dkX3_truthOf (176, .iinc 4 1, 3) (pgm 99 rfl)) rfl rfl (by decide) (Lf := fun x12 => [(4, .int x12), (0, .ref this), (1, .int a1), (2, .int a2), (3, .int y10)]) (fun _ => rfl) (fun x12 => ?_)
      refine so_goto (tgt := 13) X (dkX3_truthOf (179, .goto (-166), 3) (pgm 100 rfl)) rfl ?_
      exact so_pick X [1, 2, 3, 4, 0] rfl (hrec13 (y10, x12) h11)
    refine so_join (jf := fun (h13 : PH) => lt (fun (h14 : PH) => if s13.1 ≤ (1 : Int32) then (j176 s13.1 h14) else (lt (s13.1 + Int32.ofInt (-1)) (fun (x15 : Int32) => ldI h14 (rt this 2) 900 (x15 - (1 : Int32)) (fun (x16 : Int32) => ldI h14 (rt this 2) 900 x15 (fun (x17 : Int32) => cb (f_X3_reckon x7 x16.toInt64 x17.toInt64 h14) (fun (r18 : Int64) (h19 : PH) => cb (f_X3_kept r18 h19) (fun (r20 : Int32) (h21 : PH) => stI h21 (rt this 2) 900 (x15 - (1 : Int32)) r20 (fun (h22 : PH) => j176 x15 h22)))))))) (fun (j136 : PH → Option (Int32 × PH)) => if x7 = (4 : Int32) then (if s13.1 ≤ 0 then (j136 h13) else (ldI h13 (rt this 2) 900 (s13.1 - (1 : Int32)) (fun (x23 : Int32) => stI h13 (rt this 2) 900 (s13.1 - (1 : Int32)) ((1 : Int32) - x23) (fun (h24 : PH) => j176 s13.1 h24)))) else (j136 h13))) (fun (j : PH → Option (Int32 × PH)) => ∀  (h13 : PH), SWo (QM mkI below args s D cA ad A) p l e (rmd 1) s m args below meth c 0 0 7 D cA ad A 105 [(0, .ref this), (1, .int a1), (2, .int a2), (3, .int s13.1), (4, .int s13.2), (5, .int x7)] [] h13 (j h13)) ?_ (fun j105 hj105 => ?_)
    · intro h13
      refine so_iload (i := 5) X 5 (dkX3_truthOf (105, .iload 5, 2) (pgm 54 rfl)) rfl ?_
      refine so_iconst (v := (4 : Int32)) X (dkX3_truthOf (107, .iconst 4, 1) (pgm 55 rfl)) ic_4 ?_
      refine so_join (jf := fun (h14 : PH) => if s13.1 ≤ (1 : Int32) then (j176 s13.1 h14) else (lt (s13.1 + Int32.ofInt (-1)) (fun (x15 : Int32) => ldI h14 (rt this 2) 900 (x15 - (1 : Int32)) (fun (x16 : Int32) => ldI h14 (rt this 2) 900 x15 (fun (x17 : Int32) => cb (f_X3_reckon x7 x16.toInt64 x17.toInt64 h14) (fun (r18 : Int64) (h19 : PH) => cb (f_X3_kept r18 h19) (fun (r20 : Int32) (h21 : PH) => stI h21 (rt this 2) 900 (x15 - (1 : Int32)) r20 (fun (h22 : PH) => j176 x15 h22)))))))) (fun (j : PH → Option (Int32 × PH)) => ∀  (h14 : PH), SWo (QM mkI below args s D cA ad A) p l e (rmd 1) s m args below meth c 0 0 7 D cA ad A 136 [(0, .ref this), (1, .int a1), (2, .int a2), (3, .int s13.1), (4, .int s13.2), (5, .int x7)] [] h14 (j h14)) ?_ (fun j136 hj136 => ?_)
      · intro h14
        refine so_iload_n (i := 3) X 3 (dkX3_truthOf (136, .iload_n 3, 1) (pgm 74 rfl)) rfl rfl ?_
        refine so_iconst (v := (1 : Int32)) X (dkX3_truthOf (137, .iconst 1, 1) (pgm 75 rfl)) ic_1 ?_
        refine so_icmp_le (tgt := 176) X (dkX3_truthOf (138, .if_icmp .le 38, 3) (pgm 76 rfl)) rfl (fun _ => ?_) (fun _ => ?_)
        · exact so_pick X [0, 1, 2, 3, 4] rfl (hj176 s13.1 h14)
        · refine so_iinc (i := 3) X 3 (dkX3_truthOf (141, .iinc 3 (-1), 3) (pgm 77 rfl)) rfl rfl (by decide) (Lf := fun x15 => [(3, .int x15), (0, .ref this), (1, .int a1), (2, .int a2), (4, .int s13.2), (5, .int x7)]) (fun _ => rfl) (fun x15 => ?_)
          refine so_aload_n (i := 0) X 1 (dkX3_truthOf (144, .aload_n 0, 1) (pgm 78 rfl)) rfl rfl ?_
          refine sf_getR X ff_3_2 lk_372 hk (dkX3_truthOf (145, .getfield 15, 3) (pgm 79 rfl)) ?_
          refine so_iload_n (i := 3) X 0 (dkX3_truthOf (148, .iload_n 3, 1) (pgm 80 rfl)) rfl rfl ?_
          refine so_iconst (v := (1 : Int32)) X (dkX3_truthOf (149, .iconst 1, 1) (pgm 81 rfl)) ic_1 ?_
          refine so_isub X (dkX3_truthOf (150, .isub, 1) (pgm 82 rfl)) ?_
          refine so_iload (i := 5) X 5 (dkX3_truthOf (151, .iload 5, 2) (pgm 83 rfl)) rfl ?_
          refine so_aload_n (i := 0) X 1 (dkX3_truthOf (153, .aload_n 0, 1) (pgm 84 rfl)) rfl rfl ?_
          refine sf_getR X ff_3_2 lk_372 hk (dkX3_truthOf (154, .getfield 15, 3) (pgm 85 rfl)) ?_
          refine so_iload_n (i := 3) X 0 (dkX3_truthOf (157, .iload_n 3, 1) (pgm 86 rfl)) rfl rfl ?_
          refine so_iconst (v := (1 : Int32)) X (dkX3_truthOf (158, .iconst 1, 1) (pgm 87 rfl)) ic_1 ?_
          refine so_isub X (dkX3_truthOf (159, .isub, 1) (pgm 88 rfl)) ?_
          refine so_iald X (rk_3_2 this hk) (dkX3_truthOf (160, .iaload, 1) (pgm 89 rfl)) (fun x16 => ?_)
          refine so_i2l X (dkX3_truthOf (161, .i2l, 1) (pgm 90 rfl)) ?_
          refine so_aload_n (i := 0) X 1 (dkX3_truthOf (162, .aload_n 0, 1) (pgm 91 rfl)) rfl rfl ?_
          refine sf_getR X ff_3_2 lk_372 hk (dkX3_truthOf (163, .getfield 15, 3) (pgm 92 rfl)) ?_
          refine so_iload_n (i := 3) X 0 (dkX3_truthOf (166, .iload_n 3, 1) (pgm 93 rfl)) rfl rfl ?_
          refine so_iald X (rk_3_2 this hk) (dkX3_truthOf (167, .iaload, 1) (pgm 94 rfl)) (fun x17 => ?_)
          refine so_i2l X (dkX3_truthOf (168, .i2l, 1) (pgm 95 rfl)) ?_
          refine so_callS (n := 3) (As := [.int x7, .long x16.toInt64, .long x17.toInt64]) X (ct_X3_reckon l x7 x16.toInt64 x17.toInt64 h14 ) lk_652 lk_653 lk_126 lk_654 (by decide +kernel) rfl rfl rfl (rm_ok (by omega) (by decide)) ⟨Nat.zero_le _, Nat.zero_le _⟩ (Nat.le_of_ble_eq_true rfl) (dkX3_truthOf (169, .invokestatic 50, 3) (pgm 96 rfl)) (fun r18 h19 => ?_) rfl
          refine so_callS (n := 1) (As := [.long r18]) X (ct_X3_kept l r18 h19 ) lk_655 lk_656 lk_126 lk_657 (by decide +kernel) rfl rfl rfl (rm_ok (by omega) (by decide)) ⟨Nat.zero_le _, Nat.zero_le _⟩ (Nat.le_of_ble_eq_true rfl) (dkX3_truthOf (172, .invokestatic 54, 3) (pgm 97 rfl)) (fun r20 h21 => ?_) rfl
          refine so_iast X (rk_3_2 this hk) (dkX3_truthOf (175, .iastore, 1) (pgm 98 rfl)) (fun h22 => ?_)
          exact so_pick X [1, 2, 3, 0, 4] rfl (hj176 x15 h22)
      refine so_icmp_ne (tgt := 136) X (dkX3_truthOf (108, .if_icmp .ne 28, 3) (pgm 56 rfl)) rfl (fun _ => ?_) (fun _ => ?_)
      · exact so_pick X [0, 1, 2, 3, 4, 5] rfl (hj136 h13)
      · refine so_iload_n (i := 3) X 3 (dkX3_truthOf (111, .iload_n 3, 1) (pgm 57 rfl)) rfl rfl ?_
        refine so_if_le (tgt := 136) X (dkX3_truthOf (112, .ifCond .le 24, 3) (pgm 58 rfl)) rfl (fun _ => ?_) (fun _ => ?_)
        · exact so_pick X [0, 1, 2, 3, 4, 5] rfl (hj136 h13)
        · refine so_aload_n (i := 0) X 0 (dkX3_truthOf (115, .aload_n 0, 1) (pgm 59 rfl)) rfl rfl ?_
          refine sf_getR X ff_3_2 lk_372 hk (dkX3_truthOf (116, .getfield 15, 3) (pgm 60 rfl)) ?_
          refine so_iload_n (i := 3) X 3 (dkX3_truthOf (119, .iload_n 3, 1) (pgm 61 rfl)) rfl rfl ?_
          refine so_iconst (v := (1 : Int32)) X (dkX3_truthOf (120, .iconst 1, 1) (pgm 62 rfl)) ic_1 ?_
          refine so_isub X (dkX3_truthOf (121, .isub, 1) (pgm 63 rfl)) ?_
          refine so_iconst (v := (1 : Int32)) X (dkX3_truthOf (122, .iconst 1, 1) (pgm 64 rfl)) ic_1 ?_
          refine so_aload_n (i := 0) X 0 (dkX3_truthOf (123, .aload_n 0, 1) (pgm 65 rfl)) rfl rfl ?_
          refine sf_getR X ff_3_2 lk_372 hk (dkX3_truthOf (124, .getfield 15, 3) (pgm 66 rfl)) ?_
          refine so_iload_n (i := 3) X 3 (dkX3_truthOf (127, .iload_n 3, 1) (pgm 67 rfl)) rfl rfl ?_
          refine so_iconst (v := (1 : Int32)) X (dkX3_truthOf (128, .iconst 1, 1) (pgm 68 rfl)) ic_1 ?_
          refine so_isub X (dkX3_truthOf (129, .isub, 1) (pgm 69 rfl)) ?_
          refine so_iald X (rk_3_2 this hk) (dkX3_truthOf (130, .iaload, 1) (pgm 70 rfl)) (fun x23 => ?_)
          refine so_isub X (dkX3_truthOf (131, .isub, 1) (pgm 71 rfl)) ?_
          refine so_iast X (rk_3_2 this hk) (dkX3_truthOf (132, .iastore, 1) (pgm 72 rfl)) (fun h24 => ?_)
          refine so_goto (tgt := 176) X (dkX3_truthOf (133, .goto 43, 3) (pgm 73 rfl)) rfl ?_
          exact so_pick X [0, 1, 2, 3, 4] rfl (hj176 s13.1 h24)
    refine so_icmp_lt (tgt := 105) X (dkX3_truthOf (64, .if_icmp .lt 41, 3) (pgm 35 rfl)) rfl (fun _ => ?_) (fun _ => ?_)
    · exact so_pick X [2, 3, 4, 5, 6, 1] rfl (hj105 hh13)
    · refine so_iload_n (i := 3) X 5 (dkX3_truthOf (67, .iload_n 3, 1) (pgm 36 rfl)) rfl rfl ?_
      refine so_sipush (v := (900 : Int32)) X (dkX3_truthOf (68, .sipush 900, 3) (pgm 37 rfl)) sp_900 ?_
      refine so_icmp_ge (tgt := 105) X (dkX3_truthOf (71, .if_icmp .ge 34, 3) (pgm 38 rfl)) rfl (fun _ => ?_) (fun _ => ?_)
      · exact so_pick X [2, 3, 4, 5, 6, 1] rfl (hj105 hh13)
      · refine so_aload_n (i := 0) X 2 (dkX3_truthOf (74, .aload_n 0, 1) (pgm 39 rfl)) rfl rfl ?_
        refine sf_getR X ff_3_2 lk_372 hk (dkX3_truthOf (75, .getfield 15, 3) (pgm 40 rfl)) ?_
        refine so_iload_n (i := 3) X 5 (dkX3_truthOf (78, .iload_n 3, 1) (pgm 41 rfl)) rfl rfl ?_
        refine so_iload (i := 5) X 1 (dkX3_truthOf (79, .iload 5, 2) (pgm 42 rfl)) rfl ?_
        refine so_bipush (v := (11 : Int32)) X (dkX3_truthOf (81, .bipush 11, 2) (pgm 43 rfl)) bp_11 ?_
        refine so_join (jf := fun (t25 : Int32) (h26 : PH) => stI h26 (rt this 2) 900 s13.1 t25 (fun (h27 : PH) => lt (s13.1 + Int32.ofInt 1) (fun (x28 : Int32) => j176 x28 h27))) (fun (j : Int32 → PH → Option (Int32 × PH)) => ∀ (t25 : Int32) (h26 : PH), SWo (QM mkI below args s D cA ad A) p l e (rmd 1) s m args below meth c 0 0 7 D cA ad A 98 [(0, .ref this), (1, .int a1), (2, .int a2), (3, .int s13.1), (4, .int s13.2)] [.int t25, .int s13.1, .ref (rt this 2)] h26 (j t25 h26)) ?_ (fun j98 hj98 => ?_)
        · intro t25 h26
          refine so_iast X (rk_3_2 this hk) (dkX3_truthOf (98, .iastore, 1) (pgm 51 rfl)) (fun h27 => ?_)
          refine so_iinc (i := 3) X 3 (dkX3_truthOf (99, .iinc 3 1, 3) (pgm 52 rfl)) rfl rfl (by decide) (Lf := fun x28 => [(3, .int x28), (0, .ref this), (1, .int a1), (2, .int a2), (4, .int s13.2)]) (fun _ => rfl) (fun x28 => ?_)
          refine so_goto (tgt := 176) X (dkX3_truthOf (102, .goto 74, 3) (pgm 53 rfl)) rfl ?_
          exact so_pick X [1, 2, 3, 0, 4] rfl (hj176 x28 h27)
        refine so_icmp_ne (tgt := 91) X (dkX3_truthOf (83, .if_icmp .ne 8, 3) (pgm 44 rfl)) rfl (fun _ => ?_) (fun _ => ?_)
        · refine so_iload_n (i := 2) X 4 (dkX3_truthOf (91, .iload_n 2, 1) (pgm 47 rfl)) rfl rfl ?_
          refine so_iload (i := 6) X 0 (dkX3_truthOf (92, .iload 6, 2) (pgm 48 rfl)) rfl ?_
          refine so_iand X (dkX3_truthOf (94, .iand, 1) (pgm 49 rfl)) ?_
          refine so_callS (n := 1) (As := [.int (a2 &&& x9)]) X (ct_J6_bitCount_0f7a4 l (a2 &&& x9) hh13 ) lk_634 lk_635 lk_147 lk_636 (by decide +kernel) rfl rfl rfl (rm_ok (by omega) (by decide)) ⟨Nat.zero_le _, Nat.zero_le _⟩ (Nat.le_of_ble_eq_true rfl) (dkX3_truthOf (95, .invokestatic 44, 3) (pgm 50 rfl)) (fun r29 h30 => ?_) rfl
          exact so_pick X [2, 3, 4, 5, 6] rfl (hj98 r29 h30)
        · refine so_iload (i := 6) X 0 (dkX3_truthOf (86, .iload 6, 2) (pgm 45 rfl)) rfl ?_
          refine so_goto (tgt := 98) X (dkX3_truthOf (88, .goto 10, 3) (pgm 46 rfl)) rfl ?_
          exact so_pick X [2, 3, 4, 5, 6] rfl (hj98 x9 hh13)
def pgX4_reckon : List (Nat × Instr × Nat) := [(0, .aload_n 0, 1), (1, .getfield 20, 3), (4, .iconst 0, 1), (5, .lconst 1, 1), (6, .lastore, 1), (7, .iconst 1, 1), (8, .istore_n 2, 1), (9, .iload_n 2, 1), (10, .iload_n 1, 1), (11, .if_icmp .gt 105, 3), (14, .aload_n 0, 1), (15, .getfield 20, 3), (18, .iload_n 2, 1), (19, .aload_n 0, 1), (20, .getfield 20, 3), (23, .iload_n 2, 1), (24, .iconst 1, 1), (25, .isub, 1), (26, .laload, 1), (27, .aload_n 0, 1), (28, .getfield 30, 3), (31, .i2l, 1), (32, .lmul, 1), (33, .lastore, 1), (34, .iconst 1, 1), (35, .istore_n 3, 1), (36, .iload_n 3, 1), (37, .bipush 6, 2), (39, .if_icmp .gt 71, 3), (42, .lconst 0, 1), (43, .lstore 4, 2), (45, .iconst 0, 1), (46, .istore 6, 2), (48, .iload 6, 2), (50, .aload_n 0, 1), (51, .getfield 30, 3), (54, .if_icmp .ge 40, 3), (57, .lload 4, 2), (59, .aload_n 0, 1), (60, .aload_n 0, 1), (61, .getfield 11, 3), (64, .iload 6, 2), (66, .iaload, 1), (67, .iload_n 2, 1), (68, .iload_n 3, 1), (69, .invokevirtual 36, 3), (72, .aload_n 0, 1), (73, .getfield 17, 3), (76, .iload_n 2, 1), (77, .iconst 1, 1), (78, .isub, 1), (79, .aaload, 1), (80, .iload_n 3, 1), (81, .laload, 1), (82, .invokestatic 40, 3), (85, .ladd, 1), (86, .lstore 4, 2), (88, .iinc 6 1, 3), (91, .goto (-43), 3), (94, .aload_n 0, 1), (95, .getfield 17, 3), (98, .iload_n 2, 1), (99, .aaload, 1), (100, .iload_n 3, 1), (101, .lload 4, 2), (103, .lastore, 1), (104, .iinc 3 1, 3), (107, .goto (-71), 3), (110, .iinc 2 1, 3), (113, .goto (-104), 3), (116, .return_, 1)]
theorem dkX4_reckon : ∀ q ∈ pgX4_reckon, decode cX4_reckon q.1 = .ok q.2 := by decide +kernel
def b_X4_reckon_48 (this : Nat) (s9 : Int32) (s36 : Int32) (j94 : Int64 → PH → Option (Unit × PH)) (rec48 : (Int64 × Int32) → PH → Option (Unit × PH)) (s48 : Int64 × Int32) (hh48 : PH) : Option (Unit × PH) :=
  if (hh48.1 this 1) ≤ s48.2 then (j94 s48.1 hh48) else (ldI hh48 (rt this 0) 6 s48.2 (fun (x15 : Int32) => cb (f_X4_byGranting this x15 s9 s36 hh48) (fun (r16 : Int64) (h17 : PH) => ldR (rt this 2) 7 (s9 - (1 : Int32)) (fun (v18 : Nat) => ldL h17 v18 7 s36 (fun (x19 : Int64) => lt (s48.1 + (if x19 < r16 then r16 else x19)) (fun (x20 : Int64) => lt (s48.2 + Int32.ofInt 1) (fun (x21 : Int32) => rec48 (x20, x21) h17)))))))
def b_X4_reckon_36 (this : Nat) (s9 : Int32) (j110 : PH → Option (Unit × PH)) (rec36 : (Int32) → PH → Option (Unit × PH)) (s36 : Int32) (hh36 : PH) : Option (Unit × PH) :=
  if (6 : Int32) < s36 then (j110 hh36) else (lt (0 : Int64) (fun (x8 : Int64) => lt (0 : Int32) (fun (x9 : Int32) => lt (fun (y10 : Int64) (h11 : PH) => ldR (rt this 2) 7 s9 (fun (v12 : Nat) => stL h11 v12 7 s36 y10 (fun (h13 : PH) => lt (s36 + Int32.ofInt 1) (fun (x14 : Int32) => rec36 x14 h13)))) (fun (j94 : Int64 → PH → Option (Unit × PH)) => lp (b_X4_reckon_48 this s9 s36 j94) FU (x8, x9) hh36))))
def b_X4_reckon_9 (this : Nat) (a1 : Int32) (rec9 : (Int32) → PH → Option (Unit × PH)) (s9 : Int32) (hh9 : PH) : Option (Unit × PH) :=
  if a1 < s9 then (some ((), hh9)) else (ldL hh9 (rt this 3) 7 (s9 - (1 : Int32)) (fun (x3 : Int64) => stL hh9 (rt this 3) 7 s9 (x3 * ((hh9.1 this 1).toInt64)) (fun (h4 : PH) => lt (1 : Int32) (fun (x5 : Int32) => lt (fun (h6 : PH) => lt (s9 + Int32.ofInt 1) (fun (x7 : Int32) => rec9 x7 h6)) (fun (j110 : PH → Option (Unit × PH)) => lp (b_X4_reckon_36 this s9 j110) FU x5 h4)))))
def f_X4_reckon (this : Nat) (a1 : Int32) (h0 : PH) : Option (Unit × PH) :=
  stL h0 (rt this 3) 7 (0 : Int32) (1 : Int64) (fun (h1 : PH) => lt (1 : Int32) (fun (x2 : Int32) => lp (b_X4_reckon_9 this a1) FU x2 h1))
set_option maxRecDepth 100000 in
set_option maxHeartbeats 4000000 in
theorem ct_X4_reckon (l : Launch) (this : Nat) (a1 : Int32) (h0 : PH) (hk : (kd this).1 = 4) : CT mkV l yX4_reckon cX4_reckon 7 none (rmd 1) [.ref this, .int a1] h0 (f_X4_reckon this a1 h0) := by
  refine ct_of (by decide) (Nat.le_of_ble_eq_true rfl) ?_
  intro p e s m args below meth c D cA ad A X hr hlk
  have X : Cx p s m args c RX4 cX4_reckon 7 D cA ad A := X
  unfold f_X4_reckon
  refine so_pick (L' := [(0, .ref this), (1, .int a1)]) X [0, 1] rfl ?_
  refine so_aload_n (i := 0) X 0 (dkX4_reckon (0, .aload_n 0, 1) (pgm 0 rfl)) rfl rfl ?_
  refine sf_getR X ff_4_3 lk_527 hk (dkX4_reckon (1, .getfield 20, 3) (pgm 1 rfl)) ?_
  refine so_iconst (v := (0 : Int32)) X (dkX4_reckon (4, .iconst 0, 1) (pgm 2 rfl)) ic_0 ?_
  refine so_lconst (v := (1 : Int64)) X (dkX4_reckon (5, .lconst 1, 1) (pgm 3 rfl)) lc_1 ?_
  refine so_last X (rk_4_3 this hk) (dkX4_reckon (6, .lastore, 1) (pgm 4 rfl)) (fun h1 => ?_)
  refine so_iconst (v := (1 : Int32)) X (dkX4_reckon (7, .iconst 1, 1) (pgm 5 rfl)) ic_1 ?_
  refine so_istore_n (i := 2) X (dkX4_reckon (8, .istore_n 2, 1) (pgm 6 rfl)) rfl (by decide) (Lf := fun x2 => [(2, .int x2), (0, .ref this), (1, .int a1)]) (fun _ => rfl) (fun x2 => ?_)
  refine so_pick (L' := [(0, .ref this), (1, .int a1), (2, .int x2)]) X [1, 2, 0] rfl ?_
  refine so_loop (body := b_X4_reckon_9 this a1) (fun (s9 : Int32) => [(0, .ref this), (1, .int a1), (2, .int s9)]) (fun rec9 hrec9 s9 hh9 => ?_) FU x2 h1
  unfold b_X4_reckon_9
  refine so_iload_n (i := 2) X 2 (dkX4_reckon (9, .iload_n 2, 1) (pgm 7 rfl)) rfl rfl ?_
  refine so_iload_n (i := 1) X 1 (dkX4_reckon (10, .iload_n 1, 1) (pgm 8 rfl)) rfl rfl ?_
  refine so_icmp_gt (tgt := 116) X (dkX4_reckon (11, .if_icmp .gt 105, 3) (pgm 9 rfl)) rfl (fun _ => ?_) (fun _ => ?_)
  · exact so_vret X hr hlk (dkX4_reckon (116, .return_, 1) (pgm 70 rfl))
  · refine so_aload_n (i := 0) X 0 (dkX4_reckon (14, .aload_n 0, 1) (pgm 10 rfl)) rfl rfl ?_
    refine sf_getR X ff_4_3 lk_527 hk (dkX4_reckon (15, .getfield 20, 3) (pgm 11 rfl)) ?_
    refine so_iload_n (i := 2) X 2 (dkX4_reckon (18, .iload_n 2, 1) (pgm 12 rfl)) rfl rfl ?_
    refine so_aload_n (i := 0) X 0 (dkX4_reckon (19, .aload_n 0, 1) (pgm 13 rfl)) rfl rfl ?_
    refine sf_getR X ff_4_3 lk_527 hk (dkX4_reckon (20, .getfield 20, 3) (pgm 14 rfl)) ?_
    refine so_iload_n (i := 2) X 2 (dkX4_reckon (23, .iload_n 2, 1) (pgm 15 rfl)) rfl rfl ?_
    refine so_iconst (v := (1 : Int32)) X (dkX4_reckon (24, .iconst 1, 1) (pgm 16 rfl)) ic_1 ?_
    refine so_isub X (dkX4_reckon (25, .isub, 1) (pgm 17 rfl)) ?_
    refine so_lald X (rk_4_3 this hk) (dkX4_reckon (26, .laload, 1) (pgm 18 rfl)) (fun x3 => ?_)
    refine so_aload_n (i := 0) X 0 (dkX4_reckon (27, .aload_n 0, 1) (pgm 19 rfl)) rfl rfl ?_
    refine sf_getI X ff_4_1 lk_525 hk (dkX4_reckon (28, .getfield 30, 3) (pgm 20 rfl)) ?_
    refine so_i2l X (dkX4_reckon (31, .i2l, 1) (pgm 21 rfl)) ?_
    refine so_lmul X (dkX4_reckon (32, .lmul, 1) (pgm 22 rfl)) ?_
    refine so_last X (rk_4_3 this hk) (dkX4_reckon (33, .lastore, 1) (pgm 23 rfl)) (fun h4 => ?_)
    refine so_iconst (v := (1 : Int32)) X (dkX4_reckon (34, .iconst 1, 1) (pgm 24 rfl)) ic_1 ?_
    refine so_istore_n (i := 3) X (dkX4_reckon (35, .istore_n 3, 1) (pgm 25 rfl)) rfl (by decide) (Lf := fun x5 => [(3, .int x5), (0, .ref this), (1, .int a1), (2, .int s9)]) (fun _ => rfl) (fun x5 => ?_)
    refine so_join (jf := fun (h6 : PH) => lt (s9 + Int32.ofInt 1) (fun (x7 : Int32) => rec9 x7 h6)) (fun (j : PH → Option (Unit × PH)) => ∀  (h6 : PH), SWo (QM mkV below args s D cA ad A) p l e (rmd 1) s m args below meth c 0 0 7 D cA ad A 110 [(0, .ref this), (1, .int a1), (2, .int s9)] [] h6 (j h6)) ?_ (fun j110 hj110 => ?_)
    · intro h6
      refine so_iinc (i := 2) X 2 (dkX4_reckon (110, .iinc 2 1, 3) (pgm 68 rfl)) rfl rfl (by decide) (Lf := fun x7 => [(2, .int x7), (0, .ref this), (1, .int a1)]) (fun _ => rfl) (fun x7 => ?_)
      refine so_goto (tgt := 9) X (dkX4_reckon (113, .goto (-104), 3) (pgm 69 rfl)) rfl ?_
      exact so_pick X [1, 2, 0] rfl (hrec9 x7 h6)
    refine so_pick (L' := [(0, .ref this), (1, .int a1), (2, .int s9), (3, .int x5)]) X [1, 2, 3, 0] rfl ?_
    refine so_loop (body := b_X4_reckon_36 this s9 j110) (fun (s36 : Int32) => [(0, .ref this), (1, .int a1), (2, .int s9), (3, .int s36)]) (fun rec36 hrec36 s36 hh36 => ?_) FU x5 h4
    unfold b_X4_reckon_36
    refine so_iload_n (i := 3) X 3 (dkX4_reckon (36, .iload_n 3, 1) (pgm 26 rfl)) rfl rfl ?_
    refine so_bipush (v := (6 : Int32)) X (dkX4_reckon (37, .bipush 6, 2) (pgm 27 rfl)) bp_6 ?_
    refine so_icmp_gt (tgt := 110) X (dkX4_reckon (39, .if_icmp .gt 71, 3) (pgm 28 rfl)) rfl (fun _ => ?_) (fun _ => ?_)
    · exact so_pick X [0, 1, 2] rfl (hj110 hh36)
    · refine so_lconst (v := (0 : Int64)) X (dkX4_reckon (42, .lconst 0, 1) (pgm 29 rfl)) lc_0 ?_
      refine so_lstore (i := 4) X (dkX4_reckon (43, .lstore 4, 2) (pgm 30 rfl)) (by decide) (Lf := fun x8 => [(4, .long x8), (0, .ref this), (1, .int a1), (2, .int s9), (3, .int s36)]) (fun _ => rfl) (fun x8 => ?_)
      refine so_iconst (v := (0 : Int32)) X (dkX4_reckon (45, .iconst 0, 1) (pgm 31 rfl)) ic_0 ?_
      refine so_istore (i := 6) X (dkX4_reckon (46, .istore 6, 2) (pgm 32 rfl)) (by decide) (Lf := fun x9 => [(6, .int x9), (4, .long x8), (0, .ref this), (1, .int a1), (2, .int s9), (3, .int s36)]) (fun _ => rfl) (fun x9 => ?_)
      refine so_join (jf := fun (y10 : Int64) (h11 : PH) => ldR (rt this 2) 7 s9 (fun (v12 : Nat) => stL h11 v12 7 s36 y10 (fun (h13 : PH) => lt (s36 + Int32.ofInt 1) (fun (x14 : Int32) => rec36 x14 h13)))) (fun (j : Int64 → PH → Option (Unit × PH)) => ∀ (y10 : Int64) (h11 : PH), SWo (QM mkV below args s D cA ad A) p l e (rmd 1) s m args below meth c 0 0 7 D cA ad A 94 [(0, .ref this), (1, .int a1), (2, .int s9), (3, .int s36), (4, .long y10)] [] h11 (j y10 h11)) ?_ (fun j94 hj94 => ?_)
      · intro y10 h11
        refine so_aload_n (i := 0) X 0 (dkX4_reckon (94, .aload_n 0, 1) (pgm 59 rfl)) rfl rfl ?_
        refine sf_getR X ff_4_2 lk_526 hk (dkX4_reckon (95, .getfield 17, 3) (pgm 60 rfl)) ?_
        refine so_iload_n (i := 2) X 2 (dkX4_reckon (98, .iload_n 2, 1) (pgm 61 rfl)) rfl rfl ?_
        refine so_aaldK X (rk_4_2 this hk) (by decide) (by decide) 5 (fun _ => rfl) rfl (re_4_2 this hk) (dkX4_reckon (99, .aaload, 1) (pgm 62 rfl)) (fun v12 hv12 => ?_)
        refine so_iload_n (i := 3) X 3 (dkX4_reckon (100, .iload_n 3, 1) (pgm 63 rfl)) rfl rfl ?_
        refine so_lload (i := 4) X 4 (dkX4_reckon (101, .lload 4, 2) (pgm 64 rfl)) rfl ?_
        refine so_last X hv12 (dkX4_reckon (103, .lastore, 1) (pgm 65 rfl)) (fun h13 => ?_)
        refine so_iinc (i := 3) X 3 (dkX4_reckon (104, .iinc 3 1, 3) (pgm 66 rfl)) rfl rfl (by decide) (Lf := fun x14 => [(3, .int x14), (0, .ref this), (1, .int a1), (2, .int s9), (4, .long y10)]) (fun _ => rfl) (fun x14 => ?_)
        refine so_goto (tgt := 36) X (dkX4_reckon (107, .goto (-71), 3) (pgm 67 rfl)) rfl ?_
        exact so_pick X [1, 2, 3, 0] rfl (hrec36 x14 h13)
      refine so_pick (L' := [(0, .ref this), (1, .int a1), (2, .int s9), (3, .int s36), (4, .long x8), (6, .int x9)]) X [2, 3, 4, 5, 1, 0] rfl ?_
      refine so_loop (body := b_X4_reckon_48 this s9 s36 j94) (fun (s48 : Int64 × Int32) => [(0, .ref this), (1, .int a1), (2, .int s9), (3, .int s36), (4, .long s48.1), (6, .int s48.2)]) (fun rec48 hrec48 s48 hh48 => ?_) FU (x8, x9) hh36
      unfold b_X4_reckon_48
      refine so_iload (i := 6) X 5 (dkX4_reckon (48, .iload 6, 2) (pgm 33 rfl)) rfl ?_
      refine so_aload_n (i := 0) X 0 (dkX4_reckon (50, .aload_n 0, 1) (pgm 34 rfl)) rfl rfl ?_
      refine sf_getI X ff_4_1 lk_525 hk (dkX4_reckon (51, .getfield 30, 3) (pgm 35 rfl)) ?_
      refine so_icmp_ge (tgt := 94) X (dkX4_reckon (54, .if_icmp .ge 40, 3) (pgm 36 rfl)) rfl (fun _ => ?_) (fun _ => ?_)
      · exact so_pick X [0, 1, 2, 3, 4] rfl (hj94 s48.1 hh48)
      · refine so_lload (i := 4) X 4 (dkX4_reckon (57, .lload 4, 2) (pgm 37 rfl)) rfl ?_
        refine so_aload_n (i := 0) X 0 (dkX4_reckon (59, .aload_n 0, 1) (pgm 38 rfl)) rfl rfl ?_
        refine so_aload_n (i := 0) X 0 (dkX4_reckon (60, .aload_n 0, 1) (pgm 39 rfl)) rfl rfl ?_
        refine sf_getR X ff_4_0 lk_524 hk (dkX4_reckon (61, .getfield 11, 3) (pgm 40 rfl)) ?_
        refine so_iload (i := 6) X 5 (dkX4_reckon (64, .iload 6, 2) (pgm 41 rfl)) rfl ?_
        refine so_iald X (rk_4_0 this hk) (dkX4_reckon (66, .iaload, 1) (pgm 42 rfl)) (fun x15 => ?_)
        refine so_iload_n (i := 2) X 2 (dkX4_reckon (67, .iload_n 2, 1) (pgm 43 rfl)) rfl rfl ?_
        refine so_iload_n (i := 3) X 3 (dkX4_reckon (68, .iload_n 3, 1) (pgm 44 rfl)) rfl rfl ?_
        refine so_callV (n := 3) (As := [.int x15, .int s9, .int s36]) X (ct_X4_byGranting l this x15 s9 s36 hh48 hk) hk (by decide) rfl lk_1556 lk_1558 lk_53 lk_132 lk_1559 (by decide +kernel) rfl rfl rfl (rm_ok (by omega) (by decide)) ⟨Nat.zero_le _, Nat.zero_le _⟩ (Nat.le_of_ble_eq_true rfl) (dkX4_reckon (69, .invokevirtual 36, 3) (pgm 45 rfl)) (fun r16 h17 => ?_) rfl
        refine so_aload_n (i := 0) X 0 (dkX4_reckon (72, .aload_n 0, 1) (pgm 46 rfl)) rfl rfl ?_
        refine sf_getR X ff_4_2 lk_526 hk (dkX4_reckon (73, .getfield 17, 3) (pgm 47 rfl)) ?_
        refine so_iload_n (i := 2) X 2 (dkX4_reckon (76, .iload_n 2, 1) (pgm 48 rfl)) rfl rfl ?_
        refine so_iconst (v := (1 : Int32)) X (dkX4_reckon (77, .iconst 1, 1) (pgm 49 rfl)) ic_1 ?_
        refine so_isub X (dkX4_reckon (78, .isub, 1) (pgm 50 rfl)) ?_
        refine so_aaldK X (rk_4_2 this hk) (by decide) (by decide) 5 (fun _ => rfl) rfl (re_4_2 this hk) (dkX4_reckon (79, .aaload, 1) (pgm 51 rfl)) (fun v18 hv18 => ?_)
        refine so_iload_n (i := 3) X 3 (dkX4_reckon (80, .iload_n 3, 1) (pgm 52 rfl)) rfl rfl ?_
        refine so_lald X hv18 (dkX4_reckon (81, .laload, 1) (pgm 53 rfl)) (fun x19 => ?_)
        refine so_mmaxl X lk_1560 lk_1561 lk_135 lk_1562 (Nat.le_of_ble_eq_true rfl) (Nat.le_of_ble_eq_true rfl) ⟨Nat.zero_le _, Nat.zero_le _⟩ (dkX4_reckon (82, .invokestatic 40, 3) (pgm 54 rfl)) ?_
        refine so_ladd X (dkX4_reckon (85, .ladd, 1) (pgm 55 rfl)) ?_
        refine so_lstore (i := 4) X (dkX4_reckon (86, .lstore 4, 2) (pgm 56 rfl)) (by decide) (Lf := fun x20 => [(4, .long x20), (0, .ref this), (1, .int a1), (2, .int s9), (3, .int s36), (6, .int s48.2)]) (fun _ => rfl) (fun x20 => ?_)
        refine so_iinc (i := 6) X 5 (dkX4_reckon (88, .iinc 6 1, 3) (pgm 57 rfl)) rfl rfl (by decide) (Lf := fun x21 => [(6, .int x21), (4, .long x20), (0, .ref this), (1, .int a1), (2, .int s9), (3, .int s36)]) (fun _ => rfl) (fun x21 => ?_)
        refine so_goto (tgt := 48) X (dkX4_reckon (91, .goto (-43), 3) (pgm 58 rfl)) rfl ?_
        exact so_pick X [2, 3, 4, 5, 1, 0] rfl (hrec48 (x20, x21) h17)
def pgX5_search : List (Nat × Instr × Nat) := [(0, .iload_n 1, 1), (1, .ifCond .gt 21, 3), (4, .aload_n 0, 1), (5, .iload_n 3, 1), (6, .iload 4, 2), (8, .invokevirtual 45, 3), (11, .ifCond .eq 10, 3), (14, .aload_n 0, 1), (15, .iload_n 3, 1), (16, .iload 4, 2), (18, .invokevirtual 49, 3), (21, .return_, 1), (22, .iload_n 2, 1), (23, .istore 5, 2), (25, .iload 5, 2), (27, .aload_n 0, 1), (28, .getfield 15, 3), (31, .getfield 53, 3), (34, .if_icmp .ge 52, 3), (37, .iconst 1, 1), (38, .iload 5, 2), (40, .ishl, 1), (41, .istore 6, 2), (43, .aload_n 0, 1), (44, .iload_n 1, 1), (45, .iconst 1, 1), (46, .isub, 1), (47, .iload 5, 2), (49, .iconst 1, 1), (50, .iadd, 1), (51, .iload_n 3, 1), (52, .iload 6, 2), (54, .ior, 1), (55, .iload 4, 2), (57, .invokevirtual 41, 3), (60, .aload_n 0, 1), (61, .iload_n 1, 1), (62, .iconst 1, 1), (63, .isub, 1), (64, .iload 5, 2), (66, .iconst 1, 1), (67, .iadd, 1), (68, .iload_n 3, 1), (69, .iload 6, 2), (71, .ior, 1), (72, .iload 4, 2), (74, .iload 6, 2), (76, .ior, 1), (77, .invokevirtual 41, 3), (80, .iinc 5 1, 3), (83, .goto (-58), 3), (86, .return_, 1)]
theorem dkX5_search : ∀ q ∈ pgX5_search, decode cX5_search q.1 = .ok q.2 := by decide +kernel
def b_X5_search_25 (this : Nat) (a1 : Int32) (a3 : Int32) (a4 : Int32) (fr : Nat → Int32 → Int32 → Int32 → Int32 → PH → Option (Unit × PH)) (rec25 : (Int32) → PH → Option (Unit × PH)) (s25 : Int32) (hh25 : PH) : Option (Unit × PH) :=
  if (hh25.1 (rt this 0) 7) ≤ s25 then (some ((), hh25)) else (lt ((1 : Int32) <<< (s25 &&& 31)) (fun (x2 : Int32) => cb (fr this (a1 - (1 : Int32)) (s25 + (1 : Int32)) (a3 ||| x2) a4 hh25) (fun (r3 : Unit) (h4 : PH) => cb (fr this (a1 - (1 : Int32)) (s25 + (1 : Int32)) (a3 ||| x2) (a4 ||| x2) h4) (fun (r5 : Unit) (h6 : PH) => lt (s25 + Int32.ofInt 1) (fun (x7 : Int32) => rec25 x7 h6)))))
def g_X5_search (fr : Nat → Int32 → Int32 → Int32 → Int32 → PH → Option (Unit × PH)) (this : Nat) (a1 : Int32) (a2 : Int32) (a3 : Int32) (a4 : Int32) (h0 : PH) : Option (Unit × PH) :=
  if 0 < a1 then (lt a2 (fun (x1 : Int32) => lp (b_X5_search_25 this a1 a3 a4 fr) FU x1 h0)) else (cb (f_X5_fits this a3 a4 h0) (fun (r8 : Int32) (h9 : PH) => lt (fun (h10 : PH) => some ((), h10)) (fun (j21 : PH → Option (Unit × PH)) => if r8 = 0 then (j21 h9) else (cb (f_X5_keep this a3 a4 h9) (fun (r11 : Unit) (h12 : PH) => j21 h12)))))
def f_X5_search : Nat → Nat → Int32 → Int32 → Int32 → Int32 → PH → Option (Unit × PH)
  | 0 => fun _ _ _ _ _ _ => none
  | dd + 1 => g_X5_search (f_X5_search dd)
set_option maxRecDepth 100000 in
set_option maxHeartbeats 4000000 in
theorem cg_X5_search (l : Launch) (dd : Nat) (fr : Nat → Int32 → Int32 → Int32 → Int32 → PH → Option (Unit × PH)) (hfr : ∀ (this : Nat) (a1 : Int32) (a2 : Int32) (a3 : Int32) (a4 : Int32) (h0 : PH) (hk : (kd this).1 = 5), CT mkV l yX5_search cX5_search 7 none (rmd (dd + 0)) [.ref this, .int a1, .int a2, .int a3, .int a4] h0 (fr this a1 a2 a3 a4 h0)) (this : Nat) (a1 : Int32) (a2 : Int32) (a3 : Int32) (a4 : Int32) (h0 : PH) (hk : (kd this).1 = 5) : CT mkV l yX5_search cX5_search 7 none (rmd (dd + 1)) [.ref this, .int a1, .int a2, .int a3, .int a4] h0 (g_X5_search fr this a1 a2 a3 a4 h0) := by
  refine ct_of (by decide) (Nat.le_of_ble_eq_true rfl) ?_
  intro p e s m args below meth c D cA ad A X hr hlk
  have X : Cx p s m args c RX5 cX5_search 7 D cA ad A := X
  unfold g_X5_search
  refine so_pick (L' := [(0, .ref this), (1, .int a1), (2, .int a2), (3, .int a3), (4, .int a4)]) X [0, 1, 2, 3, 4] rfl ?_
  refine so_iload_n (i := 1) X 1 (dkX5_search (0, .iload_n 1, 1) (pgm 0 rfl)) rfl rfl ?_
  refine so_if_gt (tgt := 22) X (dkX5_search (1, .ifCond .gt 21, 3) (pgm 1 rfl)) rfl (fun _ => ?_) (fun _ => ?_)
  · refine so_iload_n (i := 2) X 2 (dkX5_search (22, .iload_n 2, 1) (pgm 12 rfl)) rfl rfl ?_
    refine so_istore (i := 5) X (dkX5_search (23, .istore 5, 2) (pgm 13 rfl)) (by decide) (Lf := fun x1 => [(5, .int x1), (0, .ref this), (1, .int a1), (2, .int a2), (3, .int a3), (4, .int a4)]) (fun _ => rfl) (fun x1 => ?_)
    refine so_pick (L' := [(0, .ref this), (1, .int a1), (3, .int a3), (4, .int a4), (5, .int x1)]) X [1, 2, 4, 5, 0] rfl ?_
    refine so_loop (body := b_X5_search_25 this a1 a3 a4 fr) (fun (s25 : Int32) => [(0, .ref this), (1, .int a1), (3, .int a3), (4, .int a4), (5, .int s25)]) (fun rec25 hrec25 s25 hh25 => ?_) FU x1 h0
    unfold b_X5_search_25
    refine so_iload (i := 5) X 4 (dkX5_search (25, .iload 5, 2) (pgm 14 rfl)) rfl ?_
    refine so_aload_n (i := 0) X 0 (dkX5_search (27, .aload_n 0, 1) (pgm 15 rfl)) rfl rfl ?_
    refine sf_getR X ff_5_0 lk_457 hk (dkX5_search (28, .getfield 15, 3) (pgm 16 rfl)) ?_
    refine sf_getI X ff_8_7 lk_195 (fo (rk_5_0 this hk)) (dkX5_search (31, .getfield 53, 3) (pgm 17 rfl)) ?_
    refine so_icmp_ge (tgt := 86) X (dkX5_search (34, .if_icmp .ge 52, 3) (pgm 18 rfl)) rfl (fun _ => ?_) (fun _ => ?_)
    · exact so_vret X hr hlk (dkX5_search (86, .return_, 1) (pgm 51 rfl))
    · refine so_iconst (v := (1 : Int32)) X (dkX5_search (37, .iconst 1, 1) (pgm 19 rfl)) ic_1 ?_
      refine so_iload (i := 5) X 4 (dkX5_search (38, .iload 5, 2) (pgm 20 rfl)) rfl ?_
      refine so_ishl X (dkX5_search (40, .ishl, 1) (pgm 21 rfl)) ?_
      refine so_istore (i := 6) X (dkX5_search (41, .istore 6, 2) (pgm 22 rfl)) (by decide) (Lf := fun x2 => [(6, .int x2), (0, .ref this), (1, .int a1), (3, .int a3), (4, .int a4), (5, .int s25)]) (fun _ => rfl) (fun x2 => ?_)
      refine so_aload_n (i := 0) X 1 (dkX5_search (43, .aload_n 0, 1) (pgm 23 rfl)) rfl rfl ?_
      refine so_iload_n (i := 1) X 2 (dkX5_search (44, .iload_n 1, 1) (pgm 24 rfl)) rfl rfl ?_
      refine so_iconst (v := (1 : Int32)) X (dkX5_search (45, .iconst 1, 1) (pgm 25 rfl)) ic_1 ?_
      refine so_isub X (dkX5_search (46, .isub, 1) (pgm 26 rfl)) ?_
      refine so_iload (i := 5) X 5 (dkX5_search (47, .iload 5, 2) (pgm 27 rfl)) rfl ?_
      refine so_iconst (v := (1 : Int32)) X (dkX5_search (49, .iconst 1, 1) (pgm 28 rfl)) ic_1 ?_
      refine so_iadd X (dkX5_search (50, .iadd, 1) (pgm 29 rfl)) ?_
      refine so_iload_n (i := 3) X 3 (dkX5_search (51, .iload_n 3, 1) (pgm 30 rfl)) rfl rfl ?_
      refine so_iload (i := 6) X 0 (dkX5_search (52, .iload 6, 2) (pgm 31 rfl)) rfl ?_
      refine so_ior X (dkX5_search (54, .ior, 1) (pgm 32 rfl)) ?_
      refine so_iload (i := 4) X 4 (dkX5_search (55, .iload 4, 2) (pgm 33 rfl)) rfl ?_
      refine so_callV (n := 4) (As := [.int (a1 - (1 : Int32)), .int (s25 + (1 : Int32)), .int (a3 ||| x2), .int a4]) X (hfr this (a1 - (1 : Int32)) (s25 + (1 : Int32)) (a3 ||| x2) a4 hh25 hk) hk (by decide) rfl lk_1393 lk_1395 lk_43 lk_130 lk_1396 (by decide +kernel) rfl rfl rfl (rm_ok (by omega) (by decide)) ⟨Nat.zero_le _, Nat.zero_le _⟩ (Nat.le_of_ble_eq_true rfl) (dkX5_search (57, .invokevirtual 41, 3) (pgm 34 rfl)) (fun r3 h4 => ?_) rfl
      refine so_aload_n (i := 0) X 1 (dkX5_search (60, .aload_n 0, 1) (pgm 35 rfl)) rfl rfl ?_
      refine so_iload_n (i := 1) X 2 (dkX5_search (61, .iload_n 1, 1) (pgm 36 rfl)) rfl rfl ?_
      refine so_iconst (v := (1 : Int32)) X (dkX5_search (62, .iconst 1, 1) (pgm 37 rfl)) ic_1 ?_
      refine so_isub X (dkX5_search (63, .isub, 1) (pgm 38 rfl)) ?_
      refine so_iload (i := 5) X 5 (dkX5_search (64, .iload 5, 2) (pgm 39 rfl)) rfl ?_
      refine so_iconst (v := (1 : Int32)) X (dkX5_search (66, .iconst 1, 1) (pgm 40 rfl)) ic_1 ?_
      refine so_iadd X (dkX5_search (67, .iadd, 1) (pgm 41 rfl)) ?_
      refine so_iload_n (i := 3) X 3 (dkX5_search (68, .iload_n 3, 1) (pgm 42 rfl)) rfl rfl ?_
      refine so_iload (i := 6) X 0 (dkX5_search (69, .iload 6, 2) (pgm 43 rfl)) rfl ?_
      refine so_ior X (dkX5_search (71, .ior, 1) (pgm 44 rfl)) ?_
      refine so_iload (i := 4) X 4 (dkX5_search (72, .iload 4, 2) (pgm 45 rfl)) rfl ?_
      refine so_iload (i := 6) X 0 (dkX5_search (74, .iload 6, 2) (pgm 46 rfl)) rfl ?_
      refine so_ior X (dkX5_search (76, .ior, 1) (pgm 47 rfl)) ?_
      refine so_callV (n := 4) (As := [.int (a1 - (1 : Int32)), .int (s25 + (1 : Int32)), .int (a3 ||| x2), .int (a4 ||| x2)]) X (hfr this (a1 - (1 : Int32)) (s25 + (1 : Int32)) (a3 ||| x2) (a4 ||| x2) h4 hk) hk (by decide) rfl lk_1393 lk_1395 lk_43 lk_130 lk_1396 (by decide +kernel) rfl rfl rfl (rm_ok (by omega) (by decide)) ⟨Nat.zero_le _, Nat.zero_le _⟩ (Nat.le_of_ble_eq_true rfl) (dkX5_search (77, .invokevirtual 41, 3) (pgm 48 rfl)) (fun r5 h6 => ?_) rfl
      refine so_iinc (i := 5) X 5 (dkX5_search (80, .iinc 5 1, 3) (pgm 49 rfl)) rfl rfl (by decide) (Lf := fun x7 => [(5, .int x7), (6, .int x2), (0, .ref this), (1, .int a1), (3, .int a3), (4, .int a4)]) (fun _ => rfl) (fun x7 => ?_)
      refine so_goto (tgt := 25) X (dkX5_search (83, .goto (-58), 3) (pgm 50 rfl)) rfl ?_
      exact so_pick X [2, 3, 4, 5, 0] rfl (hrec25 x7 h6)
  · refine so_aload_n (i := 0) X 0 (dkX5_search (4, .aload_n 0, 1) (pgm 2 rfl)) rfl rfl ?_
    refine so_iload_n (i := 3) X 3 (dkX5_search (5, .iload_n 3, 1) (pgm 3 rfl)) rfl rfl ?_
    refine so_iload (i := 4) X 4 (dkX5_search (6, .iload 4, 2) (pgm 4 rfl)) rfl ?_
    refine so_callV (n := 2) (As := [.int a3, .int a4]) X (ct_X5_fits l this a3 a4 h0 hk) hk (by decide) rfl lk_1397 lk_1399 lk_44 lk_130 lk_1400 (by decide +kernel) rfl rfl rfl (rm_ok (by omega) (by decide)) ⟨Nat.zero_le _, Nat.zero_le _⟩ (Nat.le_of_ble_eq_true rfl) (dkX5_search (8, .invokevirtual 45, 3) (pgm 5 rfl)) (fun r8 h9 => ?_) rfl
    refine so_join (jf := fun (h10 : PH) => some ((), h10)) (fun (j : PH → Option (Unit × PH)) => ∀  (h10 : PH), SWo (QM mkV below args s D cA ad A) p l e (rmd (dd + 1)) s m args below meth c 0 0 7 D cA ad A 21 [] [] h10 (j h10)) ?_ (fun j21 hj21 => ?_)
    · intro h10
      exact so_vret X hr hlk (dkX5_search (21, .return_, 1) (pgm 11 rfl))
    refine so_if_eq (tgt := 21) X (dkX5_search (11, .ifCond .eq 10, 3) (pgm 6 rfl)) rfl (fun _ => ?_) (fun _ => ?_)
    · exact so_pick X [] rfl (hj21 h9)
    · refine so_aload_n (i := 0) X 0 (dkX5_search (14, .aload_n 0, 1) (pgm 7 rfl)) rfl rfl ?_
      refine so_iload_n (i := 3) X 3 (dkX5_search (15, .iload_n 3, 1) (pgm 8 rfl)) rfl rfl ?_
      refine so_iload (i := 4) X 4 (dkX5_search (16, .iload 4, 2) (pgm 9 rfl)) rfl ?_
      refine so_callV (n := 2) (As := [.int a3, .int a4]) X (ct_X5_keep l this a3 a4 h9 hk) hk (by decide) rfl lk_1401 lk_1403 lk_45 lk_130 lk_1404 (by decide +kernel) rfl rfl rfl (rm_ok (by omega) (by decide)) ⟨Nat.zero_le _, Nat.zero_le _⟩ (Nat.le_of_ble_eq_true rfl) (dkX5_search (18, .invokevirtual 49, 3) (pgm 10 rfl)) (fun r11 h12 => ?_) rfl
      exact so_pick X [] rfl (hj21 h12)
theorem ct_X5_search (l : Launch) : ∀ (dd : Nat) (this : Nat) (a1 : Int32) (a2 : Int32) (a3 : Int32) (a4 : Int32) (h0 : PH) (hk : (kd this).1 = 5), CT mkV l yX5_search cX5_search 7 none (rmd (dd + 0)) [.ref this, .int a1, .int a2, .int a3, .int a4] h0 (f_X5_search dd this a1 a2 a3 a4 h0)
  | 0 => fun _ _ _ _ _ _ _ => by intro _ _ _ _ _ _ _ e1; cases e1
  | dd + 1 => fun this a1 a2 a3 a4 h0 hk => by
    have e9 : dd + 1 + 0 = dd + 1 := by omega
    rw [e9]
    exact cg_X5_search l dd (f_X5_search dd) (ct_X5_search l dd) this a1 a2 a3 a4 h0 hk
def pgX6_arithmeticSign : List (Nat × Instr × Nat) := [(0, .aload_n 0, 1), (1, .getfield 24, 3), (4, .ldc 228, 2), (6, .invokevirtual 69, 3), (9, .ifCond .eq 6, 3), (12, .bipush 8, 2), (14, .ireturn, 1), (15, .aload_n 0, 1), (16, .getfield 24, 3), (19, .ldc 230, 2), (21, .invokevirtual 69, 3), (24, .ifCond .eq 6, 3), (27, .bipush 9, 2), (29, .ireturn, 1), (30, .aload_n 0, 1), (31, .getfield 24, 3), (34, .ldc 232, 2), (36, .invokevirtual 69, 3), (39, .ifCond .eq 8, 3), (42, .bipush 10, 2), (44, .goto 4, 3), (47, .iconst (-1), 1), (48, .ireturn, 1)]
theorem dkX6_arithmeticSign : ∀ q ∈ pgX6_arithmeticSign, decode cX6_arithmeticSign q.1 = .ok q.2 := by decide +kernel
def f_X6_arithmeticSign (this : Nat) (h0 : PH) : Option (Int32 × PH) :=
  cb (f_X9_at (rt this 0) 18 h0) (fun (r1 : Int32) (h2 : PH) => if r1 = 0 then (cb (f_X9_at (rt this 0) 19 h2) (fun (r3 : Int32) (h4 : PH) => if r3 = 0 then (cb (f_X9_at (rt this 0) 20 h4) (fun (r5 : Int32) (h6 : PH) => lt (fun (t7 : Int32) (h8 : PH) => some (t7, h8)) (fun (j48 : Int32 → PH → Option (Int32 × PH)) => if r5 = 0 then (j48 (-1 : Int32) h6) else (j48 (10 : Int32) h6)))) else (some ((9 : Int32), h4)))) else (some ((8 : Int32), h2)))
set_option maxRecDepth 100000 in
set_option maxHeartbeats 4000000 in
theorem ct_X6_arithmeticSign (l : Launch) (this : Nat) (h0 : PH) (hk : (kd this).1 = 6) : CT mkI l yX6_arithmeticSign cX6_arithmeticSign 1 (some .int) (rmd 5) [.ref this] h0 (f_X6_arithmeticSign this h0) := by
  refine ct_of (by decide) (Nat.le_of_ble_eq_true rfl) ?_
  intro p e s m args below meth c D cA ad A X hr hlk
  have X : Cx p s m args c RX6 cX6_arithmeticSign 1 D cA ad A := X
  unfold f_X6_arithmeticSign
  refine so_pick (L' := [(0, .ref this)]) X [0] rfl ?_
  refine so_aload_n (i := 0) X 0 (dkX6_arithmeticSign (0, .aload_n 0, 1) (pgm 0 rfl)) rfl rfl ?_
  refine sf_getR X ff_6_0 lk_288 hk (dkX6_arithmeticSign (1, .getfield 24, 3) (pgm 1 rfl)) ?_
  refine so_ldcS (n := 18) (tx := "+") X (pgm 18 rfl) (dkX6_arithmeticSign (4, .ldc 228, 2) (pgm 2 rfl)) ?_
  refine so_callV (n := 1) (As := [.ref (200 + 18)]) X (ct_X9_at l (rt this 0) 18 h0 (fo (rk_6_0 this hk)) (by decide : 18 < NS)) (fo (rk_6_0 this hk)) (by decide) rfl lk_967 lk_968 lk_969 lk_124 lk_970 (by decide +kernel) rfl rfl rfl (rm_ok (by omega) (by decide)) ⟨Nat.zero_le _, Nat.zero_le _⟩ (Nat.le_of_ble_eq_true rfl) (dkX6_arithmeticSign (6, .invokevirtual 69, 3) (pgm 3 rfl)) (fun r1 h2 => ?_) rfl
  refine so_if_eq (tgt := 15) X (dkX6_arithmeticSign (9, .ifCond .eq 6, 3) (pgm 4 rfl)) rfl (fun _ => ?_) (fun _ => ?_)
  · refine so_aload_n (i := 0) X 0 (dkX6_arithmeticSign (15, .aload_n 0, 1) (pgm 7 rfl)) rfl rfl ?_
    refine sf_getR X ff_6_0 lk_288 hk (dkX6_arithmeticSign (16, .getfield 24, 3) (pgm 8 rfl)) ?_
    refine so_ldcS (n := 19) (tx := "-") X (pgm 19 rfl) (dkX6_arithmeticSign (19, .ldc 230, 2) (pgm 9 rfl)) ?_
    refine so_callV (n := 1) (As := [.ref (200 + 19)]) X (ct_X9_at l (rt this 0) 19 h2 (fo (rk_6_0 this hk)) (by decide : 19 < NS)) (fo (rk_6_0 this hk)) (by decide) rfl lk_967 lk_968 lk_969 lk_124 lk_970 (by decide +kernel) rfl rfl rfl (rm_ok (by omega) (by decide)) ⟨Nat.zero_le _, Nat.zero_le _⟩ (Nat.le_of_ble_eq_true rfl) (dkX6_arithmeticSign (21, .invokevirtual 69, 3) (pgm 10 rfl)) (fun r3 h4 => ?_) rfl
    refine so_if_eq (tgt := 30) X (dkX6_arithmeticSign (24, .ifCond .eq 6, 3) (pgm 11 rfl)) rfl (fun _ => ?_) (fun _ => ?_)
    · refine so_aload_n (i := 0) X 0 (dkX6_arithmeticSign (30, .aload_n 0, 1) (pgm 14 rfl)) rfl rfl ?_
      refine sf_getR X ff_6_0 lk_288 hk (dkX6_arithmeticSign (31, .getfield 24, 3) (pgm 15 rfl)) ?_
      refine so_ldcS (n := 20) (tx := "*") X (pgm 20 rfl) (dkX6_arithmeticSign (34, .ldc 232, 2) (pgm 16 rfl)) ?_
      refine so_callV (n := 1) (As := [.ref (200 + 20)]) X (ct_X9_at l (rt this 0) 20 h4 (fo (rk_6_0 this hk)) (by decide : 20 < NS)) (fo (rk_6_0 this hk)) (by decide) rfl lk_967 lk_968 lk_969 lk_124 lk_970 (by decide +kernel) rfl rfl rfl (rm_ok (by omega) (by decide)) ⟨Nat.zero_le _, Nat.zero_le _⟩ (Nat.le_of_ble_eq_true rfl) (dkX6_arithmeticSign (36, .invokevirtual 69, 3) (pgm 17 rfl)) (fun r5 h6 => ?_) rfl
      refine so_join (jf := fun (t7 : Int32) (h8 : PH) => some (t7, h8)) (fun (j : Int32 → PH → Option (Int32 × PH)) => ∀ (t7 : Int32) (h8 : PH), SWo (QM mkI below args s D cA ad A) p l e (rmd 5) s m args below meth c 0 0 1 D cA ad A 48 [] [.int t7] h8 (j t7 h8)) ?_ (fun j48 hj48 => ?_)
      · intro t7 h8
        exact so_iret X hr hlk (dkX6_arithmeticSign (48, .ireturn, 1) (pgm 22 rfl))
      refine so_if_eq (tgt := 47) X (dkX6_arithmeticSign (39, .ifCond .eq 8, 3) (pgm 18 rfl)) rfl (fun _ => ?_) (fun _ => ?_)
      · refine so_iconst (v := (-1 : Int32)) X (dkX6_arithmeticSign (47, .iconst (-1), 1) (pgm 21 rfl)) ic_m1 ?_
        exact so_pick X [] rfl (hj48 (-1 : Int32) h6)
      · refine so_bipush (v := (10 : Int32)) X (dkX6_arithmeticSign (42, .bipush 10, 2) (pgm 19 rfl)) bp_10 ?_
        refine so_goto (tgt := 48) X (dkX6_arithmeticSign (44, .goto 4, 3) (pgm 20 rfl)) rfl ?_
        exact so_pick X [] rfl (hj48 (10 : Int32) h6)
    · refine so_bipush (v := (9 : Int32)) X (dkX6_arithmeticSign (27, .bipush 9, 2) (pgm 12 rfl)) bp_9 ?_
      exact so_iret X hr hlk (dkX6_arithmeticSign (29, .ireturn, 1) (pgm 13 rfl))
  · refine so_bipush (v := (8 : Int32)) X (dkX6_arithmeticSign (12, .bipush 8, 2) (pgm 5 rfl)) bp_8 ?_
    exact so_iret X hr hlk (dkX6_arithmeticSign (14, .ireturn, 1) (pgm 6 rfl))
def pgX6_comparingSign : List (Nat × Instr × Nat) := [(0, .aload_n 0, 1), (1, .getfield 24, 3), (4, .ldc 234, 2), (6, .invokevirtual 69, 3), (9, .ifCond .eq 5, 3), (12, .iconst 5, 1), (13, .ireturn, 1), (14, .aload_n 0, 1), (15, .getfield 24, 3), (18, .ldc 236, 2), (20, .invokevirtual 69, 3), (23, .ifCond .eq 6, 3), (26, .bipush 6, 2), (28, .ireturn, 1), (29, .aload_n 0, 1), (30, .getfield 24, 3), (33, .ldc 238, 2), (35, .invokevirtual 69, 3), (38, .ifCond .eq 8, 3), (41, .bipush 7, 2), (43, .goto 4, 3), (46, .iconst (-1), 1), (47, .ireturn, 1)]
theorem dkX6_comparingSign : ∀ q ∈ pgX6_comparingSign, decode cX6_comparingSign q.1 = .ok q.2 := by decide +kernel
def f_X6_comparingSign (this : Nat) (h0 : PH) : Option (Int32 × PH) :=
  cb (f_X9_at (rt this 0) 22 h0) (fun (r1 : Int32) (h2 : PH) => if r1 = 0 then (cb (f_X9_at (rt this 0) 23 h2) (fun (r3 : Int32) (h4 : PH) => if r3 = 0 then (cb (f_X9_at (rt this 0) 24 h4) (fun (r5 : Int32) (h6 : PH) => lt (fun (t7 : Int32) (h8 : PH) => some (t7, h8)) (fun (j47 : Int32 → PH → Option (Int32 × PH)) => if r5 = 0 then (j47 (-1 : Int32) h6) else (j47 (7 : Int32) h6)))) else (some ((6 : Int32), h4)))) else (some ((5 : Int32), h2)))
set_option maxRecDepth 100000 in
set_option maxHeartbeats 4000000 in
theorem ct_X6_comparingSign (l : Launch) (this : Nat) (h0 : PH) (hk : (kd this).1 = 6) : CT mkI l yX6_comparingSign cX6_comparingSign 1 (some .int) (rmd 5) [.ref this] h0 (f_X6_comparingSign this h0) := by
  refine ct_of (by decide) (Nat.le_of_ble_eq_true rfl) ?_
  intro p e s m args below meth c D cA ad A X hr hlk
  have X : Cx p s m args c RX6 cX6_comparingSign 1 D cA ad A := X
  unfold f_X6_comparingSign
  refine so_pick (L' := [(0, .ref this)]) X [0] rfl ?_
  refine so_aload_n (i := 0) X 0 (dkX6_comparingSign (0, .aload_n 0, 1) (pgm 0 rfl)) rfl rfl ?_
  refine sf_getR X ff_6_0 lk_288 hk (dkX6_comparingSign (1, .getfield 24, 3) (pgm 1 rfl)) ?_
  refine so_ldcS (n := 22) (tx := "=") X (pgm 22 rfl) (dkX6_comparingSign (4, .ldc 234, 2) (pgm 2 rfl)) ?_
  refine so_callV (n := 1) (As := [.ref (200 + 22)]) X (ct_X9_at l (rt this 0) 22 h0 (fo (rk_6_0 this hk)) (by decide : 22 < NS)) (fo (rk_6_0 this hk)) (by decide) rfl lk_967 lk_968 lk_969 lk_124 lk_970 (by decide +kernel) rfl rfl rfl (rm_ok (by omega) (by decide)) ⟨Nat.zero_le _, Nat.zero_le _⟩ (Nat.le_of_ble_eq_true rfl) (dkX6_comparingSign (6, .invokevirtual 69, 3) (pgm 3 rfl)) (fun r1 h2 => ?_) rfl
  refine so_if_eq (tgt := 14) X (dkX6_comparingSign (9, .ifCond .eq 5, 3) (pgm 4 rfl)) rfl (fun _ => ?_) (fun _ => ?_)
  · refine so_aload_n (i := 0) X 0 (dkX6_comparingSign (14, .aload_n 0, 1) (pgm 7 rfl)) rfl rfl ?_
    refine sf_getR X ff_6_0 lk_288 hk (dkX6_comparingSign (15, .getfield 24, 3) (pgm 8 rfl)) ?_
    refine so_ldcS (n := 23) (tx := "<") X (pgm 23 rfl) (dkX6_comparingSign (18, .ldc 236, 2) (pgm 9 rfl)) ?_
    refine so_callV (n := 1) (As := [.ref (200 + 23)]) X (ct_X9_at l (rt this 0) 23 h2 (fo (rk_6_0 this hk)) (by decide : 23 < NS)) (fo (rk_6_0 this hk)) (by decide) rfl lk_967 lk_968 lk_969 lk_124 lk_970 (by decide +kernel) rfl rfl rfl (rm_ok (by omega) (by decide)) ⟨Nat.zero_le _, Nat.zero_le _⟩ (Nat.le_of_ble_eq_true rfl) (dkX6_comparingSign (20, .invokevirtual 69, 3) (pgm 10 rfl)) (fun r3 h4 => ?_) rfl
    refine so_if_eq (tgt := 29) X (dkX6_comparingSign (23, .ifCond .eq 6, 3) (pgm 11 rfl)) rfl (fun _ => ?_) (fun _ => ?_)
    · refine so_aload_n (i := 0) X 0 (dkX6_comparingSign (29, .aload_n 0, 1) (pgm 14 rfl)) rfl rfl ?_
      refine sf_getR X ff_6_0 lk_288 hk (dkX6_comparingSign (30, .getfield 24, 3) (pgm 15 rfl)) ?_
      refine so_ldcS (n := 24) (tx := ">") X (pgm 24 rfl) (dkX6_comparingSign (33, .ldc 238, 2) (pgm 16 rfl)) ?_
      refine so_callV (n := 1) (As := [.ref (200 + 24)]) X (ct_X9_at l (rt this 0) 24 h4 (fo (rk_6_0 this hk)) (by decide : 24 < NS)) (fo (rk_6_0 this hk)) (by decide) rfl lk_967 lk_968 lk_969 lk_124 lk_970 (by decide +kernel) rfl rfl rfl (rm_ok (by omega) (by decide)) ⟨Nat.zero_le _, Nat.zero_le _⟩ (Nat.le_of_ble_eq_true rfl) (dkX6_comparingSign (35, .invokevirtual 69, 3) (pgm 17 rfl)) (fun r5 h6 => ?_) rfl
      refine so_join (jf := fun (t7 : Int32) (h8 : PH) => some (t7, h8)) (fun (j : Int32 → PH → Option (Int32 × PH)) => ∀ (t7 : Int32) (h8 : PH), SWo (QM mkI below args s D cA ad A) p l e (rmd 5) s m args below meth c 0 0 1 D cA ad A 47 [] [.int t7] h8 (j t7 h8)) ?_ (fun j47 hj47 => ?_)
      · intro t7 h8
        exact so_iret X hr hlk (dkX6_comparingSign (47, .ireturn, 1) (pgm 22 rfl))
      refine so_if_eq (tgt := 46) X (dkX6_comparingSign (38, .ifCond .eq 8, 3) (pgm 18 rfl)) rfl (fun _ => ?_) (fun _ => ?_)
      · refine so_iconst (v := (-1 : Int32)) X (dkX6_comparingSign (46, .iconst (-1), 1) (pgm 21 rfl)) ic_m1 ?_
        exact so_pick X [] rfl (hj47 (-1 : Int32) h6)
      · refine so_bipush (v := (7 : Int32)) X (dkX6_comparingSign (41, .bipush 7, 2) (pgm 19 rfl)) bp_7 ?_
        refine so_goto (tgt := 47) X (dkX6_comparingSign (43, .goto 4, 3) (pgm 20 rfl)) rfl ?_
        exact so_pick X [] rfl (hj47 (7 : Int32) h6)
    · refine so_bipush (v := (6 : Int32)) X (dkX6_comparingSign (26, .bipush 6, 2) (pgm 12 rfl)) bp_6 ?_
      exact so_iret X hr hlk (dkX6_comparingSign (28, .ireturn, 1) (pgm 13 rfl))
  · refine so_iconst (v := (5 : Int32)) X (dkX6_comparingSign (12, .iconst 5, 1) (pgm 5 rfl)) ic_5 ?_
    exact so_iret X hr hlk (dkX6_comparingSign (13, .ireturn, 1) (pgm 6 rfl))
def pgX6_settleDownTo : List (Nat × Instr × Nat) := [(0, .aload_n 0, 1), (1, .getfield 150, 3), (4, .ifCond .le 75, 3), (7, .getstatic 240, 3), (10, .aload_n 0, 1), (11, .getfield 9, 3), (14, .aload_n 0, 1), (15, .getfield 150, 3), (18, .iconst 1, 1), (19, .isub, 1), (20, .iaload, 1), (21, .iaload, 1), (22, .iload_n 1, 1), (23, .if_icmp .lt 56, 3), (26, .aload_n 0, 1), (27, .dup, 1), (28, .getfield 150, 3), (31, .iconst 1, 1), (32, .isub, 1), (33, .putfield 150, 3), (36, .aload_n 0, 1), (37, .getfield 9, 3), (40, .aload_n 0, 1), (41, .getfield 150, 3), (44, .iaload, 1), (45, .iconst 4, 1), (46, .if_icmp .ne 13, 3), (49, .aload_n 0, 1), (50, .dup, 1), (51, .getfield 153, 3), (54, .iconst 1, 1), (55, .isub, 1), (56, .putfield 153, 3), (59, .aload_n 0, 1), (60, .getfield 28, 3), (63, .aload_n 0, 1), (64, .getfield 9, 3), (67, .aload_n 0, 1), (68, .getfield 150, 3), (71, .iaload, 1), (72, .iconst 0, 1), (73, .invokevirtual 183, 3), (76, .goto (-76), 3), (79, .return_, 1)]
theorem dkX6_settleDownTo : ∀ q ∈ pgX6_settleDownTo, decode cX6_settleDownTo q.1 = .ok q.2 := by decide +kernel
def b_X6_settleDownTo_0 (this : Nat) (a1 : Int32) (j79 : PH → Option (Unit × PH)) (rec0 : (Unit) → PH → Option (Unit × PH)) (s0 : Unit) (hh0 : PH) : Option (Unit × PH) :=
  if (hh0.1 this 3) ≤ 0 then (j79 hh0) else (ldI hh0 (rt this 2) 900 ((hh0.1 this 3) - (1 : Int32)) (fun (x2 : Int32) => ldT x2 (fun (x3 : Int32) => if x3 < a1 then (j79 hh0) else (lt (pI hh0 this 3 ((hh0.1 this 3) - (1 : Int32))) (fun (h4 : PH) => ldI h4 (rt this 2) 900 (h4.1 this 3) (fun (x5 : Int32) => lt (fun (h6 : PH) => ldI h6 (rt this 2) 900 (h6.1 this 3) (fun (x7 : Int32) => cb (f_X8_emit (rt this 1) x7 (0 : Int32) h6) (fun (r8 : Unit) (h9 : PH) => rec0 () h9))) (fun (j59 : PH → Option (Unit × PH)) => if x5 = (4 : Int32) then (lt (pI h4 this 4 ((h4.1 this 4) - (1 : Int32))) (fun (h10 : PH) => j59 h10)) else (j59 h4))))))))
def f_X6_settleDownTo (this : Nat) (a1 : Int32) (h0 : PH) : Option (Unit × PH) :=
  lt (fun (h1 : PH) => some ((), h1)) (fun (j79 : PH → Option (Unit × PH)) => lp (b_X6_settleDownTo_0 this a1 j79) FU () h0)
set_option maxRecDepth 100000 in
set_option maxHeartbeats 4000000 in
theorem ct_X6_settleDownTo (l : Launch) (this : Nat) (a1 : Int32) (h0 : PH) (hk : (kd this).1 = 6) : CT mkV l yX6_settleDownTo cX6_settleDownTo 2 none (rmd 1) [.ref this, .int a1] h0 (f_X6_settleDownTo this a1 h0) := by
  refine ct_of (by decide) (Nat.le_of_ble_eq_true rfl) ?_
  intro p e s m args below meth c D cA ad A X hr hlk
  have X : Cx p s m args c RX6 cX6_settleDownTo 2 D cA ad A := X
  unfold f_X6_settleDownTo
  refine so_pick (L' := [(0, .ref this), (1, .int a1)]) X [0, 1] rfl ?_
  refine so_join (jf := fun (h1 : PH) => some ((), h1)) (fun (j : PH → Option (Unit × PH)) => ∀  (h1 : PH), SWo (QM mkV below args s D cA ad A) p l e (rmd 1) s m args below meth c 0 0 2 D cA ad A 79 [] [] h1 (j h1)) ?_ (fun j79 hj79 => ?_)
  · intro h1
    exact so_vret X hr hlk (dkX6_settleDownTo (79, .return_, 1) (pgm 43 rfl))
  refine so_pick (L' := [(0, .ref this), (1, .int a1)]) X [0, 1] rfl ?_
  refine so_loop (body := b_X6_settleDownTo_0 this a1 j79) (fun (s0 : Unit) => [(0, .ref this), (1, .int a1)]) (fun rec0 hrec0 s0 hh0 => ?_) FU () h0
  unfold b_X6_settleDownTo_0
  refine so_aload_n (i := 0) X 0 (dkX6_settleDownTo (0, .aload_n 0, 1) (pgm 0 rfl)) rfl rfl ?_
  refine sf_getI X ff_6_3 lk_291 hk (dkX6_settleDownTo (1, .getfield 150, 3) (pgm 1 rfl)) ?_
  refine so_if_le (tgt := 79) X (dkX6_settleDownTo (4, .ifCond .le 75, 3) (pgm 2 rfl)) rfl (fun _ => ?_) (fun _ => ?_)
  · exact so_pick X [] rfl (hj79 hh0)
  · refine so_tgS X lk_1077 (dkX6_settleDownTo (7, .getstatic 240, 3) (pgm 3 rfl)) ?_
    refine so_aload_n (i := 0) X 0 (dkX6_settleDownTo (10, .aload_n 0, 1) (pgm 4 rfl)) rfl rfl ?_
    refine sf_getR X ff_6_2 lk_290 hk (dkX6_settleDownTo (11, .getfield 9, 3) (pgm 5 rfl)) ?_
    refine so_aload_n (i := 0) X 0 (dkX6_settleDownTo (14, .aload_n 0, 1) (pgm 6 rfl)) rfl rfl ?_
    refine sf_getI X ff_6_3 lk_291 hk (dkX6_settleDownTo (15, .getfield 150, 3) (pgm 7 rfl)) ?_
    refine so_iconst (v := (1 : Int32)) X (dkX6_settleDownTo (18, .iconst 1, 1) (pgm 8 rfl)) ic_1 ?_
    refine so_isub X (dkX6_settleDownTo (19, .isub, 1) (pgm 9 rfl)) ?_
    refine so_iald X (rk_6_2 this hk) (dkX6_settleDownTo (20, .iaload, 1) (pgm 10 rfl)) (fun x2 => ?_)
    refine so_tgI X (dkX6_settleDownTo (21, .iaload, 1) (pgm 11 rfl)) (fun x3 => ?_)
    refine so_iload_n (i := 1) X 1 (dkX6_settleDownTo (22, .iload_n 1, 1) (pgm 12 rfl)) rfl rfl ?_
    refine so_icmp_lt (tgt := 79) X (dkX6_settleDownTo (23, .if_icmp .lt 56, 3) (pgm 13 rfl)) rfl (fun _ => ?_) (fun _ => ?_)
    · exact so_pick X [] rfl (hj79 hh0)
    · refine so_aload_n (i := 0) X 0 (dkX6_settleDownTo (26, .aload_n 0, 1) (pgm 14 rfl)) rfl rfl ?_
      refine so_dup X (dkX6_settleDownTo (27, .dup, 1) (pgm 15 rfl)) rfl ?_
      refine sf_getI X ff_6_3 lk_291 hk (dkX6_settleDownTo (28, .getfield 150, 3) (pgm 16 rfl)) ?_
      refine so_iconst (v := (1 : Int32)) X (dkX6_settleDownTo (31, .iconst 1, 1) (pgm 17 rfl)) ic_1 ?_
      refine so_isub X (dkX6_settleDownTo (32, .isub, 1) (pgm 18 rfl)) ?_
      refine sf_putI X ff_6_3 ft_6 rfl lk_291 hk rfl rfl (dkX6_settleDownTo (33, .putfield 150, 3) (pgm 19 rfl)) (fun h4 => ?_)
      refine so_aload_n (i := 0) X 0 (dkX6_settleDownTo (36, .aload_n 0, 1) (pgm 20 rfl)) rfl rfl ?_
      refine sf_getR X ff_6_2 lk_290 hk (dkX6_settleDownTo (37, .getfield 9, 3) (pgm 21 rfl)) ?_
      refine so_aload_n (i := 0) X 0 (dkX6_settleDownTo (40, .aload_n 0, 1) (pgm 22 rfl)) rfl rfl ?_
      refine sf_getI X ff_6_3 lk_291 hk (dkX6_settleDownTo (41, .getfield 150, 3) (pgm 23 rfl)) ?_
      refine so_iald X (rk_6_2 this hk) (dkX6_settleDownTo (44, .iaload, 1) (pgm 24 rfl)) (fun x5 => ?_)
      refine so_iconst (v := (4 : Int32)) X (dkX6_settleDownTo (45, .iconst 4, 1) (pgm 25 rfl)) ic_4 ?_
      refine so_join (jf := fun (h6 : PH) => ldI h6 (rt this 2) 900 (h6.1 this 3) (fun (x7 : Int32) => cb (f_X8_emit (rt this 1) x7 (0 : Int32) h6) (fun (r8 : Unit) (h9 : PH) => rec0 () h9))) (fun (j : PH → Option (Unit × PH)) => ∀  (h6 : PH), SWo (QM mkV below args s D cA ad A) p l e (rmd 1) s m args below meth c 0 0 2 D cA ad A 59 [(0, .ref this), (1, .int a1)] [] h6 (j h6)) ?_ (fun j59 hj59 => ?_)
      · intro h6
        refine so_aload_n (i := 0) X 0 (dkX6_settleDownTo (59, .aload_n 0, 1) (pgm 33 rfl)) rfl rfl ?_
        refine sf_getR X ff_6_1 lk_289 hk (dkX6_settleDownTo (60, .getfield 28, 3) (pgm 34 rfl)) ?_
        refine so_aload_n (i := 0) X 0 (dkX6_settleDownTo (63, .aload_n 0, 1) (pgm 35 rfl)) rfl rfl ?_
        refine sf_getR X ff_6_2 lk_290 hk (dkX6_settleDownTo (64, .getfield 9, 3) (pgm 36 rfl)) ?_
        refine so_aload_n (i := 0) X 0 (dkX6_settleDownTo (67, .aload_n 0, 1) (pgm 37 rfl)) rfl rfl ?_
        refine sf_getI X ff_6_3 lk_291 hk (dkX6_settleDownTo (68, .getfield 150, 3) (pgm 38 rfl)) ?_
        refine so_iald X (rk_6_2 this hk) (dkX6_settleDownTo (71, .iaload, 1) (pgm 39 rfl)) (fun x7 => ?_)
        refine so_iconst (v := (0 : Int32)) X (dkX6_settleDownTo (72, .iconst 0, 1) (pgm 40 rfl)) ic_0 ?_
        refine so_callV (n := 2) (As := [.int x7, .int (0 : Int32)]) X (ct_X8_emit l (rt this 1) x7 (0 : Int32) h6 (fo (rk_6_1 this hk))) (fo (rk_6_1 this hk)) (by decide) rfl lk_1046 lk_1047 lk_1048 lk_122 lk_1049 (by decide +kernel) rfl rfl rfl (rm_ok (by omega) (by decide)) ⟨Nat.zero_le _, Nat.zero_le _⟩ (Nat.le_of_ble_eq_true rfl) (dkX6_settleDownTo (73, .invokevirtual 183, 3) (pgm 41 rfl)) (fun r8 h9 => ?_) rfl
        refine so_goto (tgt := 0) X (dkX6_settleDownTo (76, .goto (-76), 3) (pgm 42 rfl)) rfl ?_
        exact so_pick X [0, 1] rfl (hrec0 () h9)
      refine so_icmp_ne (tgt := 59) X (dkX6_settleDownTo (46, .if_icmp .ne 13, 3) (pgm 26 rfl)) rfl (fun _ => ?_) (fun _ => ?_)
      · exact so_pick X [0, 1] rfl (hj59 h4)
      · refine so_aload_n (i := 0) X 0 (dkX6_settleDownTo (49, .aload_n 0, 1) (pgm 27 rfl)) rfl rfl ?_
        refine so_dup X (dkX6_settleDownTo (50, .dup, 1) (pgm 28 rfl)) rfl ?_
        refine sf_getI X ff_6_4 lk_292 hk (dkX6_settleDownTo (51, .getfield 153, 3) (pgm 29 rfl)) ?_
        refine so_iconst (v := (1 : Int32)) X (dkX6_settleDownTo (54, .iconst 1, 1) (pgm 30 rfl)) ic_1 ?_
        refine so_isub X (dkX6_settleDownTo (55, .isub, 1) (pgm 31 rfl)) ?_
        refine sf_putI X ff_6_4 ft_6 rfl lk_292 hk rfl rfl (dkX6_settleDownTo (56, .putfield 153, 3) (pgm 32 rfl)) (fun h10 => ?_)
        exact so_pick X [0, 1] rfl (hj59 h10)
def pgX7_turnOf : List (Nat × Instr × Nat) := [(0, .iload_n 2, 1), (1, .ifCond .ne 11, 3), (4, .aload_n 0, 1), (5, .getfield 15, 3), (8, .iload_n 1, 1), (9, .iaload, 1), (10, .ineg, 1), (11, .ireturn, 1), (12, .iload_n 2, 1), (13, .iconst 1, 1), (14, .if_icmp .ne 11, 3), (17, .aload_n 0, 1), (18, .getfield 9, 3), (21, .iload_n 1, 1), (22, .iaload, 1), (23, .ineg, 1), (24, .ireturn, 1), (25, .iload_n 2, 1), (26, .iconst 2, 1), (27, .if_icmp .ne 17, 3), (30, .aload_n 0, 1), (31, .aload_n 0, 1), (32, .getfield 18, 3), (35, .getfield 75, 3), (38, .iload_n 1, 1), (39, .iaload, 1), (40, .invokevirtual 78, 3), (43, .ireturn, 1), (44, .aload_n 0, 1), (45, .getfield 26, 3), (48, .iconst 1, 1), (49, .iload_n 1, 1), (50, .ishl, 1), (51, .invokevirtual 67, 3), (54, .istore_n 3, 1), (55, .iload_n 3, 1), (56, .iconst (-1), 1), (57, .if_icmp .ne 8, 3), (60, .bipush 13, 2), (62, .goto 7, 3), (65, .iload_n 3, 1), (66, .invokestatic 81, 3), (69, .ireturn, 1)]
theorem dkX7_turnOf : ∀ q ∈ pgX7_turnOf, decode cX7_turnOf q.1 = .ok q.2 := by decide +kernel
def f_X7_turnOf (this : Nat) (a1 : Int32) (a2 : Int32) (h0 : PH) : Option (Int32 × PH) :=
  if a2 = 0 then (ldI h0 (rt this 4) 10 a1 (fun (x12 : Int32) => some ((-x12), h0))) else (if a2 = (1 : Int32) then (ldI h0 (rt this 3) 10 a1 (fun (x11 : Int32) => some ((-x11), h0))) else (if a2 = (2 : Int32) then (ldI h0 (rt (rt this 0) 12) 10 a1 (fun (x8 : Int32) => cb (f_X7_openOf this x8 h0) (fun (r9 : Int32) (h10 : PH) => some (r9, h10)))) else (cb (f_X2_leastPlan (rt this 2) ((1 : Int32) <<< (a1 &&& 31)) h0) (fun (r1 : Int32) (h2 : PH) => lt r1 (fun (x3 : Int32) => lt (fun (t4 : Int32) (h5 : PH) => some (t4, h5)) (fun (j69 : Int32 → PH → Option (Int32 × PH)) => if x3 = (-1 : Int32) then (j69 (13 : Int32) h2) else (cb (f_J6_bitCount_0f7a4 x3 h2) (fun (r6 : Int32) (h7 : PH) => j69 r6 h7))))))))
set_option maxRecDepth 100000 in
set_option maxHeartbeats 4000000 in
theorem ct_X7_turnOf (l : Launch) (this : Nat) (a1 : Int32) (a2 : Int32) (h0 : PH) (hk : (kd this).1 = 7) : CT mkI l yX7_turnOf cX7_turnOf 4 (some .int) (rmd 1) [.ref this, .int a1, .int a2] h0 (f_X7_turnOf this a1 a2 h0) := by
  refine ct_of (by decide) (Nat.le_of_ble_eq_true rfl) ?_
  intro p e s m args below meth c D cA ad A X hr hlk
  have X : Cx p s m args c RX7 cX7_turnOf 4 D cA ad A := X
  unfold f_X7_turnOf
  refine so_pick (L' := [(0, .ref this), (1, .int a1), (2, .int a2)]) X [0, 1, 2] rfl ?_
  refine so_iload_n (i := 2) X 2 (dkX7_turnOf (0, .iload_n 2, 1) (pgm 0 rfl)) rfl rfl ?_
  refine so_if_ne (tgt := 12) X (dkX7_turnOf (1, .ifCond .ne 11, 3) (pgm 1 rfl)) rfl (fun _ => ?_) (fun _ => ?_)
  · refine so_iload_n (i := 2) X 2 (dkX7_turnOf (12, .iload_n 2, 1) (pgm 8 rfl)) rfl rfl ?_
    refine so_iconst (v := (1 : Int32)) X (dkX7_turnOf (13, .iconst 1, 1) (pgm 9 rfl)) ic_1 ?_
    refine so_icmp_ne (tgt := 25) X (dkX7_turnOf (14, .if_icmp .ne 11, 3) (pgm 10 rfl)) rfl (fun _ => ?_) (fun _ => ?_)
    · refine so_iload_n (i := 2) X 2 (dkX7_turnOf (25, .iload_n 2, 1) (pgm 17 rfl)) rfl rfl ?_
      refine so_iconst (v := (2 : Int32)) X (dkX7_turnOf (26, .iconst 2, 1) (pgm 18 rfl)) ic_2 ?_
      refine so_icmp_ne (tgt := 44) X (dkX7_turnOf (27, .if_icmp .ne 17, 3) (pgm 19 rfl)) rfl (fun _ => ?_) (fun _ => ?_)
      · refine so_aload_n (i := 0) X 0 (dkX7_turnOf (44, .aload_n 0, 1) (pgm 28 rfl)) rfl rfl ?_
        refine sf_getR X ff_7_2 lk_426 hk (dkX7_turnOf (45, .getfield 26, 3) (pgm 29 rfl)) ?_
        refine so_iconst (v := (1 : Int32)) X (dkX7_turnOf (48, .iconst 1, 1) (pgm 30 rfl)) ic_1 ?_
        refine so_iload_n (i := 1) X 1 (dkX7_turnOf (49, .iload_n 1, 1) (pgm 31 rfl)) rfl rfl ?_
        refine so_ishl X (dkX7_turnOf (50, .ishl, 1) (pgm 32 rfl)) ?_
        refine so_callV (n := 1) (As := [.int ((1 : Int32) <<< (a1 &&& 31))]) X (ct_X2_leastPlan l (rt this 2) ((1 : Int32) <<< (a1 &&& 31)) h0 (fo (rk_7_2 this hk))) (fo (rk_7_2 this hk)) (by decide) rfl lk_735 lk_736 lk_737 lk_128 lk_738 (by decide +kernel) rfl rfl rfl (rm_ok (by omega) (by decide)) ⟨Nat.zero_le _, Nat.zero_le _⟩ (Nat.le_of_ble_eq_true rfl) (dkX7_turnOf (51, .invokevirtual 67, 3) (pgm 33 rfl)) (fun r1 h2 => ?_) rfl
        refine so_istore_n (i := 3) X (dkX7_turnOf (54, .istore_n 3, 1) (pgm 34 rfl)) rfl (by decide) (Lf := fun x3 => [(3, .int x3), (0, .ref this), (1, .int a1), (2, .int a2)]) (fun _ => rfl) (fun x3 => ?_)
        refine so_iload_n (i := 3) X 0 (dkX7_turnOf (55, .iload_n 3, 1) (pgm 35 rfl)) rfl rfl ?_
        refine so_iconst (v := (-1 : Int32)) X (dkX7_turnOf (56, .iconst (-1), 1) (pgm 36 rfl)) ic_m1 ?_
        refine so_join (jf := fun (t4 : Int32) (h5 : PH) => some (t4, h5)) (fun (j : Int32 → PH → Option (Int32 × PH)) => ∀ (t4 : Int32) (h5 : PH), SWo (QM mkI below args s D cA ad A) p l e (rmd 1) s m args below meth c 0 0 4 D cA ad A 69 [] [.int t4] h5 (j t4 h5)) ?_ (fun j69 hj69 => ?_)
        · intro t4 h5
          exact so_iret X hr hlk (dkX7_turnOf (69, .ireturn, 1) (pgm 42 rfl))
        refine so_icmp_ne (tgt := 65) X (dkX7_turnOf (57, .if_icmp .ne 8, 3) (pgm 37 rfl)) rfl (fun _ => ?_) (fun _ => ?_)
        · refine so_iload_n (i := 3) X 0 (dkX7_turnOf (65, .iload_n 3, 1) (pgm 40 rfl)) rfl rfl ?_
          refine so_callS (n := 1) (As := [.int x3]) X (ct_J6_bitCount_0f7a4 l x3 h2 ) lk_739 lk_635 lk_147 lk_636 (by decide +kernel) rfl rfl rfl (rm_ok (by omega) (by decide)) ⟨Nat.zero_le _, Nat.zero_le _⟩ (Nat.le_of_ble_eq_true rfl) (dkX7_turnOf (66, .invokestatic 81, 3) (pgm 41 rfl)) (fun r6 h7 => ?_) rfl
          exact so_pick X [] rfl (hj69 r6 h7)
        · refine so_bipush (v := (13 : Int32)) X (dkX7_turnOf (60, .bipush 13, 2) (pgm 38 rfl)) bp_13 ?_
          refine so_goto (tgt := 69) X (dkX7_turnOf (62, .goto 7, 3) (pgm 39 rfl)) rfl ?_
          exact so_pick X [] rfl (hj69 (13 : Int32) h2)
      · refine so_aload_n (i := 0) X 0 (dkX7_turnOf (30, .aload_n 0, 1) (pgm 20 rfl)) rfl rfl ?_
        refine so_aload_n (i := 0) X 0 (dkX7_turnOf (31, .aload_n 0, 1) (pgm 21 rfl)) rfl rfl ?_
        refine sf_getR X ff_7_0 lk_424 hk (dkX7_turnOf (32, .getfield 18, 3) (pgm 22 rfl)) ?_
        refine sf_getR X ff_8_12 lk_208 (fo (rk_7_0 this hk)) (dkX7_turnOf (35, .getfield 75, 3) (pgm 23 rfl)) ?_
        refine so_iload_n (i := 1) X 1 (dkX7_turnOf (38, .iload_n 1, 1) (pgm 24 rfl)) rfl rfl ?_
        refine so_iald X (rk_8_12 (rt this 0) (fo (rk_7_0 this hk))) (dkX7_turnOf (39, .iaload, 1) (pgm 25 rfl)) (fun x8 => ?_)
        refine so_callV (n := 1) (As := [.int x8]) X (ct_X7_openOf l this x8 h0 hk) hk (by decide) rfl lk_731 lk_733 lk_10 lk_129 lk_734 (by decide +kernel) rfl rfl rfl (rm_ok (by omega) (by decide)) ⟨Nat.zero_le _, Nat.zero_le _⟩ (Nat.le_of_ble_eq_true rfl) (dkX7_turnOf (40, .invokevirtual 78, 3) (pgm 26 rfl)) (fun r9 h10 => ?_) rfl
        exact so_iret X hr hlk (dkX7_turnOf (43, .ireturn, 1) (pgm 27 rfl))
    · refine so_aload_n (i := 0) X 0 (dkX7_turnOf (17, .aload_n 0, 1) (pgm 11 rfl)) rfl rfl ?_
      refine sf_getR X ff_7_3 lk_427 hk (dkX7_turnOf (18, .getfield 9, 3) (pgm 12 rfl)) ?_
      refine so_iload_n (i := 1) X 1 (dkX7_turnOf (21, .iload_n 1, 1) (pgm 13 rfl)) rfl rfl ?_
      refine so_iald X (rk_7_3 this hk) (dkX7_turnOf (22, .iaload, 1) (pgm 14 rfl)) (fun x11 => ?_)
      refine so_ineg X (dkX7_turnOf (23, .ineg, 1) (pgm 15 rfl)) ?_
      exact so_iret X hr hlk (dkX7_turnOf (24, .ireturn, 1) (pgm 16 rfl))
  · refine so_aload_n (i := 0) X 0 (dkX7_turnOf (4, .aload_n 0, 1) (pgm 2 rfl)) rfl rfl ?_
    refine sf_getR X ff_7_4 lk_428 hk (dkX7_turnOf (5, .getfield 15, 3) (pgm 3 rfl)) ?_
    refine so_iload_n (i := 1) X 1 (dkX7_turnOf (8, .iload_n 1, 1) (pgm 4 rfl)) rfl rfl ?_
    refine so_iald X (rk_7_4 this hk) (dkX7_turnOf (9, .iaload, 1) (pgm 5 rfl)) (fun x12 => ?_)
    refine so_ineg X (dkX7_turnOf (10, .ineg, 1) (pgm 6 rfl)) ?_
    exact so_iret X hr hlk (dkX7_turnOf (11, .ireturn, 1) (pgm 7 rfl))
def pgX8_clear : List (Nat × Instr × Nat) := [(0, .aload_n 0, 1), (1, .iconst 0, 1), (2, .putfield 28, 3), (5, .aload_n 0, 1), (6, .iconst 0, 1), (7, .putfield 31, 3), (10, .aload_n 0, 1), (11, .iconst 0, 1), (12, .putfield 34, 3), (15, .aload_n 0, 1), (16, .iconst 3, 1), (17, .putfield 9, 3), (20, .aload_n 0, 1), (21, .iconst 0, 1), (22, .putfield 37, 3), (25, .aload_n 0, 1), (26, .iconst 0, 1), (27, .putfield 40, 3), (30, .aload_n 0, 1), (31, .iconst 0, 1), (32, .putfield 43, 3), (35, .aload_n 0, 1), (36, .iconst 0, 1), (37, .putfield 46, 3), (40, .aload_n 0, 1), (41, .invokevirtual 49, 3), (44, .return_, 1)]
theorem dkX8_clear : ∀ q ∈ pgX8_clear, decode cX8_clear q.1 = .ok q.2 := by decide +kernel
def f_X8_clear (this : Nat) (h0 : PH) : Option (Unit × PH) :=
  lt (pI h0 this 0 (0 : Int32)) (fun (h1 : PH) => lt (pI h1 this 1 (0 : Int32)) (fun (h2 : PH) => lt (pI h2 this 2 (0 : Int32)) (fun (h3 : PH) => lt (pI h3 this 3 (3 : Int32)) (fun (h4 : PH) => lt (pI h4 this 4 (0 : Int32)) (fun (h5 : PH) => lt (pI h5 this 5 (0 : Int32)) (fun (h6 : PH) => lt (pI h6 this 6 (0 : Int32)) (fun (h7 : PH) => lt (pI h7 this 9 (0 : Int32)) (fun (h8 : PH) => cb (f_X8_measure this h8) (fun (r9 : Unit) (h10 : PH) => some ((), h10))))))))))
set_option maxRecDepth 100000 in
set_option maxHeartbeats 4000000 in
theorem ct_X8_clear (l : Launch) (this : Nat) (h0 : PH) (hk : (kd this).1 = 8) : CT mkV l yX8_clear cX8_clear 1 none (rmd 1) [.ref this] h0 (f_X8_clear this h0) := by
  refine ct_of (by decide) (Nat.le_of_ble_eq_true rfl) ?_
  intro p e s m args below meth c D cA ad A X hr hlk
  have X : Cx p s m args c RX8 cX8_clear 1 D cA ad A := X
  unfold f_X8_clear
  refine so_pick (L' := [(0, .ref this)]) X [0] rfl ?_
  refine so_aload_n (i := 0) X 0 (dkX8_clear (0, .aload_n 0, 1) (pgm 0 rfl)) rfl rfl ?_
  refine so_iconst (v := (0 : Int32)) X (dkX8_clear (1, .iconst 0, 1) (pgm 1 rfl)) ic_0 ?_
  refine sf_putI X ff_8_0 ft_8 rfl lk_164 hk rfl rfl (dkX8_clear (2, .putfield 28, 3) (pgm 2 rfl)) (fun h1 => ?_)
  refine so_aload_n (i := 0) X 0 (dkX8_clear (5, .aload_n 0, 1) (pgm 3 rfl)) rfl rfl ?_
  refine so_iconst (v := (0 : Int32)) X (dkX8_clear (6, .iconst 0, 1) (pgm 4 rfl)) ic_0 ?_
  refine sf_putI X ff_8_1 ft_8 rfl lk_167 hk rfl rfl (dkX8_clear (7, .putfield 31, 3) (pgm 5 rfl)) (fun h2 => ?_)
  refine so_aload_n (i := 0) X 0 (dkX8_clear (10, .aload_n 0, 1) (pgm 6 rfl)) rfl rfl ?_
  refine so_iconst (v := (0 : Int32)) X (dkX8_clear (11, .iconst 0, 1) (pgm 7 rfl)) ic_0 ?_
  refine sf_putI X ff_8_2 ft_8 rfl lk_170 hk rfl rfl (dkX8_clear (12, .putfield 34, 3) (pgm 8 rfl)) (fun h3 => ?_)
  refine so_aload_n (i := 0) X 0 (dkX8_clear (15, .aload_n 0, 1) (pgm 9 rfl)) rfl rfl ?_
  refine so_iconst (v := (3 : Int32)) X (dkX8_clear (16, .iconst 3, 1) (pgm 10 rfl)) ic_3 ?_
  refine sf_putI X ff_8_3 ft_8 rfl lk_173 hk rfl rfl (dkX8_clear (17, .putfield 9, 3) (pgm 11 rfl)) (fun h4 => ?_)
  refine so_aload_n (i := 0) X 0 (dkX8_clear (20, .aload_n 0, 1) (pgm 12 rfl)) rfl rfl ?_
  refine so_iconst (v := (0 : Int32)) X (dkX8_clear (21, .iconst 0, 1) (pgm 13 rfl)) ic_0 ?_
  refine sf_putI X ff_8_4 ft_8 rfl lk_177 hk rfl rfl (dkX8_clear (22, .putfield 37, 3) (pgm 14 rfl)) (fun h5 => ?_)
  refine so_aload_n (i := 0) X 0 (dkX8_clear (25, .aload_n 0, 1) (pgm 15 rfl)) rfl rfl ?_
  refine so_iconst (v := (0 : Int32)) X (dkX8_clear (26, .iconst 0, 1) (pgm 16 rfl)) ic_0 ?_
  refine sf_putI X ff_8_5 ft_8 rfl lk_180 hk rfl rfl (dkX8_clear (27, .putfield 40, 3) (pgm 17 rfl)) (fun h6 => ?_)
  refine so_aload_n (i := 0) X 0 (dkX8_clear (30, .aload_n 0, 1) (pgm 18 rfl)) rfl rfl ?_
  refine so_iconst (v := (0 : Int32)) X (dkX8_clear (31, .iconst 0, 1) (pgm 19 rfl)) ic_0 ?_
  refine sf_putI X ff_8_6 ft_8 rfl lk_187 hk rfl rfl (dkX8_clear (32, .putfield 43, 3) (pgm 20 rfl)) (fun h7 => ?_)
  refine so_aload_n (i := 0) X 0 (dkX8_clear (35, .aload_n 0, 1) (pgm 21 rfl)) rfl rfl ?_
  refine so_iconst (v := (0 : Int32)) X (dkX8_clear (36, .iconst 0, 1) (pgm 22 rfl)) ic_0 ?_
  refine sf_putI X ff_8_9 ft_8 rfl lk_203 hk rfl rfl (dkX8_clear (37, .putfield 46, 3) (pgm 23 rfl)) (fun h8 => ?_)
  refine so_aload_n (i := 0) X 0 (dkX8_clear (40, .aload_n 0, 1) (pgm 24 rfl)) rfl rfl ?_
  refine so_callV (n := 0) (As := []) X (ct_X8_measure l this h8 hk) hk (by decide) rfl lk_855 lk_856 lk_857 lk_122 lk_858 (by decide +kernel) rfl rfl rfl (rm_ok (by omega) (by decide)) ⟨Nat.zero_le _, Nat.zero_le _⟩ (Nat.le_of_ble_eq_true rfl) (dkX8_clear (41, .invokevirtual 49, 3) (pgm 25 rfl)) (fun r9 h10 => ?_) rfl
  exact so_vret X hr hlk (dkX8_clear (44, .return_, 1) (pgm 26 rfl))
def pgX9_advance : List (Nat × Instr × Nat) := [(0, .aload_n 0, 1), (1, .aload_n 0, 1), (2, .getfield 17, 3), (5, .putfield 23, 3), (8, .aload_n 0, 1), (9, .getfield 23, 3), (12, .aload_n 0, 1), (13, .getfield 13, 3), (16, .if_icmp .ge 44, 3), (19, .aload_n 0, 1), (20, .getfield 7, 3), (23, .aload_n 0, 1), (24, .getfield 23, 3), (27, .baload, 1), (28, .bipush 10, 2), (30, .if_icmp .eq 17, 3), (33, .aload_n 0, 1), (34, .getfield 7, 3), (37, .aload_n 0, 1), (38, .getfield 23, 3), (41, .baload, 1), (42, .bipush 32, 2), (44, .if_icmp .ne 16, 3), (47, .aload_n 0, 1), (48, .dup, 1), (49, .getfield 23, 3), (52, .iconst 1, 1), (53, .iadd, 1), (54, .putfield 23, 3), (57, .goto (-49), 3), (60, .aload_n 0, 1), (61, .aload_n 0, 1), (62, .getfield 23, 3), (65, .iconst 1, 1), (66, .iadd, 1), (67, .putfield 17, 3), (70, .aload_n 0, 1), (71, .getfield 23, 3), (74, .aload_n 0, 1), (75, .getfield 13, 3), (78, .if_icmp .lt 19, 3), (81, .aload_n 0, 1), (82, .iconst 0, 1), (83, .putfield 26, 3), (86, .aload_n 0, 1), (87, .aload_n 0, 1), (88, .getfield 23, 3), (91, .putfield 17, 3), (94, .goto 147, 3), (97, .aload_n 0, 1), (98, .getfield 7, 3), (101, .aload_n 0, 1), (102, .getfield 23, 3), (105, .baload, 1), (106, .bipush 97, 2), (108, .if_icmp .lt 37, 3), (111, .aload_n 0, 1), (112, .getfield 7, 3), (115, .aload_n 0, 1), (116, .getfield 23, 3), (119, .baload, 1), (120, .bipush 122, 2), (122, .if_icmp .gt 23, 3), (125, .aload_n 0, 1), (126, .iconst 2, 1), (127, .putfield 26, 3), (130, .aload_n 0, 1), (131, .aload_n 0, 1), (132, .bipush 97, 2), (134, .bipush 122, 2), (136, .invokevirtual 29, 3), (139, .putfield 17, 3), (142, .goto 99, 3), (145, .aload_n 0, 1), (146, .getfield 7, 3), (149, .aload_n 0, 1), (150, .getfield 23, 3), (153, .baload, 1), (154, .bipush 48, 2), (156, .if_icmp .lt 54, 3), (159, .aload_n 0, 1), (160, .getfield 7, 3), (163, .aload_n 0, 1), (164, .getfield 23, 3), (167, .baload, 1), (168, .bipush 57, 2), (170, .if_icmp .gt 40, 3), (173, .aload_n 0, 1), (174, .aload_n 0, 1), (175, .bipush 48, 2), (177, .bipush 57, 2), (179, .invokevirtual 29, 3), (182, .putfield 17, 3), (185, .aload_n 0, 1), (186, .aload_n 0, 1), (187, .getfield 17, 3), (190, .aload_n 0, 1), (191, .getfield 23, 3), (194, .isub, 1), (195, .iconst 3, 1), (196, .if_icmp .gt 7, 3), (199, .iconst 3, 1), (200, .goto 4, 3), (203, .iconst 1, 1), (204, .putfield 26, 3), (207, .goto 34, 3), (210, .aload_n 0, 1), (211, .ldc 33, 2), (213, .aload_n 0, 1), (214, .getfield 7, 3), (217, .aload_n 0, 1), (218, .getfield 23, 3), (221, .baload, 1), (222, .sipush 255, 3), (225, .iand, 1), (226, .i2c, 1), (227, .invokevirtual 35, 3), (230, .ifCond .lt 7, 3), (233, .iconst 4, 1), (234, .goto 4, 3), (237, .iconst 1, 1), (238, .putfield 26, 3), (241, .return_, 1)]
theorem dkX9_advance : ∀ q ∈ pgX9_advance, decode cX9_advance q.1 = .ok q.2 := by decide +kernel
def b_X9_advance_8 (this : Nat) (j60 : PH → Option (Unit × PH)) (rec8 : (Unit) → PH → Option (Unit × PH)) (s8 : Unit) (hh8 : PH) : Option (Unit × PH) :=
  if (hh8.1 this 1) ≤ (hh8.1 this 3) then (j60 hh8) else (ldI hh8 (rt this 0) 900 (hh8.1 this 3) (fun (x29 : Int32) => lt (fun (h30 : PH) => lt (pI h30 this 3 ((h30.1 this 3) + (1 : Int32))) (fun (h31 : PH) => rec8 () h31)) (fun (j47 : PH → Option (Unit × PH)) => if x29 = (10 : Int32) then (j47 hh8) else (ldI hh8 (rt this 0) 900 (hh8.1 this 3) (fun (x32 : Int32) => if x32 = (32 : Int32) then (j47 hh8) else (j60 hh8))))))
def f_X9_advance (this : Nat) (h0 : PH) : Option (Unit × PH) :=
  lt (pI h0 this 3 (h0.1 this 2)) (fun (h1 : PH) => lt (fun (h2 : PH) => lt (pI h2 this 2 ((h2.1 this 3) + (1 : Int32))) (fun (h3 : PH) => lt (fun (h4 : PH) => some ((), h4)) (fun (j241 : PH → Option (Unit × PH)) => if (h3.1 this 3) < (h3.1 this 1) then (ldI h3 (rt this 0) 900 (h3.1 this 3) (fun (x5 : Int32) => lt (fun (h6 : PH) => ldI h6 (rt this 0) 900 (h6.1 this 3) (fun (x7 : Int32) => lt (fun (h8 : PH) => ldI h8 (rt this 0) 900 (h8.1 this 3) (fun (x9 : Int32) => cb (f_J0_indexOf_0f7a4 1 (((x9 &&& (255 : Int32)).toUInt32 % 65536).toInt32) h8) (fun (r10 : Int32) (h11 : PH) => lt (fun (t12 : Int32) (h13 : PH) => lt (pI h13 this 4 t12) (fun (h14 : PH) => j241 h14)) (fun (j238 : Int32 → PH → Option (Unit × PH)) => if r10 < 0 then (j238 (1 : Int32) h11) else (j238 (4 : Int32) h11))))) (fun (j210 : PH → Option (Unit × PH)) => if x7 < (48 : Int32) then (j210 h6) else (ldI h6 (rt this 0) 900 (h6.1 this 3) (fun (x15 : Int32) => if (57 : Int32) < x15 then (j210 h6) else (cb (f_X9_runEnd this (48 : Int32) (57 : Int32) h6) (fun (r16 : Int32) (h17 : PH) => lt (pI h17 this 2 r16) (fun (h18 : PH) => lt (fun (t19 : Int32) (h20 : PH) => lt (pI h20 this 4 t19) (fun (h21 : PH) => j241 h21)) (fun (j204 : Int32 → PH → Option (Unit × PH)) => if (3 : Int32) < ((h18.1 this 2) - (h18.1 this 3)) then (j204 (1 : Int32) h18) else (j204 (3 : Int32) h18)))))))))) (fun (j145 : PH → Option (Unit × PH)) => if x5 < (97 : Int32) then (j145 h3) else (ldI h3 (rt this 0) 900 (h3.1 this 3) (fun (x22 : Int32) => if (122 : Int32) < x22 then (j145 h3) else (lt (pI h3 this 4 (2 : Int32)) (fun (h23 : PH) => cb (f_X9_runEnd this (97 : Int32) (122 : Int32) h23) (fun (r24 : Int32) (h25 : PH) => lt (pI h25 this 2 r24) (fun (h26 : PH) => j241 h26))))))))) else (lt (pI h3 this 4 (0 : Int32)) (fun (h27 : PH) => lt (pI h27 this 2 (h27.1 this 3)) (fun (h28 : PH) => j241 h28)))))) (fun (j60 : PH → Option (Unit × PH)) => lp (b_X9_advance_8 this j60) FU () h1))
set_option maxRecDepth 100000 in
set_option maxHeartbeats 4000000 in
theorem ct_X9_advance (l : Launch) (this : Nat) (h0 : PH) (hk : (kd this).1 = 9) : CT mkV l yX9_advance cX9_advance 1 none (rmd 4) [.ref this] h0 (f_X9_advance this h0) := by
  refine ct_of (by decide) (Nat.le_of_ble_eq_true rfl) ?_
  intro p e s m args below meth c D cA ad A X hr hlk
  have X : Cx p s m args c RX9 cX9_advance 1 D cA ad A := X
  unfold f_X9_advance
  refine so_pick (L' := [(0, .ref this)]) X [0] rfl ?_
  refine so_aload_n (i := 0) X 0 (dkX9_advance (0, .aload_n 0, 1) (pgm 0 rfl)) rfl rfl ?_
  refine so_aload_n (i := 0) X 0 (dkX9_advance (1, .aload_n 0, 1) (pgm 1 rfl)) rfl rfl ?_
  refine sf_getI X ff_9_2 lk_272 hk (dkX9_advance (2, .getfield 17, 3) (pgm 2 rfl)) ?_
  refine sf_putI X ff_9_3 ft_9 rfl lk_273 hk rfl rfl (dkX9_advance (5, .putfield 23, 3) (pgm 3 rfl)) (fun h1 => ?_)
  refine so_join (jf := fun (h2 : PH) => lt (pI h2 this 2 ((h2.1 this 3) + (1 : Int32))) (fun (h3 : PH) => lt (fun (h4 : PH) => some ((), h4)) (fun (j241 : PH → Option (Unit × PH)) => if (h3.1 this 3) < (h3.1 this 1) then (ldI h3 (rt this 0) 900 (h3.1 this 3) (fun (x5 : Int32) => lt (fun (h6 : PH) => ldI h6 (rt this 0) 900 (h6.1 this 3) (fun (x7 : Int32) => lt (fun (h8 : PH) => ldI h8 (rt this 0) 900 (h8.1 this 3) (fun (x9 : Int32) => cb (f_J0_indexOf_0f7a4 1 (((x9 &&& (255 : Int32)).toUInt32 % 65536).toInt32) h8) (fun (r10 : Int32) (h11 : PH) => lt (fun (t12 : Int32) (h13 : PH) => lt (pI h13 this 4 t12) (fun (h14 : PH) => j241 h14)) (fun (j238 : Int32 → PH → Option (Unit × PH)) => if r10 < 0 then (j238 (1 : Int32) h11) else (j238 (4 : Int32) h11))))) (fun (j210 : PH → Option (Unit × PH)) => if x7 < (48 : Int32) then (j210 h6) else (ldI h6 (rt this 0) 900 (h6.1 this 3) (fun (x15 : Int32) => if (57 : Int32) < x15 then (j210 h6) else (cb (f_X9_runEnd this (48 : Int32) (57 : Int32) h6) (fun (r16 : Int32) (h17 : PH) => lt (pI h17 this 2 r16) (fun (h18 : PH) => lt (fun (t19 : Int32) (h20 : PH) => lt (pI h20 this 4 t19) (fun (h21 : PH) => j241 h21)) (fun (j204 : Int32 → PH → Option (Unit × PH)) => if (3 : Int32) < ((h18.1 this 2) - (h18.1 this 3)) then (j204 (1 : Int32) h18) else (j204 (3 : Int32) h18)))))))))) (fun (j145 : PH → Option (Unit × PH)) => if x5 < (97 : Int32) then (j145 h3) else (ldI h3 (rt this 0) 900 (h3.1 this 3) (fun (x22 : Int32) => if (122 : Int32) < x22 then (j145 h3) else (lt (pI h3 this 4 (2 : Int32)) (fun (h23 : PH) => cb (f_X9_runEnd this (97 : Int32) (122 : Int32) h23) (fun (r24 : Int32) (h25 : PH) => lt (pI h25 this 2 r24) (fun (h26 : PH) => j241 h26))))))))) else (lt (pI h3 this 4 (0 : Int32)) (fun (h27 : PH) => lt (pI h27 this 2 (h27.1 this 3)) (fun (h28 : PH) => j241 h28)))))) (fun (j : PH → Option (Unit × PH)) => ∀  (h2 : PH), SWo (QM mkV below args s D cA ad A) p l e (rmd 4) s m args below meth c 0 0 1 D cA ad A 60 [(0, .ref this)] [] h2 (j h2)) ?_ (fun j60 hj60 => ?_)
  · intro h2
    refine so_aload_n (i := 0) X 0 (dkX9_advance (60, .aload_n 0, 1) (pgm 30 rfl)) rfl rfl ?_
    refine so_aload_n (i := 0) X 0 (dkX9_advance (61, .aload_n 0, 1) (pgm 31 rfl)) rfl rfl ?_
    refine sf_getI X ff_9_3 lk_273 hk (dkX9_advance (62, .getfield 23, 3) (pgm 32 rfl)) ?_
    refine so_iconst (v := (1 : Int32)) X (dkX9_advance (65, .iconst 1, 1) (pgm 33 rfl)) ic_1 ?_
    refine so_iadd X (dkX9_advance (66, .iadd, 1) (pgm 34 rfl)) ?_
    refine sf_putI X ff_9_2 ft_9 rfl lk_272 hk rfl rfl (dkX9_advance (67, .putfield 17, 3) (pgm 35 rfl)) (fun h3 => ?_)
    refine so_aload_n (i := 0) X 0 (dkX9_advance (70, .aload_n 0, 1) (pgm 36 rfl)) rfl rfl ?_
    refine sf_getI X ff_9_3 lk_273 hk (dkX9_advance (71, .getfield 23, 3) (pgm 37 rfl)) ?_
    refine so_aload_n (i := 0) X 0 (dkX9_advance (74, .aload_n 0, 1) (pgm 38 rfl)) rfl rfl ?_
    refine sf_getI X ff_9_1 lk_271 hk (dkX9_advance (75, .getfield 13, 3) (pgm 39 rfl)) ?_
    refine so_join (jf := fun (h4 : PH) => some ((), h4)) (fun (j : PH → Option (Unit × PH)) => ∀  (h4 : PH), SWo (QM mkV below args s D cA ad A) p l e (rmd 4) s m args below meth c 0 0 1 D cA ad A 241 [] [] h4 (j h4)) ?_ (fun j241 hj241 => ?_)
    · intro h4
      exact so_vret X hr hlk (dkX9_advance (241, .return_, 1) (pgm 122 rfl))
    refine so_icmp_lt (tgt := 97) X (dkX9_advance (78, .if_icmp .lt 19, 3) (pgm 40 rfl)) rfl (fun _ => ?_) (fun _ => ?_)
    · refine so_aload_n (i := 0) X 0 (dkX9_advance (97, .aload_n 0, 1) (pgm 49 rfl)) rfl rfl ?_
      refine sf_getR X ff_9_0 lk_270 hk (dkX9_advance (98, .getfield 7, 3) (pgm 50 rfl)) ?_
      refine so_aload_n (i := 0) X 0 (dkX9_advance (101, .aload_n 0, 1) (pgm 51 rfl)) rfl rfl ?_
      refine sf_getI X ff_9_3 lk_273 hk (dkX9_advance (102, .getfield 23, 3) (pgm 52 rfl)) ?_
      refine so_bald X (rk_9_0 this hk) (dkX9_advance (105, .baload, 1) (pgm 53 rfl)) (fun x5 => ?_)
      refine so_bipush (v := (97 : Int32)) X (dkX9_advance (106, .bipush 97, 2) (pgm 54 rfl)) bp_97 ?_
      refine so_join (jf := fun (h6 : PH) => ldI h6 (rt this 0) 900 (h6.1 this 3) (fun (x7 : Int32) => lt (fun (h8 : PH) => ldI h8 (rt this 0) 900 (h8.1 this 3) (fun (x9 : Int32) => cb (f_J0_indexOf_0f7a4 1 (((x9 &&& (255 : Int32)).toUInt32 % 65536).toInt32) h8) (fun (r10 : Int32) (h11 : PH) => lt (fun (t12 : Int32) (h13 : PH) => lt (pI h13 this 4 t12) (fun (h14 : PH) => j241 h14)) (fun (j238 : Int32 → PH → Option (Unit × PH)) => if r10 < 0 then (j238 (1 : Int32) h11) else (j238 (4 : Int32) h11))))) (fun (j210 : PH → Option (Unit × PH)) => if x7 < (48 : Int32) then (j210 h6) else (ldI h6 (rt this 0) 900 (h6.1 this 3) (fun (x15 : Int32) => if (57 : Int32) < x15 then (j210 h6) else (cb (f_X9_runEnd this (48 : Int32) (57 : Int32) h6) (fun (r16 : Int32) (h17 : PH) => lt (pI h17 this 2 r16) (fun (h18 : PH) => lt (fun (t19 : Int32) (h20 : PH) => lt (pI h20 this 4 t19) (fun (h21 : PH) => j241 h21)) (fun (j204 : Int32 → PH → Option (Unit × PH)) => if (3 : Int32) < ((h18.1 this 2) - (h18.1 this 3)) then (j204 (1 : Int32) h18) else (j204 (3 : Int32) h18)))))))))) (fun (j : PH → Option (Unit × PH)) => ∀  (h6 : PH), SWo (QM mkV below args s D cA ad A) p l e (rmd 4) s m args below meth c 0 0 1 D cA ad A 145 [(0, .ref this)] [] h6 (j h6)) ?_ (fun j145 hj145 => ?_)
      · intro h6
        refine so_aload_n (i := 0) X 0 (dkX9_advance (145, .aload_n 0, 1) (pgm 73 rfl)) rfl rfl ?_
        refine sf_getR X ff_9_0 lk_270 hk (dkX9_advance (146, .getfield 7, 3) (pgm 74 rfl)) ?_
        refine so_aload_n (i := 0) X 0 (dkX9_advance (149, .aload_n 0, 1) (pgm 75 rfl)) rfl rfl ?_
        refine sf_getI X ff_9_3 lk_273 hk (dkX9_advance (150, .getfield 23, 3) (pgm 76 rfl)) ?_
        refine so_bald X (rk_9_0 this hk) (dkX9_advance (153, .baload, 1) (pgm 77 rfl)) (fun x7 => ?_)
        refine so_bipush (v := (48 : Int32)) X (dkX9_advance (154, .bipush 48, 2) (pgm 78 rfl)) bp_48 ?_
        refine so_join (jf := fun (h8 : PH) => ldI h8 (rt this 0) 900 (h8.1 this 3) (fun (x9 : Int32) => cb (f_J0_indexOf_0f7a4 1 (((x9 &&& (255 : Int32)).toUInt32 % 65536).toInt32) h8) (fun (r10 : Int32) (h11 : PH) => lt (fun (t12 : Int32) (h13 : PH) => lt (pI h13 this 4 t12) (fun (h14 : PH) => j241 h14)) (fun (j238 : Int32 → PH → Option (Unit × PH)) => if r10 < 0 then (j238 (1 : Int32) h11) else (j238 (4 : Int32) h11))))) (fun (j : PH → Option (Unit × PH)) => ∀  (h8 : PH), SWo (QM mkV below args s D cA ad A) p l e (rmd 4) s m args below meth c 0 0 1 D cA ad A 210 [(0, .ref this)] [] h8 (j h8)) ?_ (fun j210 hj210 => ?_)
        · intro h8
          refine so_aload_n (i := 0) X 0 (dkX9_advance (210, .aload_n 0, 1) (pgm 106 rfl)) rfl rfl ?_
          refine so_ldcS (n := 1) (tx := ";:+-*()[]=<>") X (pgm 1 rfl) (dkX9_advance (211, .ldc 33, 2) (pgm 107 rfl)) ?_
          refine so_aload_n (i := 0) X 0 (dkX9_advance (213, .aload_n 0, 1) (pgm 108 rfl)) rfl rfl ?_
          refine sf_getR X ff_9_0 lk_270 hk (dkX9_advance (214, .getfield 7, 3) (pgm 109 rfl)) ?_
          refine so_aload_n (i := 0) X 0 (dkX9_advance (217, .aload_n 0, 1) (pgm 110 rfl)) rfl rfl ?_
          refine sf_getI X ff_9_3 lk_273 hk (dkX9_advance (218, .getfield 23, 3) (pgm 111 rfl)) ?_
          refine so_bald X (rk_9_0 this hk) (dkX9_advance (221, .baload, 1) (pgm 112 rfl)) (fun x9 => ?_)
          refine so_sipush (v := (255 : Int32)) X (dkX9_advance (222, .sipush 255, 3) (pgm 113 rfl)) sp_255 ?_
          refine so_iand X (dkX9_advance (225, .iand, 1) (pgm 114 rfl)) ?_
          refine so_i2c X (dkX9_advance (226, .i2c, 1) (pgm 115 rfl)) ?_
          refine so_callT (n := 1) (As := [.int (((x9 &&& (255 : Int32)).toUInt32 % 65536).toInt32)]) (i := 1) X (ct_J0_indexOf_0f7a4 l 1 (((x9 &&& (255 : Int32)).toUInt32 % 65536).toInt32) h8 (by decide : 1 < NS)) (by decide : 1 < NS) lk_872 lk_873 lk_874 lk_140 lk_875 (by decide +kernel) rfl rfl rfl (rm_ok (by omega) (by decide)) ⟨Nat.zero_le _, Nat.zero_le _⟩ (Nat.le_of_ble_eq_true rfl) (dkX9_advance (227, .invokevirtual 35, 3) (pgm 116 rfl)) (fun r10 h11 => ?_) rfl
          refine so_join (jf := fun (t12 : Int32) (h13 : PH) => lt (pI h13 this 4 t12) (fun (h14 : PH) => j241 h14)) (fun (j : Int32 → PH → Option (Unit × PH)) => ∀ (t12 : Int32) (h13 : PH), SWo (QM mkV below args s D cA ad A) p l e (rmd 4) s m args below meth c 0 0 1 D cA ad A 238 [] [.int t12, .ref this] h13 (j t12 h13)) ?_ (fun j238 hj238 => ?_)
          · intro t12 h13
            refine sf_putI X ff_9_4 ft_9 rfl lk_276 hk rfl rfl (dkX9_advance (238, .putfield 26, 3) (pgm 121 rfl)) (fun h14 => ?_)
            exact so_pick X [] rfl (hj241 h14)
          refine so_if_lt (tgt := 237) X (dkX9_advance (230, .ifCond .lt 7, 3) (pgm 117 rfl)) rfl (fun _ => ?_) (fun _ => ?_)
          · refine so_iconst (v := (1 : Int32)) X (dkX9_advance (237, .iconst 1, 1) (pgm 120 rfl)) ic_1 ?_
            exact so_pick X [] rfl (hj238 (1 : Int32) h11)
          · refine so_iconst (v := (4 : Int32)) X (dkX9_advance (233, .iconst 4, 1) (pgm 118 rfl)) ic_4 ?_
            refine so_goto (tgt := 238) X (dkX9_advance (234, .goto 4, 3) (pgm 119 rfl)) rfl ?_
            exact so_pick X [] rfl (hj238 (4 : Int32) h11)
        refine so_icmp_lt (tgt := 210) X (dkX9_advance (156, .if_icmp .lt 54, 3) (pgm 79 rfl)) rfl (fun _ => ?_) (fun _ => ?_)
        · exact so_pick X [0] rfl (hj210 h6)
        · refine so_aload_n (i := 0) X 0 (dkX9_advance (159, .aload_n 0, 1) (pgm 80 rfl)) rfl rfl ?_
          refine sf_getR X ff_9_0 lk_270 hk (dkX9_advance (160, .getfield 7, 3) (pgm 81 rfl)) ?_
          refine so_aload_n (i := 0) X 0 (dkX9_advance (163, .aload_n 0, 1) (pgm 82 rfl)) rfl rfl ?_
          refine sf_getI X ff_9_3 lk_273 hk (dkX9_advance (164, .getfield 23, 3) (pgm 83 rfl)) ?_
          refine so_bald X (rk_9_0 this hk) (dkX9_advance (167, .baload, 1) (pgm 84 rfl)) (fun x15 => ?_)
          refine so_bipush (v := (57 : Int32)) X (dkX9_advance (168, .bipush 57, 2) (pgm 85 rfl)) bp_57 ?_
          refine so_icmp_gt (tgt := 210) X (dkX9_advance (170, .if_icmp .gt 40, 3) (pgm 86 rfl)) rfl (fun _ => ?_) (fun _ => ?_)
          · exact so_pick X [0] rfl (hj210 h6)
          · refine so_aload_n (i := 0) X 0 (dkX9_advance (173, .aload_n 0, 1) (pgm 87 rfl)) rfl rfl ?_
            refine so_aload_n (i := 0) X 0 (dkX9_advance (174, .aload_n 0, 1) (pgm 88 rfl)) rfl rfl ?_
            refine so_bipush (v := (48 : Int32)) X (dkX9_advance (175, .bipush 48, 2) (pgm 89 rfl)) bp_48 ?_
            refine so_bipush (v := (57 : Int32)) X (dkX9_advance (177, .bipush 57, 2) (pgm 90 rfl)) bp_57 ?_
            refine so_callV (n := 2) (As := [.int (48 : Int32), .int (57 : Int32)]) X (ct_X9_runEnd l this (48 : Int32) (57 : Int32) h6 hk) hk (by decide) rfl lk_867 lk_869 lk_13 lk_124 lk_870 (by decide +kernel) rfl rfl rfl (rm_ok (by omega) (by decide)) ⟨Nat.zero_le _, Nat.zero_le _⟩ (Nat.le_of_ble_eq_true rfl) (dkX9_advance (179, .invokevirtual 29, 3) (pgm 91 rfl)) (fun r16 h17 => ?_) rfl
            refine sf_putI X ff_9_2 ft_9 rfl lk_272 hk rfl rfl (dkX9_advance (182, .putfield 17, 3) (pgm 92 rfl)) (fun h18 => ?_)
            refine so_aload_n (i := 0) X 0 (dkX9_advance (185, .aload_n 0, 1) (pgm 93 rfl)) rfl rfl ?_
            refine so_aload_n (i := 0) X 0 (dkX9_advance (186, .aload_n 0, 1) (pgm 94 rfl)) rfl rfl ?_
            refine sf_getI X ff_9_2 lk_272 hk (dkX9_advance (187, .getfield 17, 3) (pgm 95 rfl)) ?_
            refine so_aload_n (i := 0) X 0 (dkX9_advance (190, .aload_n 0, 1) (pgm 96 rfl)) rfl rfl ?_
            refine sf_getI X ff_9_3 lk_273 hk (dkX9_advance (191, .getfield 23, 3) (pgm 97 rfl)) ?_
            refine so_isub X (dkX9_advance (194, .isub, 1) (pgm 98 rfl)) ?_
            refine so_iconst (v := (3 : Int32)) X (dkX9_advance (195, .iconst 3, 1) (pgm 99 rfl)) ic_3 ?_
            refine so_join (jf := fun (t19 : Int32) (h20 : PH) => lt (pI h20 this 4 t19) (fun (h21 : PH) => j241 h21)) (fun (j : Int32 → PH → Option (Unit × PH)) => ∀ (t19 : Int32) (h20 : PH), SWo (QM mkV below args s D cA ad A) p l e (rmd 4) s m args below meth c 0 0 1 D cA ad A 204 [] [.int t19, .ref this] h20 (j t19 h20)) ?_ (fun j204 hj204 => ?_)
            · intro t19 h20
              refine sf_putI X ff_9_4 ft_9 rfl lk_276 hk rfl rfl (dkX9_advance (204, .putfield 26, 3) (pgm 104 rfl)) (fun h21 => ?_)
              refine so_goto (tgt := 241) X (dkX9_advance (207, .goto 34, 3) (pgm 105 rfl)) rfl ?_
              exact so_pick X [] rfl (hj241 h21)
            refine so_icmp_gt (tgt := 203) X (dkX9_advance (196, .if_icmp .gt 7, 3) (pgm 100 rfl)) rfl (fun _ => ?_) (fun _ => ?_)
            · refine so_iconst (v := (1 : Int32)) X (dkX9_advance (203, .iconst 1, 1) (pgm 103 rfl)) ic_1 ?_
              exact so_pick X [] rfl (hj204 (1 : Int32) h18)
            · refine so_iconst (v := (3 : Int32)) X (dkX9_advance (199, .iconst 3, 1) (pgm 101 rfl)) ic_3 ?_
              refine so_goto (tgt := 204) X (dkX9_advance (200, .goto 4, 3) (pgm 102 rfl)) rfl ?_
              exact so_pick X [] rfl (hj204 (3 : Int32) h18)
      refine so_icmp_lt (tgt := 145) X (dkX9_advance (108, .if_icmp .lt 37, 3) (pgm 55 rfl)) rfl (fun _ => ?_) (fun _ => ?_)
      · exact so_pick X [0] rfl (hj145 h3)
      · refine so_aload_n (i := 0) X 0 (dkX9_advance (111, .aload_n 0, 1) (pgm 56 rfl)) rfl rfl ?_
        refine sf_getR X ff_9_0 lk_270 hk (dkX9_advance (112, .getfield 7, 3) (pgm 57 rfl)) ?_
        refine so_aload_n (i := 0) X 0 (dkX9_advance (115, .aload_n 0, 1) (pgm 58 rfl)) rfl rfl ?_
        refine sf_getI X ff_9_3 lk_273 hk (dkX9_advance (116, .getfield 23, 3) (pgm 59 rfl)) ?_
        refine so_bald X (rk_9_0 this hk) (dkX9_advance (119, .baload, 1) (pgm 60 rfl)) (fun x22 => ?_)
        refine so_bipush (v := (122 : Int32)) X (dkX9_advance (120, .bipush 122, 2) (pgm 61 rfl)) bp_122 ?_
        refine so_icmp_gt (tgt := 145) X (dkX9_advance (122, .if_icmp .gt 23, 3) (pgm 62 rfl)) rfl (fun _ => ?_) (fun _ => ?_)
        · exact so_pick X [0] rfl (hj145 h3)
        · refine so_aload_n (i := 0) X 0 (dkX9_advance (125, .aload_n 0, 1) (pgm 63 rfl)) rfl rfl ?_
          refine so_iconst (v := (2 : Int32)) X (dkX9_advance (126, .iconst 2, 1) (pgm 64 rfl)) ic_2 ?_
          refine sf_putI X ff_9_4 ft_9 rfl lk_276 hk rfl rfl (dkX9_advance (127, .putfield 26, 3) (pgm 65 rfl)) (fun h23 => ?_)
          refine so_aload_n (i := 0) X 0 (dkX9_advance (130, .aload_n 0, 1) (pgm 66 rfl)) rfl rfl ?_
          refine so_aload_n (i := 0) X 0 (dkX9_advance (131, .aload_n 0, 1) (pgm 67 rfl)) rfl rfl ?_
          refine so_bipush (v := (97 : Int32)) X (dkX9_advance (132, .bipush 97, 2) (pgm 68 rfl)) bp_97 ?_
          refine so_bipush (v := (122 : Int32)) X (dkX9_advance (134, .bipush 122, 2) (pgm 69 rfl)) bp_122 ?_
          refine so_callV (n := 2) (As := [.int (97 : Int32), .int (122 : Int32)]) X (ct_X9_runEnd l this (97 : Int32) (122 : Int32) h23 hk) hk (by decide) rfl lk_867 lk_869 lk_13 lk_124 lk_870 (by decide +kernel) rfl rfl rfl (rm_ok (by omega) (by decide)) ⟨Nat.zero_le _, Nat.zero_le _⟩ (Nat.le_of_ble_eq_true rfl) (dkX9_advance (136, .invokevirtual 29, 3) (pgm 70 rfl)) (fun r24 h25 => ?_) rfl
          refine sf_putI X ff_9_2 ft_9 rfl lk_272 hk rfl rfl (dkX9_advance (139, .putfield 17, 3) (pgm 71 rfl)) (fun h26 => ?_)
          refine so_goto (tgt := 241) X (dkX9_advance (142, .goto 99, 3) (pgm 72 rfl)) rfl ?_
          exact so_pick X [] rfl (hj241 h26)
    · refine so_aload_n (i := 0) X 0 (dkX9_advance (81, .aload_n 0, 1) (pgm 41 rfl)) rfl rfl ?_
      refine so_iconst (v := (0 : Int32)) X (dkX9_advance (82, .iconst 0, 1) (pgm 42 rfl)) ic_0 ?_
      refine sf_putI X ff_9_4 ft_9 rfl lk_276 hk rfl rfl (dkX9_advance (83, .putfield 26, 3) (pgm 43 rfl)) (fun h27 => ?_)
      refine so_aload_n (i := 0) X 0 (dkX9_advance (86, .aload_n 0, 1) (pgm 44 rfl)) rfl rfl ?_
      refine so_aload_n (i := 0) X 0 (dkX9_advance (87, .aload_n 0, 1) (pgm 45 rfl)) rfl rfl ?_
      refine sf_getI X ff_9_3 lk_273 hk (dkX9_advance (88, .getfield 23, 3) (pgm 46 rfl)) ?_
      refine sf_putI X ff_9_2 ft_9 rfl lk_272 hk rfl rfl (dkX9_advance (91, .putfield 17, 3) (pgm 47 rfl)) (fun h28 => ?_)
      refine so_goto (tgt := 241) X (dkX9_advance (94, .goto 147, 3) (pgm 48 rfl)) rfl ?_
      exact so_pick X [] rfl (hj241 h28)
  refine so_pick (L' := [(0, .ref this)]) X [0] rfl ?_
  refine so_loop (body := b_X9_advance_8 this j60) (fun (s8 : Unit) => [(0, .ref this)]) (fun rec8 hrec8 s8 hh8 => ?_) FU () h1
  unfold b_X9_advance_8
  refine so_aload_n (i := 0) X 0 (dkX9_advance (8, .aload_n 0, 1) (pgm 4 rfl)) rfl rfl ?_
  refine sf_getI X ff_9_3 lk_273 hk (dkX9_advance (9, .getfield 23, 3) (pgm 5 rfl)) ?_
  refine so_aload_n (i := 0) X 0 (dkX9_advance (12, .aload_n 0, 1) (pgm 6 rfl)) rfl rfl ?_
  refine sf_getI X ff_9_1 lk_271 hk (dkX9_advance (13, .getfield 13, 3) (pgm 7 rfl)) ?_
  refine so_icmp_ge (tgt := 60) X (dkX9_advance (16, .if_icmp .ge 44, 3) (pgm 8 rfl)) rfl (fun _ => ?_) (fun _ => ?_)
  · exact so_pick X [0] rfl (hj60 hh8)
  · refine so_aload_n (i := 0) X 0 (dkX9_advance (19, .aload_n 0, 1) (pgm 9 rfl)) rfl rfl ?_
    refine sf_getR X ff_9_0 lk_270 hk (dkX9_advance (20, .getfield 7, 3) (pgm 10 rfl)) ?_
    refine so_aload_n (i := 0) X 0 (dkX9_advance (23, .aload_n 0, 1) (pgm 11 rfl)) rfl rfl ?_
    refine sf_getI X ff_9_3 lk_273 hk (dkX9_advance (24, .getfield 23, 3) (pgm 12 rfl)) ?_
    refine so_bald X (rk_9_0 this hk) (dkX9_advance (27, .baload, 1) (pgm 13 rfl)) (fun x29 => ?_)
    refine so_bipush (v := (10 : Int32)) X (dkX9_advance (28, .bipush 10, 2) (pgm 14 rfl)) bp_10 ?_
    refine so_join (jf := fun (h30 : PH) => lt (pI h30 this 3 ((h30.1 this 3) + (1 : Int32))) (fun (h31 : PH) => rec8 () h31)) (fun (j : PH → Option (Unit × PH)) => ∀  (h30 : PH), SWo (QM mkV below args s D cA ad A) p l e (rmd 4) s m args below meth c 0 0 1 D cA ad A 47 [(0, .ref this)] [] h30 (j h30)) ?_ (fun j47 hj47 => ?_)
    · intro h30
      refine so_aload_n (i := 0) X 0 (dkX9_advance (47, .aload_n 0, 1) (pgm 23 rfl)) rfl rfl ?_
      refine so_dup X (dkX9_advance (48, .dup, 1) (pgm 24 rfl)) rfl ?_
      refine sf_getI X ff_9_3 lk_273 hk (dkX9_advance (49, .getfield 23, 3) (pgm 25 rfl)) ?_
      refine so_iconst (v := (1 : Int32)) X (dkX9_advance (52, .iconst 1, 1) (pgm 26 rfl)) ic_1 ?_
      refine so_iadd X (dkX9_advance (53, .iadd, 1) (pgm 27 rfl)) ?_
      refine sf_putI X ff_9_3 ft_9 rfl lk_273 hk rfl rfl (dkX9_advance (54, .putfield 23, 3) (pgm 28 rfl)) (fun h31 => ?_)
      refine so_goto (tgt := 8) X (dkX9_advance (57, .goto (-49), 3) (pgm 29 rfl)) rfl ?_
      exact so_pick X [0] rfl (hrec8 () h31)
    refine so_icmp_eq (tgt := 47) X (dkX9_advance (30, .if_icmp .eq 17, 3) (pgm 15 rfl)) rfl (fun _ => ?_) (fun _ => ?_)
    · exact so_pick X [0] rfl (hj47 hh8)
    · refine so_aload_n (i := 0) X 0 (dkX9_advance (33, .aload_n 0, 1) (pgm 16 rfl)) rfl rfl ?_
      refine sf_getR X ff_9_0 lk_270 hk (dkX9_advance (34, .getfield 7, 3) (pgm 17 rfl)) ?_
      refine so_aload_n (i := 0) X 0 (dkX9_advance (37, .aload_n 0, 1) (pgm 18 rfl)) rfl rfl ?_
      refine sf_getI X ff_9_3 lk_273 hk (dkX9_advance (38, .getfield 23, 3) (pgm 19 rfl)) ?_
      refine so_bald X (rk_9_0 this hk) (dkX9_advance (41, .baload, 1) (pgm 20 rfl)) (fun x32 => ?_)
      refine so_bipush (v := (32 : Int32)) X (dkX9_advance (42, .bipush 32, 2) (pgm 21 rfl)) bp_32 ?_
      refine so_icmp_ne (tgt := 60) X (dkX9_advance (44, .if_icmp .ne 16, 3) (pgm 22 rfl)) rfl (fun _ => ?_) (fun _ => ?_)
      · exact so_pick X [0] rfl (hj60 hh8)
      · exact so_pick X [0] rfl (hj47 hh8)
def pgX11_feed : List (Nat × Instr × Nat) := [(0, .aload_n 0, 1), (1, .getfield 108, 3), (4, .bipush 20, 2), (6, .iadd, 1), (7, .sipush 900, 3), (10, .if_icmp .le 5, 3), (13, .iconst (-1), 1), (14, .ireturn, 1), (15, .aload_n 0, 1), (16, .iload_n 1, 1), (17, .invokevirtual 112, 3), (20, .aload_n 0, 1), (21, .iload_n 2, 1), (22, .invokevirtual 112, 3), (25, .aload_n 0, 1), (26, .iload_n 3, 1), (27, .invokevirtual 112, 3), (30, .aload_n 0, 1), (31, .iload 4, 2), (33, .invokevirtual 112, 3), (36, .aload_n 0, 1), (37, .iload 5, 2), (39, .invokevirtual 112, 3), (42, .aload_n 0, 1), (43, .getfield 108, 3), (46, .ireturn, 1)]
theorem dkX11_feed : ∀ q ∈ pgX11_feed, decode cX11_feed q.1 = .ok q.2 := by decide +kernel
def f_X11_feed (this : Nat) (a1 : Int32) (a2 : Int32) (a3 : Int32) (a4 : Int32) (a5 : Int32) (h0 : PH) : Option (Int32 × PH) :=
  if ((h0.1 this 1) + (20 : Int32)) ≤ (900 : Int32) then (cb (f_X11_lay this a1 h0) (fun (r1 : Unit) (h2 : PH) => cb (f_X11_lay this a2 h2) (fun (r3 : Unit) (h4 : PH) => cb (f_X11_lay this a3 h4) (fun (r5 : Unit) (h6 : PH) => cb (f_X11_lay this a4 h6) (fun (r7 : Unit) (h8 : PH) => cb (f_X11_lay this a5 h8) (fun (r9 : Unit) (h10 : PH) => some ((h10.1 this 1), h10))))))) else (some ((-1 : Int32), h0))
set_option maxRecDepth 100000 in
set_option maxHeartbeats 4000000 in
theorem ct_X11_feed (l : Launch) (this : Nat) (a1 : Int32) (a2 : Int32) (a3 : Int32) (a4 : Int32) (a5 : Int32) (h0 : PH) (hk : (kd this).1 = 11) : CT mkI l yX11_feed cX11_feed 6 (some .int) (rmd 1) [.ref this, .int a1, .int a2, .int a3, .int a4, .int a5] h0 (f_X11_feed this a1 a2 a3 a4 a5 h0) := by
  refine ct_of (by decide) (Nat.le_of_ble_eq_true rfl) ?_
  intro p e s m args below meth c D cA ad A X hr hlk
  have X : Cx p s m args c RX11 cX11_feed 6 D cA ad A := X
  unfold f_X11_feed
  refine so_pick (L' := [(0, .ref this), (1, .int a1), (2, .int a2), (3, .int a3), (4, .int a4), (5, .int a5)]) X [0, 1, 2, 3, 4, 5] rfl ?_
  refine so_aload_n (i := 0) X 0 (dkX11_feed (0, .aload_n 0, 1) (pgm 0 rfl)) rfl rfl ?_
  refine sf_getI X ff_11_1 lk_566 hk (dkX11_feed (1, .getfield 108, 3) (pgm 1 rfl)) ?_
  refine so_bipush (v := (20 : Int32)) X (dkX11_feed (4, .bipush 20, 2) (pgm 2 rfl)) bp_20 ?_
  refine so_iadd X (dkX11_feed (6, .iadd, 1) (pgm 3 rfl)) ?_
  refine so_sipush (v := (900 : Int32)) X (dkX11_feed (7, .sipush 900, 3) (pgm 4 rfl)) sp_900 ?_
  refine so_icmp_le (tgt := 15) X (dkX11_feed (10, .if_icmp .le 5, 3) (pgm 5 rfl)) rfl (fun _ => ?_) (fun _ => ?_)
  · refine so_aload_n (i := 0) X 0 (dkX11_feed (15, .aload_n 0, 1) (pgm 8 rfl)) rfl rfl ?_
    refine so_iload_n (i := 1) X 1 (dkX11_feed (16, .iload_n 1, 1) (pgm 9 rfl)) rfl rfl ?_
    refine so_callV (n := 1) (As := [.int a1]) X (ct_X11_lay l this a1 h0 hk) hk (by decide) rfl lk_618 lk_620 lk_0 lk_121 lk_621 (by decide +kernel) rfl rfl rfl (rm_ok (by omega) (by decide)) ⟨Nat.zero_le _, Nat.zero_le _⟩ (Nat.le_of_ble_eq_true rfl) (dkX11_feed (17, .invokevirtual 112, 3) (pgm 10 rfl)) (fun r1 h2 => ?_) rfl
    refine so_aload_n (i := 0) X 0 (dkX11_feed (20, .aload_n 0, 1) (pgm 11 rfl)) rfl rfl ?_
    refine so_iload_n (i := 2) X 2 (dkX11_feed (21, .iload_n 2, 1) (pgm 12 rfl)) rfl rfl ?_
    refine so_callV (n := 1) (As := [.int a2]) X (ct_X11_lay l this a2 h2 hk) hk (by decide) rfl lk_618 lk_620 lk_0 lk_121 lk_621 (by decide +kernel) rfl rfl rfl (rm_ok (by omega) (by decide)) ⟨Nat.zero_le _, Nat.zero_le _⟩ (Nat.le_of_ble_eq_true rfl) (dkX11_feed (22, .invokevirtual 112, 3) (pgm 13 rfl)) (fun r3 h4 => ?_) rfl
    refine so_aload_n (i := 0) X 0 (dkX11_feed (25, .aload_n 0, 1) (pgm 14 rfl)) rfl rfl ?_
    refine so_iload_n (i := 3) X 3 (dkX11_feed (26, .iload_n 3, 1) (pgm 15 rfl)) rfl rfl ?_
    refine so_callV (n := 1) (As := [.int a3]) X (ct_X11_lay l this a3 h4 hk) hk (by decide) rfl lk_618 lk_620 lk_0 lk_121 lk_621 (by decide +kernel) rfl rfl rfl (rm_ok (by omega) (by decide)) ⟨Nat.zero_le _, Nat.zero_le _⟩ (Nat.le_of_ble_eq_true rfl) (dkX11_feed (27, .invokevirtual 112, 3) (pgm 16 rfl)) (fun r5 h6 => ?_) rfl
    refine so_aload_n (i := 0) X 0 (dkX11_feed (30, .aload_n 0, 1) (pgm 17 rfl)) rfl rfl ?_
    refine so_iload (i := 4) X 4 (dkX11_feed (31, .iload 4, 2) (pgm 18 rfl)) rfl ?_
    refine so_callV (n := 1) (As := [.int a4]) X (ct_X11_lay l this a4 h6 hk) hk (by decide) rfl lk_618 lk_620 lk_0 lk_121 lk_621 (by decide +kernel) rfl rfl rfl (rm_ok (by omega) (by decide)) ⟨Nat.zero_le _, Nat.zero_le _⟩ (Nat.le_of_ble_eq_true rfl) (dkX11_feed (33, .invokevirtual 112, 3) (pgm 19 rfl)) (fun r7 h8 => ?_) rfl
    refine so_aload_n (i := 0) X 0 (dkX11_feed (36, .aload_n 0, 1) (pgm 20 rfl)) rfl rfl ?_
    refine so_iload (i := 5) X 5 (dkX11_feed (37, .iload 5, 2) (pgm 21 rfl)) rfl ?_
    refine so_callV (n := 1) (As := [.int a5]) X (ct_X11_lay l this a5 h8 hk) hk (by decide) rfl lk_618 lk_620 lk_0 lk_121 lk_621 (by decide +kernel) rfl rfl rfl (rm_ok (by omega) (by decide)) ⟨Nat.zero_le _, Nat.zero_le _⟩ (Nat.le_of_ble_eq_true rfl) (dkX11_feed (39, .invokevirtual 112, 3) (pgm 22 rfl)) (fun r9 h10 => ?_) rfl
    refine so_aload_n (i := 0) X 0 (dkX11_feed (42, .aload_n 0, 1) (pgm 23 rfl)) rfl rfl ?_
    refine sf_getI X ff_11_1 lk_566 hk (dkX11_feed (43, .getfield 108, 3) (pgm 24 rfl)) ?_
    exact so_iret X hr hlk (dkX11_feed (46, .ireturn, 1) (pgm 25 rfl))
  · refine so_iconst (v := (-1 : Int32)) X (dkX11_feed (13, .iconst (-1), 1) (pgm 6 rfl)) ic_m1 ?_
    exact so_iret X hr hlk (dkX11_feed (14, .ireturn, 1) (pgm 7 rfl))
def pgX12_readWish : List (Nat × Instr × Nat) := [(0, .aload_n 0, 1), (1, .getfield 13, 3), (4, .iconst 5, 1), (5, .iaload, 1), (6, .bipush 10, 2), (8, .if_icmp .ne 8, 3), (11, .aload_n 0, 1), (12, .iconst 4, 1), (13, .invokevirtual 152, 3), (16, .aload_n 0, 1), (17, .getfield 127, 3), (20, .ifCond .eq 4, 3), (23, .return_, 1), (24, .aload_n 0, 1), (25, .invokevirtual 146, 3), (28, .aload_n 0, 1), (29, .ldc 211, 2), (31, .invokevirtual 213, 3), (34, .aload_n 0, 1), (35, .iconst 0, 1), (36, .iconst 5, 1), (37, .invokevirtual 201, 3), (40, .istore_n 1, 1), (41, .aload_n 0, 1), (42, .ldc 217, 2), (44, .invokevirtual 149, 3), (47, .ifCond .eq 13, 3), (50, .aload_n 0, 1), (51, .iconst 1, 1), (52, .bipush 9, 2), (54, .invokevirtual 201, 3), (57, .goto 4, 3), (60, .iconst 1, 1), (61, .istore_n 2, 1), (62, .aload_n 0, 1), (63, .ldc 219, 2), (65, .invokevirtual 149, 3), (68, .istore_n 3, 1), (69, .aload_n 0, 1), (70, .bipush 58, 2), (72, .invokevirtual 187, 3), (75, .aload_n 0, 1), (76, .invokevirtual 184, 3), (79, .aload_n 0, 1), (80, .getfield 127, 3), (83, .ifCond .eq 4, 3), (86, .return_, 1), (87, .aload_n 0, 1), (88, .getfield 13, 3), (91, .iconst 5, 1), (92, .iaload, 1), (93, .istore 4, 2), (95, .aload_n 0, 1), (96, .getfield 13, 3), (99, .bipush 24, 2), (101, .iload 4, 2), (103, .iadd, 1), (104, .iload_n 1, 1), (105, .iastore, 1), (106, .aload_n 0, 1), (107, .getfield 13, 3), (110, .bipush 34, 2), (112, .iload 4, 2), (114, .iadd, 1), (115, .iload_n 2, 1), (116, .iastore, 1), (117, .aload_n 0, 1), (118, .getfield 13, 3), (121, .bipush 44, 2), (123, .iload 4, 2), (125, .iadd, 1), (126, .iload_n 3, 1), (127, .ifCond .eq 7, 3), (130, .iconst 1, 1), (131, .goto 4, 3), (134, .iconst 0, 1), (135, .iastore, 1), (136, .aload_n 0, 1), (137, .getfield 13, 3), (140, .bipush 7, 2), (142, .dup2, 1), (143, .iaload, 1), (144, .iconst 1, 1), (145, .iload 4, 2), (147, .ishl, 1), (148, .ior, 1), (149, .iastore, 1), (150, .aload_n 0, 1), (151, .getfield 13, 3), (154, .iconst 5, 1), (155, .dup2, 1), (156, .iaload, 1), (157, .iconst 1, 1), (158, .iadd, 1), (159, .iastore, 1), (160, .aload_n 0, 1), (161, .getfield 13, 3), (164, .bipush 54, 2), (166, .aload_n 0, 1), (167, .getfield 13, 3), (170, .iconst 5, 1), (171, .iaload, 1), (172, .iadd, 1), (173, .aload_n 0, 1), (174, .getfield 13, 3), (177, .bipush 65, 2), (179, .iaload, 1), (180, .iastore, 1), (181, .return_, 1)]
theorem dkX12_readWish : ∀ q ∈ pgX12_readWish, decode cX12_readWish q.1 = .ok q.2 := by decide +kernel
def f_X12_readWish (this : Nat) (h0 : PH) : Option (Unit × PH) :=
  ldI h0 (rt this 1) 1200 (5 : Int32) (fun (x1 : Int32) => lt (fun (h2 : PH) => if (h2.1 this 13) = 0 then (cb (f_X12_readsOn this h2) (fun (r3 : Unit) (h4 : PH) => cb (f_X12_mustWord this 56 h4) (fun (r5 : Unit) (h6 : PH) => cb (f_X12_number this (0 : Int32) (5 : Int32) h6) (fun (r7 : Int32) (h8 : PH) => lt r7 (fun (x9 : Int32) => cb (f_X12_took this 57 h8) (fun (r10 : Int32) (h11 : PH) => lt (fun (t12 : Int32) (h13 : PH) => lt t12 (fun (x14 : Int32) => cb (f_X12_took this 58 h13) (fun (r15 : Int32) (h16 : PH) => lt r15 (fun (x17 : Int32) => cb (f_X12_mustSign this (58 : Int32) h16) (fun (r18 : Unit) (h19 : PH) => cb (fgRead 64 0 this h19) (fun (r20 : Unit) (h21 : PH) => if (h21.1 this 13) = 0 then (ldI h21 (rt this 1) 1200 (5 : Int32) (fun (x22 : Int32) => lt x22 (fun (x23 : Int32) => stI h21 (rt this 1) 1200 ((24 : Int32) + x23) x9 (fun (h24 : PH) => stI h24 (rt this 1) 1200 ((34 : Int32) + x23) x14 (fun (h25 : PH) => lt (fun (t26 : Int32) (h27 : PH) => stI h27 (rt this 1) 1200 ((44 : Int32) + x23) t26 (fun (h28 : PH) => ldI h28 (rt this 1) 1200 (7 : Int32) (fun (x29 : Int32) => stI h28 (rt this 1) 1200 (7 : Int32) (x29 ||| ((1 : Int32) <<< (x23 &&& 31))) (fun (h30 : PH) => ldI h30 (rt this 1) 1200 (5 : Int32) (fun (x31 : Int32) => stI h30 (rt this 1) 1200 (5 : Int32) (x31 + (1 : Int32)) (fun (h32 : PH) => ldI h32 (rt this 1) 1200 (5 : Int32) (fun (x33 : Int32) => ldI h32 (rt this 1) 1200 (65 : Int32) (fun (x34 : Int32) => stI h32 (rt this 1) 1200 ((54 : Int32) + x33) x34 (fun (h35 : PH) => some ((), h35)))))))))) (fun (j135 : Int32 → PH → Option (Unit × PH)) => if x17 = 0 then (j135 (0 : Int32) h25) else (j135 (1 : Int32) h25))))))) else (some ((), h21)))))))) (fun (j61 : Int32 → PH → Option (Unit × PH)) => if r10 = 0 then (j61 (1 : Int32) h11) else (cb (f_X12_number this (1 : Int32) (9 : Int32) h11) (fun (r36 : Int32) (h37 : PH) => j61 r36 h37))))))))) else (some ((), h2))) (fun (j16 : PH → Option (Unit × PH)) => if x1 = (10 : Int32) then (cb (f_X12_blames this (4 : Int32) h0) (fun (r38 : Unit) (h39 : PH) => j16 h39)) else (j16 h0)))
set_option maxRecDepth 100000 in
set_option maxHeartbeats 4000000 in
theorem ct_X12_readWish (l : Launch) (this : Nat) (h0 : PH) (hk : (kd this).1 = 12) : CT mkV l yX12_readWish cX12_readWish 5 none (rmd 70) [.ref this] h0 (f_X12_readWish this h0) := by
  refine ct_of (by decide) (Nat.le_of_ble_eq_true rfl) ?_
  intro p e s m args below meth c D cA ad A X hr hlk
  have X : Cx p s m args c RX12 cX12_readWish 5 D cA ad A := X
  unfold f_X12_readWish
  refine so_pick (L' := [(0, .ref this)]) X [0] rfl ?_
  refine so_aload_n (i := 0) X 0 (dkX12_readWish (0, .aload_n 0, 1) (pgm 0 rfl)) rfl rfl ?_
  refine sf_getR X ff_12_1 lk_1703 hk (dkX12_readWish (1, .getfield 13, 3) (pgm 1 rfl)) ?_
  refine so_iconst (v := (5 : Int32)) X (dkX12_readWish (4, .iconst 5, 1) (pgm 2 rfl)) ic_5 ?_
  refine so_iald X (rk_12_1 this hk) (dkX12_readWish (5, .iaload, 1) (pgm 3 rfl)) (fun x1 => ?_)
  refine so_bipush (v := (10 : Int32)) X (dkX12_readWish (6, .bipush 10, 2) (pgm 4 rfl)) bp_10 ?_
  refine so_join (jf := fun (h2 : PH) => if (h2.1 this 13) = 0 then (cb (f_X12_readsOn this h2) (fun (r3 : Unit) (h4 : PH) => cb (f_X12_mustWord this 56 h4) (fun (r5 : Unit) (h6 : PH) => cb (f_X12_number this (0 : Int32) (5 : Int32) h6) (fun (r7 : Int32) (h8 : PH) => lt r7 (fun (x9 : Int32) => cb (f_X12_took this 57 h8) (fun (r10 : Int32) (h11 : PH) => lt (fun (t12 : Int32) (h13 : PH) => lt t12 (fun (x14 : Int32) => cb (f_X12_took this 58 h13) (fun (r15 : Int32) (h16 : PH) => lt r15 (fun (x17 : Int32) => cb (f_X12_mustSign this (58 : Int32) h16) (fun (r18 : Unit) (h19 : PH) => cb (fgRead 64 0 this h19) (fun (r20 : Unit) (h21 : PH) => if (h21.1 this 13) = 0 then (ldI h21 (rt this 1) 1200 (5 : Int32) (fun (x22 : Int32) => lt x22 (fun (x23 : Int32) => stI h21 (rt this 1) 1200 ((24 : Int32) + x23) x9 (fun (h24 : PH) => stI h24 (rt this 1) 1200 ((34 : Int32) + x23) x14 (fun (h25 : PH) => lt (fun (t26 : Int32) (h27 : PH) => stI h27 (rt this 1) 1200 ((44 : Int32) + x23) t26 (fun (h28 : PH) => ldI h28 (rt this 1) 1200 (7 : Int32) (fun (x29 : Int32) => stI h28 (rt this 1) 1200 (7 : Int32) (x29 ||| ((1 : Int32) <<< (x23 &&& 31))) (fun (h30 : PH) => ldI h30 (rt this 1) 1200 (5 : Int32) (fun (x31 : Int32) => stI h30 (rt this 1) 1200 (5 : Int32) (x31 + (1 : Int32)) (fun (h32 : PH) => ldI h32 (rt this 1) 1200 (5 : Int32) (fun (x33 : Int32) => ldI h32 (rt this 1) 1200 (65 : Int32) (fun (x34 : Int32) => stI h32 (rt this 1) 1200 ((54 : Int32) + x33) x34 (fun (h35 : PH) => some ((), h35)))))))))) (fun (j135 : Int32 → PH → Option (Unit × PH)) => if x17 = 0 then (j135 (0 : Int32) h25) else (j135 (1 : Int32) h25))))))) else (some ((), h21)))))))) (fun (j61 : Int32 → PH → Option (Unit × PH)) => if r10 = 0 then (j61 (1 : Int32) h11) else (cb (f_X12_number this (1 : Int32) (9 : Int32) h11) (fun (r36 : Int32) (h37 : PH) => j61 r36 h37))))))))) else (some ((), h2))) (fun (j : PH → Option (Unit × PH)) => ∀  (h2 : PH), SWo (QM mkV below args s D cA ad A) p l e (rmd 70) s m args below meth c 0 0 5 D cA ad A 16 [(0, .ref this)] [] h2 (j h2)) ?_ (fun j16 hj16 => ?_)
  · intro h2
    refine so_aload_n (i := 0) X 0 (dkX12_readWish (16, .aload_n 0, 1) (pgm 9 rfl)) rfl rfl ?_
    refine sf_getI X ff_12_13 lk_1715 hk (dkX12_readWish (17, .getfield 127, 3) (pgm 10 rfl)) ?_
    refine so_if_eq (tgt := 24) X (dkX12_readWish (20, .ifCond .eq 4, 3) (pgm 11 rfl)) rfl (fun _ => ?_) (fun _ => ?_)
    · refine so_aload_n (i := 0) X 0 (dkX12_readWish (24, .aload_n 0, 1) (pgm 13 rfl)) rfl rfl ?_
      refine so_callV (n := 0) (As := []) X (ct_X12_readsOn l this h2 hk) hk (by decide) rfl lk_1839 lk_1841 lk_62 lk_134 lk_1842 (by decide +kernel) rfl rfl rfl (rm_ok (by omega) (by decide)) ⟨Nat.zero_le _, Nat.zero_le _⟩ (Nat.le_of_ble_eq_true rfl) (dkX12_readWish (25, .invokevirtual 146, 3) (pgm 14 rfl)) (fun r3 h4 => ?_) rfl
      refine so_aload_n (i := 0) X 0 (dkX12_readWish (28, .aload_n 0, 1) (pgm 15 rfl)) rfl rfl ?_
      refine so_ldcS (n := 56) (tx := "by") X (pgm 56 rfl) (dkX12_readWish (29, .ldc 211, 2) (pgm 16 rfl)) ?_
      refine so_callV (n := 1) (As := [.ref (200 + 56)]) X (ct_X12_mustWord l this 56 h4 hk (by decide : 56 < NS)) hk (by decide) rfl lk_1857 lk_1859 lk_64 lk_134 lk_1860 (by decide +kernel) rfl rfl rfl (rm_ok (by omega) (by decide)) ⟨Nat.zero_le _, Nat.zero_le _⟩ (Nat.le_of_ble_eq_true rfl) (dkX12_readWish (31, .invokevirtual 213, 3) (pgm 17 rfl)) (fun r5 h6 => ?_) rfl
      refine so_aload_n (i := 0) X 0 (dkX12_readWish (34, .aload_n 0, 1) (pgm 18 rfl)) rfl rfl ?_
      refine so_iconst (v := (0 : Int32)) X (dkX12_readWish (35, .iconst 0, 1) (pgm 19 rfl)) ic_0 ?_
      refine so_iconst (v := (5 : Int32)) X (dkX12_readWish (36, .iconst 5, 1) (pgm 20 rfl)) ic_5 ?_
      refine so_callV (n := 2) (As := [.int (0 : Int32), .int (5 : Int32)]) X (ct_X12_number l this (0 : Int32) (5 : Int32) h6 hk) hk (by decide) rfl lk_1875 lk_1877 lk_68 lk_134 lk_1878 (by decide +kernel) rfl rfl rfl (rm_ok (by omega) (by decide)) ⟨Nat.zero_le _, Nat.zero_le _⟩ (Nat.le_of_ble_eq_true rfl) (dkX12_readWish (37, .invokevirtual 201, 3) (pgm 21 rfl)) (fun r7 h8 => ?_) rfl
      refine so_istore_n (i := 1) X (dkX12_readWish (40, .istore_n 1, 1) (pgm 22 rfl)) rfl (by decide) (Lf := fun x9 => [(1, .int x9), (0, .ref this)]) (fun _ => rfl) (fun x9 => ?_)
      refine so_aload_n (i := 0) X 1 (dkX12_readWish (41, .aload_n 0, 1) (pgm 23 rfl)) rfl rfl ?_
      refine so_ldcS (n := 57) (tx := "weight") X (pgm 57 rfl) (dkX12_readWish (42, .ldc 217, 2) (pgm 24 rfl)) ?_
      refine so_callV (n := 1) (As := [.ref (200 + 57)]) X (ct_X12_took l this 57 h8 hk (by decide : 57 < NS)) hk (by decide) rfl lk_1861 lk_1863 lk_65 lk_134 lk_1864 (by decide +kernel) rfl rfl rfl (rm_ok (by omega) (by decide)) ⟨Nat.zero_le _, Nat.zero_le _⟩ (Nat.le_of_ble_eq_true rfl) (dkX12_readWish (44, .invokevirtual 149, 3) (pgm 25 rfl)) (fun r10 h11 => ?_) rfl
      refine so_join (jf := fun (t12 : Int32) (h13 : PH) => lt t12 (fun (x14 : Int32) => cb (f_X12_took this 58 h13) (fun (r15 : Int32) (h16 : PH) => lt r15 (fun (x17 : Int32) => cb (f_X12_mustSign this (58 : Int32) h16) (fun (r18 : Unit) (h19 : PH) => cb (fgRead 64 0 this h19) (fun (r20 : Unit) (h21 : PH) => if (h21.1 this 13) = 0 then (ldI h21 (rt this 1) 1200 (5 : Int32) (fun (x22 : Int32) => lt x22 (fun (x23 : Int32) => stI h21 (rt this 1) 1200 ((24 : Int32) + x23) x9 (fun (h24 : PH) => stI h24 (rt this 1) 1200 ((34 : Int32) + x23) x14 (fun (h25 : PH) => lt (fun (t26 : Int32) (h27 : PH) => stI h27 (rt this 1) 1200 ((44 : Int32) + x23) t26 (fun (h28 : PH) => ldI h28 (rt this 1) 1200 (7 : Int32) (fun (x29 : Int32) => stI h28 (rt this 1) 1200 (7 : Int32) (x29 ||| ((1 : Int32) <<< (x23 &&& 31))) (fun (h30 : PH) => ldI h30 (rt this 1) 1200 (5 : Int32) (fun (x31 : Int32) => stI h30 (rt this 1) 1200 (5 : Int32) (x31 + (1 : Int32)) (fun (h32 : PH) => ldI h32 (rt this 1) 1200 (5 : Int32) (fun (x33 : Int32) => ldI h32 (rt this 1) 1200 (65 : Int32) (fun (x34 : Int32) => stI h32 (rt this 1) 1200 ((54 : Int32) + x33) x34 (fun (h35 : PH) => some ((), h35)))))))))) (fun (j135 : Int32 → PH → Option (Unit × PH)) => if x17 = 0 then (j135 (0 : Int32) h25) else (j135 (1 : Int32) h25))))))) else (some ((), h21)))))))) (fun (j : Int32 → PH → Option (Unit × PH)) => ∀ (t12 : Int32) (h13 : PH), SWo (QM mkV below args s D cA ad A) p l e (rmd 70) s m args below meth c 0 0 5 D cA ad A 61 [(0, .ref this), (1, .int x9)] [.int t12] h13 (j t12 h13)) ?_ (fun j61 hj61 => ?_)
      · intro t12 h13
        refine so_istore_n (i := 2) X (dkX12_readWish (61, .istore_n 2, 1) (pgm 33 rfl)) rfl (by decide) (Lf := fun x14 => [(2, .int x14), (0, .ref this), (1, .int x9)]) (fun _ => rfl) (fun x14 => ?_)
        refine so_aload_n (i := 0) X 1 (dkX12_readWish (62, .aload_n 0, 1) (pgm 34 rfl)) rfl rfl ?_
        refine so_ldcS (n := 58) (tx := "must") X (pgm 58 rfl) (dkX12_readWish (63, .ldc 219, 2) (pgm 35 rfl)) ?_
        refine so_callV (n := 1) (As := [.ref (200 + 58)]) X (ct_X12_took l this 58 h13 hk (by decide : 58 < NS)) hk (by decide) rfl lk_1861 lk_1863 lk_65 lk_134 lk_1864 (by decide +kernel) rfl rfl rfl (rm_ok (by omega) (by decide)) ⟨Nat.zero_le _, Nat.zero_le _⟩ (Nat.le_of_ble_eq_true rfl) (dkX12_readWish (65, .invokevirtual 149, 3) (pgm 36 rfl)) (fun r15 h16 => ?_) rfl
        refine so_istore_n (i := 3) X (dkX12_readWish (68, .istore_n 3, 1) (pgm 37 rfl)) rfl (by decide) (Lf := fun x17 => [(3, .int x17), (2, .int x14), (0, .ref this), (1, .int x9)]) (fun _ => rfl) (fun x17 => ?_)
        refine so_aload_n (i := 0) X 2 (dkX12_readWish (69, .aload_n 0, 1) (pgm 38 rfl)) rfl rfl ?_
        refine so_bipush (v := (58 : Int32)) X (dkX12_readWish (70, .bipush 58, 2) (pgm 39 rfl)) bp_58 ?_
        refine so_callV (n := 1) (As := [.int (58 : Int32)]) X (ct_X12_mustSign l this (58 : Int32) h16 hk) hk (by decide) rfl lk_1884 lk_1886 lk_70 lk_134 lk_1887 (by decide +kernel) rfl rfl rfl (rm_ok (by omega) (by decide)) ⟨Nat.zero_le _, Nat.zero_le _⟩ (Nat.le_of_ble_eq_true rfl) (dkX12_readWish (72, .invokevirtual 187, 3) (pgm 40 rfl)) (fun r18 h19 => ?_) rfl
        refine so_aload_n (i := 0) X 2 (dkX12_readWish (75, .aload_n 0, 1) (pgm 41 rfl)) rfl rfl ?_
        refine so_callV (n := 0) (As := []) X (((ca_fgRead l 64).1) this h19 hk) hk (by decide) rfl lk_1902 lk_1904 lk_73 lk_134 lk_1905 (by decide +kernel) rfl rfl rfl (rm_ok (by omega) (by decide)) ⟨Nat.zero_le _, Nat.zero_le _⟩ (Nat.le_of_ble_eq_true rfl) (dkX12_readWish (76, .invokevirtual 184, 3) (pgm 42 rfl)) (fun r20 h21 => ?_) rfl
        refine so_aload_n (i := 0) X 2 (dkX12_readWish (79, .aload_n 0, 1) (pgm 43 rfl)) rfl rfl ?_
        refine sf_getI X ff_12_13 lk_1715 hk (dkX12_readWish (80, .getfield 127, 3) (pgm 44 rfl)) ?_
        refine so_if_eq (tgt := 87) X (dkX12_readWish (83, .ifCond .eq 4, 3) (pgm 45 rfl)) rfl (fun _ => ?_) (fun _ => ?_)
        · refine so_aload_n (i := 0) X 2 (dkX12_readWish (87, .aload_n 0, 1) (pgm 47 rfl)) rfl rfl ?_
          refine sf_getR X ff_12_1 lk_1703 hk (dkX12_readWish (88, .getfield 13, 3) (pgm 48 rfl)) ?_
          refine so_iconst (v := (5 : Int32)) X (dkX12_readWish (91, .iconst 5, 1) (pgm 49 rfl)) ic_5 ?_
          refine so_iald X (rk_12_1 this hk) (dkX12_readWish (92, .iaload, 1) (pgm 50 rfl)) (fun x22 => ?_)
          refine so_istore (i := 4) X (dkX12_readWish (93, .istore 4, 2) (pgm 51 rfl)) (by decide) (Lf := fun x23 => [(4, .int x23), (3, .int x17), (2, .int x14), (0, .ref this), (1, .int x9)]) (fun _ => rfl) (fun x23 => ?_)
          refine so_aload_n (i := 0) X 3 (dkX12_readWish (95, .aload_n 0, 1) (pgm 52 rfl)) rfl rfl ?_
          refine sf_getR X ff_12_1 lk_1703 hk (dkX12_readWish (96, .getfield 13, 3) (pgm 53 rfl)) ?_
          refine so_bipush (v := (24 : Int32)) X (dkX12_readWish (99, .bipush 24, 2) (pgm 54 rfl)) bp_24 ?_
          refine so_iload (i := 4) X 0 (dkX12_readWish (101, .iload 4, 2) (pgm 55 rfl)) rfl ?_
          refine so_iadd X (dkX12_readWish (103, .iadd, 1) (pgm 56 rfl)) ?_
          refine so_iload_n (i := 1) X 4 (dkX12_readWish (104, .iload_n 1, 1) (pgm 57 rfl)) rfl rfl ?_
          refine so_iast X (rk_12_1 this hk) (dkX12_readWish (105, .iastore, 1) (pgm 58 rfl)) (fun h24 => ?_)
          refine so_aload_n (i := 0) X 3 (dkX12_readWish (106, .aload_n 0, 1) (pgm 59 rfl)) rfl rfl ?_
          refine sf_getR X ff_12_1 lk_1703 hk (dkX12_readWish (107, .getfield 13, 3) (pgm 60 rfl)) ?_
          refine so_bipush (v := (34 : Int32)) X (dkX12_readWish (110, .bipush 34, 2) (pgm 61 rfl)) bp_34 ?_
          refine so_iload (i := 4) X 0 (dkX12_readWish (112, .iload 4, 2) (pgm 62 rfl)) rfl ?_
          refine so_iadd X (dkX12_readWish (114, .iadd, 1) (pgm 63 rfl)) ?_
          refine so_iload_n (i := 2) X 2 (dkX12_readWish (115, .iload_n 2, 1) (pgm 64 rfl)) rfl rfl ?_
          refine so_iast X (rk_12_1 this hk) (dkX12_readWish (116, .iastore, 1) (pgm 65 rfl)) (fun h25 => ?_)
          refine so_aload_n (i := 0) X 3 (dkX12_readWish (117, .aload_n 0, 1) (pgm 66 rfl)) rfl rfl ?_
          refine sf_getR X ff_12_1 lk_1703 hk (dkX12_readWish (118, .getfield 13, 3) (pgm 67 rfl)) ?_
          refine so_bipush (v := (44 : Int32)) X (dkX12_readWish (121, .bipush 44, 2) (pgm 68 rfl)) bp_44 ?_
          refine so_iload (i := 4) X 0 (dkX12_readWish (123, .iload 4, 2) (pgm 69 rfl)) rfl ?_
          refine so_iadd X (dkX12_readWish (125, .iadd, 1) (pgm 70 rfl)) ?_
          refine so_iload_n (i := 3) X 1 (dkX12_readWish (126, .iload_n 3, 1) (pgm 71 rfl)) rfl rfl ?_
          refine so_join (jf := fun (t26 : Int32) (h27 : PH) => stI h27 (rt this 1) 1200 ((44 : Int32) + x23) t26 (fun (h28 : PH) => ldI h28 (rt this 1) 1200 (7 : Int32) (fun (x29 : Int32) => stI h28 (rt this 1) 1200 (7 : Int32) (x29 ||| ((1 : Int32) <<< (x23 &&& 31))) (fun (h30 : PH) => ldI h30 (rt this 1) 1200 (5 : Int32) (fun (x31 : Int32) => stI h30 (rt this 1) 1200 (5 : Int32) (x31 + (1 : Int32)) (fun (h32 : PH) => ldI h32 (rt this 1) 1200 (5 : Int32) (fun (x33 : Int32) => ldI h32 (rt this 1) 1200 (65 : Int32) (fun (x34 : Int32) => stI h32 (rt this 1) 1200 ((54 : Int32) + x33) x34 (fun (h35 : PH) => some ((), h35)))))))))) (fun (j : Int32 → PH → Option (Unit × PH)) => ∀ (t26 : Int32) (h27 : PH), SWo (QM mkV below args s D cA ad A) p l e (rmd 70) s m args below meth c 0 0 5 D cA ad A 135 [(0, .ref this), (4, .int x23)] [.int t26, .int ((44 : Int32) + x23), .ref (rt this 1)] h27 (j t26 h27)) ?_ (fun j135 hj135 => ?_)
          · intro t26 h27
            refine so_iast X (rk_12_1 this hk) (dkX12_readWish (135, .iastore, 1) (pgm 76 rfl)) (fun h28 => ?_)
            refine so_aload_n (i := 0) X 0 (dkX12_readWish (136, .aload_n 0, 1) (pgm 77 rfl)) rfl rfl ?_
            refine sf_getR X ff_12_1 lk_1703 hk (dkX12_readWish (137, .getfield 13, 3) (pgm 78 rfl)) ?_
            refine so_bipush (v := (7 : Int32)) X (dkX12_readWish (140, .bipush 7, 2) (pgm 79 rfl)) bp_7 ?_
            refine so_dup2 X (dkX12_readWish (142, .dup2, 1) (pgm 80 rfl)) rfl rfl ?_
            refine so_iald X (rk_12_1 this hk) (dkX12_readWish (143, .iaload, 1) (pgm 81 rfl)) (fun x29 => ?_)
            refine so_iconst (v := (1 : Int32)) X (dkX12_readWish (144, .iconst 1, 1) (pgm 82 rfl)) ic_1 ?_
            refine so_iload (i := 4) X 1 (dkX12_readWish (145, .iload 4, 2) (pgm 83 rfl)) rfl ?_
            refine so_ishl X (dkX12_readWish (147, .ishl, 1) (pgm 84 rfl)) ?_
            refine so_ior X (dkX12_readWish (148, .ior, 1) (pgm 85 rfl)) ?_
            refine so_iast X (rk_12_1 this hk) (dkX12_readWish (149, .iastore, 1) (pgm 86 rfl)) (fun h30 => ?_)
            refine so_aload_n (i := 0) X 0 (dkX12_readWish (150, .aload_n 0, 1) (pgm 87 rfl)) rfl rfl ?_
            refine sf_getR X ff_12_1 lk_1703 hk (dkX12_readWish (151, .getfield 13, 3) (pgm 88 rfl)) ?_
            refine so_iconst (v := (5 : Int32)) X (dkX12_readWish (154, .iconst 5, 1) (pgm 89 rfl)) ic_5 ?_
            refine so_dup2 X (dkX12_readWish (155, .dup2, 1) (pgm 90 rfl)) rfl rfl ?_
            refine so_iald X (rk_12_1 this hk) (dkX12_readWish (156, .iaload, 1) (pgm 91 rfl)) (fun x31 => ?_)
            refine so_iconst (v := (1 : Int32)) X (dkX12_readWish (157, .iconst 1, 1) (pgm 92 rfl)) ic_1 ?_
            refine so_iadd X (dkX12_readWish (158, .iadd, 1) (pgm 93 rfl)) ?_
            refine so_iast X (rk_12_1 this hk) (dkX12_readWish (159, .iastore, 1) (pgm 94 rfl)) (fun h32 => ?_)
            refine so_aload_n (i := 0) X 0 (dkX12_readWish (160, .aload_n 0, 1) (pgm 95 rfl)) rfl rfl ?_
            refine sf_getR X ff_12_1 lk_1703 hk (dkX12_readWish (161, .getfield 13, 3) (pgm 96 rfl)) ?_
            refine so_bipush (v := (54 : Int32)) X (dkX12_readWish (164, .bipush 54, 2) (pgm 97 rfl)) bp_54 ?_
            refine so_aload_n (i := 0) X 0 (dkX12_readWish (166, .aload_n 0, 1) (pgm 98 rfl)) rfl rfl ?_
            refine sf_getR X ff_12_1 lk_1703 hk (dkX12_readWish (167, .getfield 13, 3) (pgm 99 rfl)) ?_
            refine so_iconst (v := (5 : Int32)) X (dkX12_readWish (170, .iconst 5, 1) (pgm 100 rfl)) ic_5 ?_
            refine so_iald X (rk_12_1 this hk) (dkX12_readWish (171, .iaload, 1) (pgm 101 rfl)) (fun x33 => ?_)
            refine so_iadd X (dkX12_readWish (172, .iadd, 1) (pgm 102 rfl)) ?_
            refine so_aload_n (i := 0) X 0 (dkX12_readWish (173, .aload_n 0, 1) (pgm 103 rfl)) rfl rfl ?_
            refine sf_getR X ff_12_1 lk_1703 hk (dkX12_readWish (174, .getfield 13, 3) (pgm 104 rfl)) ?_
            refine so_bipush (v := (65 : Int32)) X (dkX12_readWish (177, .bipush 65, 2) (pgm 105 rfl)) bp_65 ?_
            refine so_iald X (rk_12_1 this hk) (dkX12_readWish (179, .iaload, 1) (pgm 106 rfl)) (fun x34 => ?_)
            refine so_iast X (rk_12_1 this hk) (dkX12_readWish (180, .iastore, 1) (pgm 107 rfl)) (fun h35 => ?_)
            exact so_vret X hr hlk (dkX12_readWish (181, .return_, 1) (pgm 108 rfl))
          refine so_if_eq (tgt := 134) X (dkX12_readWish (127, .ifCond .eq 7, 3) (pgm 72 rfl)) rfl (fun _ => ?_) (fun _ => ?_)
          · refine so_iconst (v := (0 : Int32)) X (dkX12_readWish (134, .iconst 0, 1) (pgm 75 rfl)) ic_0 ?_
            exact so_pick X [3, 0] rfl (hj135 (0 : Int32) h25)
          · refine so_iconst (v := (1 : Int32)) X (dkX12_readWish (130, .iconst 1, 1) (pgm 73 rfl)) ic_1 ?_
            refine so_goto (tgt := 135) X (dkX12_readWish (131, .goto 4, 3) (pgm 74 rfl)) rfl ?_
            exact so_pick X [3, 0] rfl (hj135 (1 : Int32) h25)
        · exact so_vret X hr hlk (dkX12_readWish (86, .return_, 1) (pgm 46 rfl))
      refine so_if_eq (tgt := 60) X (dkX12_readWish (47, .ifCond .eq 13, 3) (pgm 26 rfl)) rfl (fun _ => ?_) (fun _ => ?_)
      · refine so_iconst (v := (1 : Int32)) X (dkX12_readWish (60, .iconst 1, 1) (pgm 32 rfl)) ic_1 ?_
        exact so_pick X [1, 0] rfl (hj61 (1 : Int32) h11)
      · refine so_aload_n (i := 0) X 1 (dkX12_readWish (50, .aload_n 0, 1) (pgm 27 rfl)) rfl rfl ?_
        refine so_iconst (v := (1 : Int32)) X (dkX12_readWish (51, .iconst 1, 1) (pgm 28 rfl)) ic_1 ?_
        refine so_bipush (v := (9 : Int32)) X (dkX12_readWish (52, .bipush 9, 2) (pgm 29 rfl)) bp_9 ?_
        refine so_callV (n := 2) (As := [.int (1 : Int32), .int (9 : Int32)]) X (ct_X12_number l this (1 : Int32) (9 : Int32) h11 hk) hk (by decide) rfl lk_1875 lk_1877 lk_68 lk_134 lk_1878 (by decide +kernel) rfl rfl rfl (rm_ok (by omega) (by decide)) ⟨Nat.zero_le _, Nat.zero_le _⟩ (Nat.le_of_ble_eq_true rfl) (dkX12_readWish (54, .invokevirtual 201, 3) (pgm 30 rfl)) (fun r36 h37 => ?_) rfl
        refine so_goto (tgt := 61) X (dkX12_readWish (57, .goto 4, 3) (pgm 31 rfl)) rfl ?_
        exact so_pick X [1, 0] rfl (hj61 r36 h37)
    · exact so_vret X hr hlk (dkX12_readWish (23, .return_, 1) (pgm 12 rfl))
  refine so_icmp_ne (tgt := 16) X (dkX12_readWish (8, .if_icmp .ne 8, 3) (pgm 5 rfl)) rfl (fun _ => ?_) (fun _ => ?_)
  · exact so_pick X [0] rfl (hj16 h0)
  · refine so_aload_n (i := 0) X 0 (dkX12_readWish (11, .aload_n 0, 1) (pgm 6 rfl)) rfl rfl ?_
    refine so_iconst (v := (4 : Int32)) X (dkX12_readWish (12, .iconst 4, 1) (pgm 7 rfl)) ic_4 ?_
    refine so_callV (n := 1) (As := [.int (4 : Int32)]) X (ct_X12_blames l this (4 : Int32) h0 hk) hk (by decide) rfl lk_1871 lk_1873 lk_67 lk_134 lk_1874 (by decide +kernel) rfl rfl rfl (rm_ok (by omega) (by decide)) ⟨Nat.zero_le _, Nat.zero_le _⟩ (Nat.le_of_ble_eq_true rfl) (dkX12_readWish (13, .invokevirtual 152, 3) (pgm 8 rfl)) (fun r38 h39 => ?_) rfl
    exact so_pick X [0] rfl (hj16 h39)
def pgX12_readLine : List (Nat × Instr × Nat) := [(0, .aload_n 0, 1), (1, .ldc 221, 2), (3, .invokevirtual 149, 3), (6, .ifCond .eq 19, 3), (9, .aload_n 0, 1), (10, .getfield 13, 3), (13, .iconst 3, 1), (14, .aload_n 0, 1), (15, .iconst 0, 1), (16, .bipush 6, 2), (18, .invokevirtual 201, 3), (21, .iastore, 1), (22, .goto 48, 3), (25, .aload_n 0, 1), (26, .ldc 223, 2), (28, .invokevirtual 149, 3), (31, .ifCond .eq 18, 3), (34, .aload_n 0, 1), (35, .getfield 13, 3), (38, .iconst 4, 1), (39, .aload_n 0, 1), (40, .iconst 0, 1), (41, .iconst 3, 1), (42, .invokevirtual 201, 3), (45, .iastore, 1), (46, .goto 24, 3), (49, .aload_n 0, 1), (50, .ldc 225, 2), (52, .invokevirtual 142, 3), (55, .ifCond .eq 10, 3), (58, .aload_n 0, 1), (59, .invokevirtual 227, 3), (62, .goto 8, 3), (65, .aload_n 0, 1), (66, .iconst 2, 1), (67, .invokevirtual 152, 3), (70, .aload_n 0, 1), (71, .invokevirtual 230, 3), (74, .return_, 1)]
theorem dkX12_readLine : ∀ q ∈ pgX12_readLine, decode cX12_readLine q.1 = .ok q.2 := by decide +kernel
def f_X12_readLine (this : Nat) (h0 : PH) : Option (Unit × PH) :=
  cb (f_X12_took this 53 h0) (fun (r1 : Int32) (h2 : PH) => lt (fun (h3 : PH) => cb (f_X12_readStop this h3) (fun (r4 : Unit) (h5 : PH) => some ((), h5))) (fun (j70 : PH → Option (Unit × PH)) => if r1 = 0 then (cb (f_X12_took this 54 h2) (fun (r6 : Int32) (h7 : PH) => if r6 = 0 then (cb (f_X12_isWord this 55 h7) (fun (r8 : Int32) (h9 : PH) => if r8 = 0 then (cb (f_X12_blames this (2 : Int32) h9) (fun (r10 : Unit) (h11 : PH) => j70 h11)) else (cb (f_X12_readWish this h9) (fun (r12 : Unit) (h13 : PH) => j70 h13)))) else (cb (f_X12_number this (0 : Int32) (3 : Int32) h7) (fun (r14 : Int32) (h15 : PH) => stI h15 (rt this 1) 1200 (4 : Int32) r14 (fun (h16 : PH) => j70 h16))))) else (cb (f_X12_number this (0 : Int32) (6 : Int32) h2) (fun (r17 : Int32) (h18 : PH) => stI h18 (rt this 1) 1200 (3 : Int32) r17 (fun (h19 : PH) => j70 h19)))))
set_option maxRecDepth 100000 in
set_option maxHeartbeats 4000000 in
theorem ct_X12_readLine (l : Launch) (this : Nat) (h0 : PH) (hk : (kd this).1 = 12) : CT mkV l yX12_readLine cX12_readLine 1 none (rmd 71) [.ref this] h0 (f_X12_readLine this h0) := by
  refine ct_of (by decide) (Nat.le_of_ble_eq_true rfl) ?_
  intro p e s m args below meth c D cA ad A X hr hlk
  have X : Cx p s m args c RX12 cX12_readLine 1 D cA ad A := X
  unfold f_X12_readLine
  refine so_pick (L' := [(0, .ref this)]) X [0] rfl ?_
  refine so_aload_n (i := 0) X 0 (dkX12_readLine (0, .aload_n 0, 1) (pgm 0 rfl)) rfl rfl ?_
  refine so_ldcS (n := 53) (tx := "clouds") X (pgm 53 rfl) (dkX12_readLine (1, .ldc 221, 2) (pgm 1 rfl)) ?_
  refine so_callV (n := 1) (As := [.ref (200 + 53)]) X (ct_X12_took l this 53 h0 hk (by decide : 53 < NS)) hk (by decide) rfl lk_1861 lk_1863 lk_65 lk_134 lk_1864 (by decide +kernel) rfl rfl rfl (rm_ok (by omega) (by decide)) ⟨Nat.zero_le _, Nat.zero_le _⟩ (Nat.le_of_ble_eq_true rfl) (dkX12_readLine (3, .invokevirtual 149, 3) (pgm 2 rfl)) (fun r1 h2 => ?_) rfl
  refine so_join (jf := fun (h3 : PH) => cb (f_X12_readStop this h3) (fun (r4 : Unit) (h5 : PH) => some ((), h5))) (fun (j : PH → Option (Unit × PH)) => ∀  (h3 : PH), SWo (QM mkV below args s D cA ad A) p l e (rmd 71) s m args below meth c 0 0 1 D cA ad A 70 [(0, .ref this)] [] h3 (j h3)) ?_ (fun j70 hj70 => ?_)
  · intro h3
    refine so_aload_n (i := 0) X 0 (dkX12_readLine (70, .aload_n 0, 1) (pgm 36 rfl)) rfl rfl ?_
    refine so_callV (n := 0) (As := []) X (ct_X12_readStop l this h3 hk) hk (by decide) rfl lk_1880 lk_1882 lk_69 lk_134 lk_1883 (by decide +kernel) rfl rfl rfl (rm_ok (by omega) (by decide)) ⟨Nat.zero_le _, Nat.zero_le _⟩ (Nat.le_of_ble_eq_true rfl) (dkX12_readLine (71, .invokevirtual 230, 3) (pgm 37 rfl)) (fun r4 h5 => ?_) rfl
    exact so_vret X hr hlk (dkX12_readLine (74, .return_, 1) (pgm 38 rfl))
  refine so_if_eq (tgt := 25) X (dkX12_readLine (6, .ifCond .eq 19, 3) (pgm 3 rfl)) rfl (fun _ => ?_) (fun _ => ?_)
  · refine so_aload_n (i := 0) X 0 (dkX12_readLine (25, .aload_n 0, 1) (pgm 13 rfl)) rfl rfl ?_
    refine so_ldcS (n := 54) (tx := "wind") X (pgm 54 rfl) (dkX12_readLine (26, .ldc 223, 2) (pgm 14 rfl)) ?_
    refine so_callV (n := 1) (As := [.ref (200 + 54)]) X (ct_X12_took l this 54 h2 hk (by decide : 54 < NS)) hk (by decide) rfl lk_1861 lk_1863 lk_65 lk_134 lk_1864 (by decide +kernel) rfl rfl rfl (rm_ok (by omega) (by decide)) ⟨Nat.zero_le _, Nat.zero_le _⟩ (Nat.le_of_ble_eq_true rfl) (dkX12_readLine (28, .invokevirtual 149, 3) (pgm 15 rfl)) (fun r6 h7 => ?_) rfl
    refine so_if_eq (tgt := 49) X (dkX12_readLine (31, .ifCond .eq 18, 3) (pgm 16 rfl)) rfl (fun _ => ?_) (fun _ => ?_)
    · refine so_aload_n (i := 0) X 0 (dkX12_readLine (49, .aload_n 0, 1) (pgm 26 rfl)) rfl rfl ?_
      refine so_ldcS (n := 55) (tx := "wish") X (pgm 55 rfl) (dkX12_readLine (50, .ldc 225, 2) (pgm 27 rfl)) ?_
      refine so_callV (n := 1) (As := [.ref (200 + 55)]) X (ct_X12_isWord l this 55 h7 hk (by decide : 55 < NS)) hk (by decide) rfl lk_1865 lk_1867 lk_66 lk_134 lk_1868 (by decide +kernel) rfl rfl rfl (rm_ok (by omega) (by decide)) ⟨Nat.zero_le _, Nat.zero_le _⟩ (Nat.le_of_ble_eq_true rfl) (dkX12_readLine (52, .invokevirtual 142, 3) (pgm 28 rfl)) (fun r8 h9 => ?_) rfl
      refine so_if_eq (tgt := 65) X (dkX12_readLine (55, .ifCond .eq 10, 3) (pgm 29 rfl)) rfl (fun _ => ?_) (fun _ => ?_)
      · refine so_aload_n (i := 0) X 0 (dkX12_readLine (65, .aload_n 0, 1) (pgm 33 rfl)) rfl rfl ?_
        refine so_iconst (v := (2 : Int32)) X (dkX12_readLine (66, .iconst 2, 1) (pgm 34 rfl)) ic_2 ?_
        refine so_callV (n := 1) (As := [.int (2 : Int32)]) X (ct_X12_blames l this (2 : Int32) h9 hk) hk (by decide) rfl lk_1871 lk_1873 lk_67 lk_134 lk_1874 (by decide +kernel) rfl rfl rfl (rm_ok (by omega) (by decide)) ⟨Nat.zero_le _, Nat.zero_le _⟩ (Nat.le_of_ble_eq_true rfl) (dkX12_readLine (67, .invokevirtual 152, 3) (pgm 35 rfl)) (fun r10 h11 => ?_) rfl
        exact so_pick X [0] rfl (hj70 h11)
      · refine so_aload_n (i := 0) X 0 (dkX12_readLine (58, .aload_n 0, 1) (pgm 30 rfl)) rfl rfl ?_
        refine so_callV (n := 0) (As := []) X (ct_X12_readWish l this h9 hk) hk (by decide) rfl lk_1895 lk_1897 lk_72 lk_134 lk_1898 (by decide +kernel) rfl rfl rfl (rm_ok (by omega) (by decide)) ⟨Nat.zero_le _, Nat.zero_le _⟩ (Nat.le_of_ble_eq_true rfl) (dkX12_readLine (59, .invokevirtual 227, 3) (pgm 31 rfl)) (fun r12 h13 => ?_) rfl
        refine so_goto (tgt := 70) X (dkX12_readLine (62, .goto 8, 3) (pgm 32 rfl)) rfl ?_
        exact so_pick X [0] rfl (hj70 h13)
    · refine so_aload_n (i := 0) X 0 (dkX12_readLine (34, .aload_n 0, 1) (pgm 17 rfl)) rfl rfl ?_
      refine sf_getR X ff_12_1 lk_1703 hk (dkX12_readLine (35, .getfield 13, 3) (pgm 18 rfl)) ?_
      refine so_iconst (v := (4 : Int32)) X (dkX12_readLine (38, .iconst 4, 1) (pgm 19 rfl)) ic_4 ?_
      refine so_aload_n (i := 0) X 0 (dkX12_readLine (39, .aload_n 0, 1) (pgm 20 rfl)) rfl rfl ?_
      refine so_iconst (v := (0 : Int32)) X (dkX12_readLine (40, .iconst 0, 1) (pgm 21 rfl)) ic_0 ?_
      refine so_iconst (v := (3 : Int32)) X (dkX12_readLine (41, .iconst 3, 1) (pgm 22 rfl)) ic_3 ?_
      refine so_callV (n := 2) (As := [.int (0 : Int32), .int (3 : Int32)]) X (ct_X12_number l this (0 : Int32) (3 : Int32) h7 hk) hk (by decide) rfl lk_1875 lk_1877 lk_68 lk_134 lk_1878 (by decide +kernel) rfl rfl rfl (rm_ok (by omega) (by decide)) ⟨Nat.zero_le _, Nat.zero_le _⟩ (Nat.le_of_ble_eq_true rfl) (dkX12_readLine (42, .invokevirtual 201, 3) (pgm 23 rfl)) (fun r14 h15 => ?_) rfl
      refine so_iast X (rk_12_1 this hk) (dkX12_readLine (45, .iastore, 1) (pgm 24 rfl)) (fun h16 => ?_)
      refine so_goto (tgt := 70) X (dkX12_readLine (46, .goto 24, 3) (pgm 25 rfl)) rfl ?_
      exact so_pick X [0] rfl (hj70 h16)
  · refine so_aload_n (i := 0) X 0 (dkX12_readLine (9, .aload_n 0, 1) (pgm 4 rfl)) rfl rfl ?_
    refine sf_getR X ff_12_1 lk_1703 hk (dkX12_readLine (10, .getfield 13, 3) (pgm 5 rfl)) ?_
    refine so_iconst (v := (3 : Int32)) X (dkX12_readLine (13, .iconst 3, 1) (pgm 6 rfl)) ic_3 ?_
    refine so_aload_n (i := 0) X 0 (dkX12_readLine (14, .aload_n 0, 1) (pgm 7 rfl)) rfl rfl ?_
    refine so_iconst (v := (0 : Int32)) X (dkX12_readLine (15, .iconst 0, 1) (pgm 8 rfl)) ic_0 ?_
    refine so_bipush (v := (6 : Int32)) X (dkX12_readLine (16, .bipush 6, 2) (pgm 9 rfl)) bp_6 ?_
    refine so_callV (n := 2) (As := [.int (0 : Int32), .int (6 : Int32)]) X (ct_X12_number l this (0 : Int32) (6 : Int32) h2 hk) hk (by decide) rfl lk_1875 lk_1877 lk_68 lk_134 lk_1878 (by decide +kernel) rfl rfl rfl (rm_ok (by omega) (by decide)) ⟨Nat.zero_le _, Nat.zero_le _⟩ (Nat.le_of_ble_eq_true rfl) (dkX12_readLine (18, .invokevirtual 201, 3) (pgm 10 rfl)) (fun r17 h18 => ?_) rfl
    refine so_iast X (rk_12_1 this hk) (dkX12_readLine (21, .iastore, 1) (pgm 11 rfl)) (fun h19 => ?_)
    refine so_goto (tgt := 70) X (dkX12_readLine (22, .goto 48, 3) (pgm 12 rfl)) rfl ?_
    exact so_pick X [0] rfl (hj70 h19)
def pgX12_sky : List (Nat × Instr × Nat) := [(0, .aload_n 0, 1), (1, .iconst 0, 1), (2, .putfield 92, 3), (5, .iload_n 1, 1), (6, .i2l, 1), (7, .lconst 0, 1), (8, .aload_n 0, 1), (9, .getfield 95, 3), (12, .i2l, 1), (13, .invokestatic 156, 3), (16, .ifCond .ne 9, 3), (19, .aload_n 0, 1), (20, .iconst 1, 1), (21, .invokevirtual 233, 3), (24, .ireturn, 1), (25, .aload_n 0, 1), (26, .iload_n 1, 1), (27, .putfield 98, 3), (30, .aload_n 0, 1), (31, .iconst 0, 1), (32, .putfield 95, 3), (35, .aload_n 0, 1), (36, .iconst 0, 1), (37, .putfield 101, 3), (40, .aload_n 0, 1), (41, .iconst 0, 1), (42, .putfield 127, 3), (45, .aload_n 0, 1), (46, .iconst 0, 1), (47, .putfield 160, 3), (50, .iconst 0, 1), (51, .istore_n 2, 1), (52, .iload_n 2, 1), (53, .sipush 1200, 3), (56, .if_icmp .ge 16, 3), (59, .aload_n 0, 1), (60, .getfield 13, 3), (63, .iload_n 2, 1), (64, .iconst 0, 1), (65, .iastore, 1), (66, .iinc 2 1, 3), (69, .goto (-17), 3), (72, .aload_n 0, 1), (73, .getfield 13, 3), (76, .iconst 3, 1), (77, .iconst 3, 1), (78, .iastore, 1), (79, .aload_n 0, 1), (80, .invokevirtual 146, 3), (83, .aload_n 0, 1), (84, .ldc 236, 2), (86, .invokevirtual 213, 3), (89, .aload_n 0, 1), (90, .getfield 13, 3), (93, .iconst 1, 1), (94, .aload_n 0, 1), (95, .iconst 1, 1), (96, .iconst 4, 1), (97, .invokevirtual 201, 3), (100, .iastore, 1), (101, .aload_n 0, 1), (102, .getfield 13, 3), (105, .iconst 2, 1), (106, .aload_n 0, 1), (107, .iconst 1, 1), (108, .aload_n 0, 1), (109, .getfield 127, 3), (112, .ifCond .ne 20, 3), (115, .bipush 6, 2), (117, .bipush 12, 2), (119, .aload_n 0, 1), (120, .getfield 13, 3), (123, .iconst 1, 1), (124, .iaload, 1), (125, .idiv, 1), (126, .invokestatic 238, 3), (129, .goto 4, 3), (132, .iconst 1, 1), (133, .invokevirtual 201, 3), (136, .iastore, 1), (137, .aload_n 0, 1), (138, .invokevirtual 230, 3), (141, .aload_n 0, 1), (142, .getfield 127, 3), (145, .ifCond .ne 17, 3), (148, .aload_n 0, 1), (149, .getfield 107, 3), (152, .ifCond .eq 10, 3), (155, .aload_n 0, 1), (156, .invokevirtual 243, 3), (159, .goto (-18), 3), (162, .aload_n 0, 1), (163, .aload_n 0, 1), (164, .getfield 127, 3), (167, .putfield 246, 3), (170, .aload_n 0, 1), (171, .aload_n 0, 1), (172, .getfield 127, 3), (175, .ifCond .ne 7, 3), (178, .iconst (-1), 1), (179, .goto 7, 3), (182, .aload_n 0, 1), (183, .getfield 130, 3), (186, .putfield 29, 3), (189, .aload_n 0, 1), (190, .getfield 127, 3), (193, .ifCond .eq 11, 3), (196, .bipush (-10), 2), (198, .aload_n 0, 1), (199, .getfield 127, 3), (202, .isub, 1), (203, .ireturn, 1), (204, .iconst 0, 1), (205, .istore_n 2, 1), (206, .iload_n 2, 1), (207, .sipush 1200, 3), (210, .if_icmp .ge 21, 3), (213, .aload_n 0, 1), (214, .getfield 9, 3), (217, .iload_n 2, 1), (218, .aload_n 0, 1), (219, .getfield 13, 3), (222, .iload_n 2, 1), (223, .iaload, 1), (224, .iastore, 1), (225, .iinc 2 1, 3), (228, .goto (-22), 3), (231, .aload_n 0, 1), (232, .invokevirtual 89, 3), (235, .aload_n 0, 1), (236, .getfield 9, 3), (239, .iconst 0, 1), (240, .iaload, 1), (241, .ireturn, 1)]
theorem dkX12_sky : ∀ q ∈ pgX12_sky, decode cX12_sky q.1 = .ok q.2 := by decide +kernel
def b_X12_sky_206 (this : Nat) (j231 : PH → Option (Int32 × PH)) (rec206 : (Int32) → PH → Option (Int32 × PH)) (s206 : Int32) (hh206 : PH) : Option (Int32 × PH) :=
  if (1200 : Int32) ≤ s206 then (j231 hh206) else (ldI hh206 (rt this 1) 1200 s206 (fun (x36 : Int32) => stI hh206 (rt this 0) 1200 s206 x36 (fun (h37 : PH) => lt (s206 + Int32.ofInt 1) (fun (x38 : Int32) => rec206 x38 h37))))
def b_X12_sky_141 (this : Nat) (j162 : PH → Option (Int32 × PH)) (rec141 : (Unit) → PH → Option (Int32 × PH)) (s141 : Unit) (hh141 : PH) : Option (Int32 × PH) :=
  if (hh141.1 this 13) = 0 then (if (hh141.1 this 11) = 0 then (j162 hh141) else (cb (f_X12_readLine this hh141) (fun (r39 : Unit) (h40 : PH) => rec141 () h40))) else (j162 hh141)
def b_X12_sky_52 (this : Nat) (j72 : PH → Option (Int32 × PH)) (rec52 : (Int32) → PH → Option (Int32 × PH)) (s52 : Int32) (hh52 : PH) : Option (Int32 × PH) :=
  if (1200 : Int32) ≤ s52 then (j72 hh52) else (stI hh52 (rt this 1) 1200 s52 (0 : Int32) (fun (h42 : PH) => lt (s52 + Int32.ofInt 1) (fun (x43 : Int32) => rec52 x43 h42)))
def f_X12_sky (this : Nat) (a1 : Int32) (h0 : PH) : Option (Int32 × PH) :=
  lt (pI h0 this 5 (0 : Int32)) (fun (h1 : PH) => cb (f_X12_within a1.toInt64 (0 : Int64) ((h1.1 this 7).toInt64) h1) (fun (r2 : Int32) (h3 : PH) => if r2 = 0 then (cb (f_X12_fails this (1 : Int32) h3) (fun (r44 : Int32) (h45 : PH) => some (r44, h45))) else (lt (pI h3 this 8 a1) (fun (h4 : PH) => lt (pI h4 this 7 (0 : Int32)) (fun (h5 : PH) => lt (pI h5 this 9 (0 : Int32)) (fun (h6 : PH) => lt (pI h6 this 13 (0 : Int32)) (fun (h7 : PH) => lt (pI h7 this 17 (0 : Int32)) (fun (h8 : PH) => lt (0 : Int32) (fun (x9 : Int32) => lt (fun (h10 : PH) => stI h10 (rt this 1) 1200 (3 : Int32) (3 : Int32) (fun (h11 : PH) => cb (f_X12_readsOn this h11) (fun (r12 : Unit) (h13 : PH) => cb (f_X12_mustWord this 52 h13) (fun (r14 : Unit) (h15 : PH) => cb (f_X12_number this (1 : Int32) (4 : Int32) h15) (fun (r16 : Int32) (h17 : PH) => stI h17 (rt this 1) 1200 (1 : Int32) r16 (fun (h18 : PH) => lt (fun (t19 : Int32) (h20 : PH) => cb (f_X12_number this (1 : Int32) t19 h20) (fun (r21 : Int32) (h22 : PH) => stI h22 (rt this 1) 1200 (2 : Int32) r21 (fun (h23 : PH) => cb (f_X12_readStop this h23) (fun (r24 : Unit) (h25 : PH) => lt (fun (h26 : PH) => lt (pI h26 this 15 (h26.1 this 13)) (fun (h27 : PH) => lt (fun (t28 : Int32) (h29 : PH) => lt (pI h29 this 16 t28) (fun (h30 : PH) => if (h30.1 this 13) = 0 then (lt (0 : Int32) (fun (x31 : Int32) => lt (fun (h32 : PH) => cb (f_X12_laysTruths this h32) (fun (r33 : Unit) (h34 : PH) => ldI h34 (rt this 0) 1200 (0 : Int32) (fun (x35 : Int32) => some (x35, h34)))) (fun (j231 : PH → Option (Int32 × PH)) => lp (b_X12_sky_206 this j231) FU x31 h30))) else (some (((-10 : Int32) - (h30.1 this 13)), h30)))) (fun (j186 : Int32 → PH → Option (Int32 × PH)) => if (h27.1 this 13) = 0 then (j186 (-1 : Int32) h27) else (j186 (h27.1 this 14) h27)))) (fun (j162 : PH → Option (Int32 × PH)) => lp (b_X12_sky_141 this j162) FU () h25))))) (fun (j133 : Int32 → PH → Option (Int32 × PH)) => if (h18.1 this 13) = 0 then (ldI h18 (rt this 1) 1200 (1 : Int32) (fun (x41 : Int32) => nz x41 (j133 (if ((12 : Int32) / x41) < (6 : Int32) then ((12 : Int32) / x41) else (6 : Int32)) h18))) else (j133 (1 : Int32) h18)))))))) (fun (j72 : PH → Option (Int32 × PH)) => lp (b_X12_sky_52 this j72) FU x9 h8))))))))))
set_option maxRecDepth 100000 in
set_option maxHeartbeats 4000000 in
theorem ct_X12_sky (l : Launch) (this : Nat) (a1 : Int32) (h0 : PH) (hk : (kd this).1 = 12) : CT mkI l yX12_sky cX12_sky 3 (some .int) (rmd 72) [.ref this, .int a1] h0 (f_X12_sky this a1 h0) := by
  refine ct_of (by decide) (Nat.le_of_ble_eq_true rfl) ?_
  intro p e s m args below meth c D cA ad A X hr hlk
  have X : Cx p s m args c RX12 cX12_sky 3 D cA ad A := X
  unfold f_X12_sky
  refine so_pick (L' := [(0, .ref this), (1, .int a1)]) X [0, 1] rfl ?_
  refine so_aload_n (i := 0) X 0 (dkX12_sky (0, .aload_n 0, 1) (pgm 0 rfl)) rfl rfl ?_
  refine so_iconst (v := (0 : Int32)) X (dkX12_sky (1, .iconst 0, 1) (pgm 1 rfl)) ic_0 ?_
  refine sf_putI X ff_12_5 ft_12 rfl lk_1707 hk rfl rfl (dkX12_sky (2, .putfield 92, 3) (pgm 2 rfl)) (fun h1 => ?_)
  refine so_iload_n (i := 1) X 1 (dkX12_sky (5, .iload_n 1, 1) (pgm 3 rfl)) rfl rfl ?_
  refine so_i2l X (dkX12_sky (6, .i2l, 1) (pgm 4 rfl)) ?_
  refine so_lconst (v := (0 : Int64)) X (dkX12_sky (7, .lconst 0, 1) (pgm 5 rfl)) lc_0 ?_
  refine so_aload_n (i := 0) X 0 (dkX12_sky (8, .aload_n 0, 1) (pgm 6 rfl)) rfl rfl ?_
  refine sf_getI X ff_12_7 lk_1709 hk (dkX12_sky (9, .getfield 95, 3) (pgm 7 rfl)) ?_
  refine so_i2l X (dkX12_sky (12, .i2l, 1) (pgm 8 rfl)) ?_
  refine so_callS (n := 3) (As := [.long a1.toInt64, .long (0 : Int64), .long ((h1.1 this 7).toInt64)]) X (ct_X12_within l a1.toInt64 (0 : Int64) ((h1.1 this 7).toInt64) h1 ) lk_1832 lk_1833 lk_134 lk_1834 (by decide +kernel) rfl rfl rfl (rm_ok (by omega) (by decide)) ⟨Nat.zero_le _, Nat.zero_le _⟩ (Nat.le_of_ble_eq_true rfl) (dkX12_sky (13, .invokestatic 156, 3) (pgm 9 rfl)) (fun r2 h3 => ?_) rfl
  refine so_if_ne (tgt := 25) X (dkX12_sky (16, .ifCond .ne 9, 3) (pgm 10 rfl)) rfl (fun _ => ?_) (fun _ => ?_)
  · refine so_aload_n (i := 0) X 0 (dkX12_sky (25, .aload_n 0, 1) (pgm 15 rfl)) rfl rfl ?_
    refine so_iload_n (i := 1) X 1 (dkX12_sky (26, .iload_n 1, 1) (pgm 16 rfl)) rfl rfl ?_
    refine sf_putI X ff_12_8 ft_12 rfl lk_1710 hk rfl rfl (dkX12_sky (27, .putfield 98, 3) (pgm 17 rfl)) (fun h4 => ?_)
    refine so_aload_n (i := 0) X 0 (dkX12_sky (30, .aload_n 0, 1) (pgm 18 rfl)) rfl rfl ?_
    refine so_iconst (v := (0 : Int32)) X (dkX12_sky (31, .iconst 0, 1) (pgm 19 rfl)) ic_0 ?_
    refine sf_putI X ff_12_7 ft_12 rfl lk_1709 hk rfl rfl (dkX12_sky (32, .putfield 95, 3) (pgm 20 rfl)) (fun h5 => ?_)
    refine so_aload_n (i := 0) X 0 (dkX12_sky (35, .aload_n 0, 1) (pgm 21 rfl)) rfl rfl ?_
    refine so_iconst (v := (0 : Int32)) X (dkX12_sky (36, .iconst 0, 1) (pgm 22 rfl)) ic_0 ?_
    refine sf_putI X ff_12_9 ft_12 rfl lk_1711 hk rfl rfl (dkX12_sky (37, .putfield 101, 3) (pgm 23 rfl)) (fun h6 => ?_)
    refine so_aload_n (i := 0) X 0 (dkX12_sky (40, .aload_n 0, 1) (pgm 24 rfl)) rfl rfl ?_
    refine so_iconst (v := (0 : Int32)) X (dkX12_sky (41, .iconst 0, 1) (pgm 25 rfl)) ic_0 ?_
    refine sf_putI X ff_12_13 ft_12 rfl lk_1715 hk rfl rfl (dkX12_sky (42, .putfield 127, 3) (pgm 26 rfl)) (fun h7 => ?_)
    refine so_aload_n (i := 0) X 0 (dkX12_sky (45, .aload_n 0, 1) (pgm 27 rfl)) rfl rfl ?_
    refine so_iconst (v := (0 : Int32)) X (dkX12_sky (46, .iconst 0, 1) (pgm 28 rfl)) ic_0 ?_
    refine sf_putI X ff_12_17 ft_12 rfl lk_1719 hk rfl rfl (dkX12_sky (47, .putfield 160, 3) (pgm 29 rfl)) (fun h8 => ?_)
    refine so_iconst (v := (0 : Int32)) X (dkX12_sky (50, .iconst 0, 1) (pgm 30 rfl)) ic_0 ?_
    refine so_istore_n (i := 2) X (dkX12_sky (51, .istore_n 2, 1) (pgm 31 rfl)) rfl (by decide) (Lf := fun x9 => [(2, .int x9), (0, .ref this), (1, .int a1)]) (fun _ => rfl) (fun x9 => ?_)
    refine so_join (jf := fun (h10 : PH) => stI h10 (rt this 1) 1200 (3 : Int32) (3 : Int32) (fun (h11 : PH) => cb (f_X12_readsOn this h11) (fun (r12 : Unit) (h13 : PH) => cb (f_X12_mustWord this 52 h13) (fun (r14 : Unit) (h15 : PH) => cb (f_X12_number this (1 : Int32) (4 : Int32) h15) (fun (r16 : Int32) (h17 : PH) => stI h17 (rt this 1) 1200 (1 : Int32) r16 (fun (h18 : PH) => lt (fun (t19 : Int32) (h20 : PH) => cb (f_X12_number this (1 : Int32) t19 h20) (fun (r21 : Int32) (h22 : PH) => stI h22 (rt this 1) 1200 (2 : Int32) r21 (fun (h23 : PH) => cb (f_X12_readStop this h23) (fun (r24 : Unit) (h25 : PH) => lt (fun (h26 : PH) => lt (pI h26 this 15 (h26.1 this 13)) (fun (h27 : PH) => lt (fun (t28 : Int32) (h29 : PH) => lt (pI h29 this 16 t28) (fun (h30 : PH) => if (h30.1 this 13) = 0 then (lt (0 : Int32) (fun (x31 : Int32) => lt (fun (h32 : PH) => cb (f_X12_laysTruths this h32) (fun (r33 : Unit) (h34 : PH) => ldI h34 (rt this 0) 1200 (0 : Int32) (fun (x35 : Int32) => some (x35, h34)))) (fun (j231 : PH → Option (Int32 × PH)) => lp (b_X12_sky_206 this j231) FU x31 h30))) else (some (((-10 : Int32) - (h30.1 this 13)), h30)))) (fun (j186 : Int32 → PH → Option (Int32 × PH)) => if (h27.1 this 13) = 0 then (j186 (-1 : Int32) h27) else (j186 (h27.1 this 14) h27)))) (fun (j162 : PH → Option (Int32 × PH)) => lp (b_X12_sky_141 this j162) FU () h25))))) (fun (j133 : Int32 → PH → Option (Int32 × PH)) => if (h18.1 this 13) = 0 then (ldI h18 (rt this 1) 1200 (1 : Int32) (fun (x41 : Int32) => nz x41 (j133 (if ((12 : Int32) / x41) < (6 : Int32) then ((12 : Int32) / x41) else (6 : Int32)) h18))) else (j133 (1 : Int32) h18)))))))) (fun (j : PH → Option (Int32 × PH)) => ∀  (h10 : PH), SWo (QM mkI below args s D cA ad A) p l e (rmd 72) s m args below meth c 0 0 3 D cA ad A 72 [(0, .ref this)] [] h10 (j h10)) ?_ (fun j72 hj72 => ?_)
    · intro h10
      refine so_aload_n (i := 0) X 0 (dkX12_sky (72, .aload_n 0, 1) (pgm 42 rfl)) rfl rfl ?_
      refine sf_getR X ff_12_1 lk_1703 hk (dkX12_sky (73, .getfield 13, 3) (pgm 43 rfl)) ?_
      refine so_iconst (v := (3 : Int32)) X (dkX12_sky (76, .iconst 3, 1) (pgm 44 rfl)) ic_3 ?_
      refine so_iconst (v := (3 : Int32)) X (dkX12_sky (77, .iconst 3, 1) (pgm 45 rfl)) ic_3 ?_
      refine so_iast X (rk_12_1 this hk) (dkX12_sky (78, .iastore, 1) (pgm 46 rfl)) (fun h11 => ?_)
      refine so_aload_n (i := 0) X 0 (dkX12_sky (79, .aload_n 0, 1) (pgm 47 rfl)) rfl rfl ?_
      refine so_callV (n := 0) (As := []) X (ct_X12_readsOn l this h11 hk) hk (by decide) rfl lk_1839 lk_1841 lk_62 lk_134 lk_1842 (by decide +kernel) rfl rfl rfl (rm_ok (by omega) (by decide)) ⟨Nat.zero_le _, Nat.zero_le _⟩ (Nat.le_of_ble_eq_true rfl) (dkX12_sky (80, .invokevirtual 146, 3) (pgm 48 rfl)) (fun r12 h13 => ?_) rfl
      refine so_aload_n (i := 0) X 0 (dkX12_sky (83, .aload_n 0, 1) (pgm 49 rfl)) rfl rfl ?_
      refine so_ldcS (n := 52) (tx := "sky") X (pgm 52 rfl) (dkX12_sky (84, .ldc 236, 2) (pgm 50 rfl)) ?_
      refine so_callV (n := 1) (As := [.ref (200 + 52)]) X (ct_X12_mustWord l this 52 h13 hk (by decide : 52 < NS)) hk (by decide) rfl lk_1857 lk_1859 lk_64 lk_134 lk_1860 (by decide +kernel) rfl rfl rfl (rm_ok (by omega) (by decide)) ⟨Nat.zero_le _, Nat.zero_le _⟩ (Nat.le_of_ble_eq_true rfl) (dkX12_sky (86, .invokevirtual 213, 3) (pgm 51 rfl)) (fun r14 h15 => ?_) rfl
      refine so_aload_n (i := 0) X 0 (dkX12_sky (89, .aload_n 0, 1) (pgm 52 rfl)) rfl rfl ?_
      refine sf_getR X ff_12_1 lk_1703 hk (dkX12_sky (90, .getfield 13, 3) (pgm 53 rfl)) ?_
      refine so_iconst (v := (1 : Int32)) X (dkX12_sky (93, .iconst 1, 1) (pgm 54 rfl)) ic_1 ?_
      refine so_aload_n (i := 0) X 0 (dkX12_sky (94, .aload_n 0, 1) (pgm 55 rfl)) rfl rfl ?_
      refine so_iconst (v := (1 : Int32)) X (dkX12_sky (95, .iconst 1, 1) (pgm 56 rfl)) ic_1 ?_
      refine so_iconst (v := (4 : Int32)) X (dkX12_sky (96, .iconst 4, 1) (pgm 57 rfl)) ic_4 ?_
      refine so_callV (n := 2) (As := [.int (1 : Int32), .int (4 : Int32)]) X (ct_X12_number l this (1 : Int32) (4 : Int32) h15 hk) hk (by decide) rfl lk_1875 lk_1877 lk_68 lk_134 lk_1878 (by decide +kernel) rfl rfl rfl (rm_ok (by omega) (by decide)) ⟨Nat.zero_le _, Nat.zero_le _⟩ (Nat.le_of_ble_eq_true rfl) (dkX12_sky (97, .invokevirtual 201, 3) (pgm 58 rfl)) (fun r16 h17 => ?_) rfl
      refine so_iast X (rk_12_1 this hk) (dkX12_sky (100, .iastore, 1) (pgm 59 rfl)) (fun h18 => ?_)
      refine so_aload_n (i := 0) X 0 (dkX12_sky (101, .aload_n 0, 1) (pgm 60 rfl)) rfl rfl ?_
      refine sf_getR X ff_12_1 lk_1703 hk (dkX12_sky (102, .getfield 13, 3) (pgm 61 rfl)) ?_
      refine so_iconst (v := (2 : Int32)) X (dkX12_sky (105, .iconst 2, 1) (pgm 62 rfl)) ic_2 ?_
      refine so_aload_n (i := 0) X 0 (dkX12_sky (106, .aload_n 0, 1) (pgm 63 rfl)) rfl rfl ?_
      refine so_iconst (v := (1 : Int32)) X (dkX12_sky (107, .iconst 1, 1) (pgm 64 rfl)) ic_1 ?_
      refine so_aload_n (i := 0) X 0 (dkX12_sky (108, .aload_n 0, 1) (pgm 65 rfl)) rfl rfl ?_
      refine sf_getI X ff_12_13 lk_1715 hk (dkX12_sky (109, .getfield 127, 3) (pgm 66 rfl)) ?_
      refine so_join (jf := fun (t19 : Int32) (h20 : PH) => cb (f_X12_number this (1 : Int32) t19 h20) (fun (r21 : Int32) (h22 : PH) => stI h22 (rt this 1) 1200 (2 : Int32) r21 (fun (h23 : PH) => cb (f_X12_readStop this h23) (fun (r24 : Unit) (h25 : PH) => lt (fun (h26 : PH) => lt (pI h26 this 15 (h26.1 this 13)) (fun (h27 : PH) => lt (fun (t28 : Int32) (h29 : PH) => lt (pI h29 this 16 t28) (fun (h30 : PH) => if (h30.1 this 13) = 0 then (lt (0 : Int32) (fun (x31 : Int32) => lt (fun (h32 : PH) => cb (f_X12_laysTruths this h32) (fun (r33 : Unit) (h34 : PH) => ldI h34 (rt this 0) 1200 (0 : Int32) (fun (x35 : Int32) => some (x35, h34)))) (fun (j231 : PH → Option (Int32 × PH)) => lp (b_X12_sky_206 this j231) FU x31 h30))) else (some (((-10 : Int32) - (h30.1 this 13)), h30)))) (fun (j186 : Int32 → PH → Option (Int32 × PH)) => if (h27.1 this 13) = 0 then (j186 (-1 : Int32) h27) else (j186 (h27.1 this 14) h27)))) (fun (j162 : PH → Option (Int32 × PH)) => lp (b_X12_sky_141 this j162) FU () h25))))) (fun (j : Int32 → PH → Option (Int32 × PH)) => ∀ (t19 : Int32) (h20 : PH), SWo (QM mkI below args s D cA ad A) p l e (rmd 72) s m args below meth c 0 0 3 D cA ad A 133 [(0, .ref this)] [.int t19, .int (1 : Int32), .ref this, .int (2 : Int32), .ref (rt this 1)] h20 (j t19 h20)) ?_ (fun j133 hj133 => ?_)
      · intro t19 h20
        refine so_callV (n := 2) (As := [.int (1 : Int32), .int t19]) X (ct_X12_number l this (1 : Int32) t19 h20 hk) hk (by decide) rfl lk_1875 lk_1877 lk_68 lk_134 lk_1878 (by decide +kernel) rfl rfl rfl (rm_ok (by omega) (by decide)) ⟨Nat.zero_le _, Nat.zero_le _⟩ (Nat.le_of_ble_eq_true rfl) (dkX12_sky (133, .invokevirtual 201, 3) (pgm 78 rfl)) (fun r21 h22 => ?_) rfl
        refine so_iast X (rk_12_1 this hk) (dkX12_sky (136, .iastore, 1) (pgm 79 rfl)) (fun h23 => ?_)
        refine so_aload_n (i := 0) X 0 (dkX12_sky (137, .aload_n 0, 1) (pgm 80 rfl)) rfl rfl ?_
        refine so_callV (n := 0) (As := []) X (ct_X12_readStop l this h23 hk) hk (by decide) rfl lk_1880 lk_1882 lk_69 lk_134 lk_1883 (by decide +kernel) rfl rfl rfl (rm_ok (by omega) (by decide)) ⟨Nat.zero_le _, Nat.zero_le _⟩ (Nat.le_of_ble_eq_true rfl) (dkX12_sky (138, .invokevirtual 230, 3) (pgm 81 rfl)) (fun r24 h25 => ?_) rfl
        refine so_join (jf := fun (h26 : PH) => lt (pI h26 this 15 (h26.1 this 13)) (fun (h27 : PH) => lt (fun (t28 : Int32) (h29 : PH) => lt (pI h29 this 16 t28) (fun (h30 : PH) => if (h30.1 this 13) = 0 then (lt (0 : Int32) (fun (x31 : Int32) => lt (fun (h32 : PH) => cb (f_X12_laysTruths this h32) (fun (r33 : Unit) (h34 : PH) => ldI h34 (rt this 0) 1200 (0 : Int32) (fun (x35 : Int32) => some (x35, h34)))) (fun (j231 : PH → Option (Int32 × PH)) => lp (b_X12_sky_206 this j231) FU x31 h30))) else (some (((-10 : Int32) - (h30.1 this 13)), h30)))) (fun (j186 : Int32 → PH → Option (Int32 × PH)) => if (h27.1 this 13) = 0 then (j186 (-1 : Int32) h27) else (j186 (h27.1 this 14) h27)))) (fun (j : PH → Option (Int32 × PH)) => ∀  (h26 : PH), SWo (QM mkI below args s D cA ad A) p l e (rmd 72) s m args below meth c 0 0 3 D cA ad A 162 [(0, .ref this)] [] h26 (j h26)) ?_ (fun j162 hj162 => ?_)
        · intro h26
          refine so_aload_n (i := 0) X 0 (dkX12_sky (162, .aload_n 0, 1) (pgm 91 rfl)) rfl rfl ?_
          refine so_aload_n (i := 0) X 0 (dkX12_sky (163, .aload_n 0, 1) (pgm 92 rfl)) rfl rfl ?_
          refine sf_getI X ff_12_13 lk_1715 hk (dkX12_sky (164, .getfield 127, 3) (pgm 93 rfl)) ?_
          refine sf_putI X ff_12_15 ft_12 rfl lk_1717 hk rfl rfl (dkX12_sky (167, .putfield 246, 3) (pgm 94 rfl)) (fun h27 => ?_)
          refine so_aload_n (i := 0) X 0 (dkX12_sky (170, .aload_n 0, 1) (pgm 95 rfl)) rfl rfl ?_
          refine so_aload_n (i := 0) X 0 (dkX12_sky (171, .aload_n 0, 1) (pgm 96 rfl)) rfl rfl ?_
          refine sf_getI X ff_12_13 lk_1715 hk (dkX12_sky (172, .getfield 127, 3) (pgm 97 rfl)) ?_
          refine so_join (jf := fun (t28 : Int32) (h29 : PH) => lt (pI h29 this 16 t28) (fun (h30 : PH) => if (h30.1 this 13) = 0 then (lt (0 : Int32) (fun (x31 : Int32) => lt (fun (h32 : PH) => cb (f_X12_laysTruths this h32) (fun (r33 : Unit) (h34 : PH) => ldI h34 (rt this 0) 1200 (0 : Int32) (fun (x35 : Int32) => some (x35, h34)))) (fun (j231 : PH → Option (Int32 × PH)) => lp (b_X12_sky_206 this j231) FU x31 h30))) else (some (((-10 : Int32) - (h30.1 this 13)), h30)))) (fun (j : Int32 → PH → Option (Int32 × PH)) => ∀ (t28 : Int32) (h29 : PH), SWo (QM mkI below args s D cA ad A) p l e (rmd 72) s m args below meth c 0 0 3 D cA ad A 186 [(0, .ref this)] [.int t28, .ref this] h29 (j t28 h29)) ?_ (fun j186 hj186 => ?_)
          · intro t28 h29
            refine sf_putI X ff_12_16 ft_12 rfl lk_1718 hk rfl rfl (dkX12_sky (186, .putfield 29, 3) (pgm 103 rfl)) (fun h30 => ?_)
            refine so_aload_n (i := 0) X 0 (dkX12_sky (189, .aload_n 0, 1) (pgm 104 rfl)) rfl rfl ?_
            refine sf_getI X ff_12_13 lk_1715 hk (dkX12_sky (190, .getfield 127, 3) (pgm 105 rfl)) ?_
            refine so_if_eq (tgt := 204) X (dkX12_sky (193, .ifCond .eq 11, 3) (pgm 106 rfl)) rfl (fun _ => ?_) (fun _ => ?_)
            · refine so_iconst (v := (0 : Int32)) X (dkX12_sky (204, .iconst 0, 1) (pgm 112 rfl)) ic_0 ?_
              refine so_istore_n (i := 2) X (dkX12_sky (205, .istore_n 2, 1) (pgm 113 rfl)) rfl (by decide) (Lf := fun x31 => [(2, .int x31), (0, .ref this)]) (fun _ => rfl) (fun x31 => ?_)
              refine so_join (jf := fun (h32 : PH) => cb (f_X12_laysTruths this h32) (fun (r33 : Unit) (h34 : PH) => ldI h34 (rt this 0) 1200 (0 : Int32) (fun (x35 : Int32) => some (x35, h34)))) (fun (j : PH → Option (Int32 × PH)) => ∀  (h32 : PH), SWo (QM mkI below args s D cA ad A) p l e (rmd 72) s m args below meth c 0 0 3 D cA ad A 231 [(0, .ref this)] [] h32 (j h32)) ?_ (fun j231 hj231 => ?_)
              · intro h32
                refine so_aload_n (i := 0) X 0 (dkX12_sky (231, .aload_n 0, 1) (pgm 127 rfl)) rfl rfl ?_
                refine so_callV (n := 0) (As := []) X (ct_X12_laysTruths l this h32 hk) hk (by decide) rfl lk_1660 lk_1662 lk_55 lk_134 lk_1663 (by decide +kernel) rfl rfl rfl (rm_ok (by omega) (by decide)) ⟨Nat.zero_le _, Nat.zero_le _⟩ (Nat.le_of_ble_eq_true rfl) (dkX12_sky (232, .invokevirtual 89, 3) (pgm 128 rfl)) (fun r33 h34 => ?_) rfl
                refine so_aload_n (i := 0) X 0 (dkX12_sky (235, .aload_n 0, 1) (pgm 129 rfl)) rfl rfl ?_
                refine sf_getR X ff_12_0 lk_1702 hk (dkX12_sky (236, .getfield 9, 3) (pgm 130 rfl)) ?_
                refine so_iconst (v := (0 : Int32)) X (dkX12_sky (239, .iconst 0, 1) (pgm 131 rfl)) ic_0 ?_
                refine so_iald X (rk_12_0 this hk) (dkX12_sky (240, .iaload, 1) (pgm 132 rfl)) (fun x35 => ?_)
                exact so_iret X hr hlk (dkX12_sky (241, .ireturn, 1) (pgm 133 rfl))
              refine so_pick (L' := [(0, .ref this), (2, .int x31)]) X [1, 0] rfl ?_
              refine so_loop (body := b_X12_sky_206 this j231) (fun (s206 : Int32) => [(0, .ref this), (2, .int s206)]) (fun rec206 hrec206 s206 hh206 => ?_) FU x31 h30
              unfold b_X12_sky_206
              refine so_iload_n (i := 2) X 1 (dkX12_sky (206, .iload_n 2, 1) (pgm 114 rfl)) rfl rfl ?_
              refine so_sipush (v := (1200 : Int32)) X (dkX12_sky (207, .sipush 1200, 3) (pgm 115 rfl)) sp_1200 ?_
              refine so_icmp_ge (tgt := 231) X (dkX12_sky (210, .if_icmp .ge 21, 3) (pgm 116 rfl)) rfl (fun _ => ?_) (fun _ => ?_)
              · exact so_pick X [0] rfl (hj231 hh206)
              · refine so_aload_n (i := 0) X 0 (dkX12_sky (213, .aload_n 0, 1) (pgm 117 rfl)) rfl rfl ?_
                refine sf_getR X ff_12_0 lk_1702 hk (dkX12_sky (214, .getfield 9, 3) (pgm 118 rfl)) ?_
                refine so_iload_n (i := 2) X 1 (dkX12_sky (217, .iload_n 2, 1) (pgm 119 rfl)) rfl rfl ?_
                refine so_aload_n (i := 0) X 0 (dkX12_sky (218, .aload_n 0, 1) (pgm 120 rfl)) rfl rfl ?_
                refine sf_getR X ff_12_1 lk_1703 hk (dkX12_sky (219, .getfield 13, 3) (pgm 121 rfl)) ?_
                refine so_iload_n (i := 2) X 1 (dkX12_sky (222, .iload_n 2, 1) (pgm 122 rfl)) rfl rfl ?_
                refine so_iald X (rk_12_1 this hk) (dkX12_sky (223, .iaload, 1) (pgm 123 rfl)) (fun x36 => ?_)
                refine so_iast X (rk_12_0 this hk) (dkX12_sky (224, .iastore, 1) (pgm 124 rfl)) (fun h37 => ?_)
                refine so_iinc (i := 2) X 1 (dkX12_sky (225, .iinc 2 1, 3) (pgm 125 rfl)) rfl rfl (by decide) (Lf := fun x38 => [(2, .int x38), (0, .ref this)]) (fun _ => rfl) (fun x38 => ?_)
                refine so_goto (tgt := 206) X (dkX12_sky (228, .goto (-22), 3) (pgm 126 rfl)) rfl ?_
                exact so_pick X [1, 0] rfl (hrec206 x38 h37)
            · refine so_bipush (v := (-10 : Int32)) X (dkX12_sky (196, .bipush (-10), 2) (pgm 107 rfl)) bp_m10 ?_
              refine so_aload_n (i := 0) X 0 (dkX12_sky (198, .aload_n 0, 1) (pgm 108 rfl)) rfl rfl ?_
              refine sf_getI X ff_12_13 lk_1715 hk (dkX12_sky (199, .getfield 127, 3) (pgm 109 rfl)) ?_
              refine so_isub X (dkX12_sky (202, .isub, 1) (pgm 110 rfl)) ?_
              exact so_iret X hr hlk (dkX12_sky (203, .ireturn, 1) (pgm 111 rfl))
          refine so_if_ne (tgt := 182) X (dkX12_sky (175, .ifCond .ne 7, 3) (pgm 98 rfl)) rfl (fun _ => ?_) (fun _ => ?_)
          · refine so_aload_n (i := 0) X 0 (dkX12_sky (182, .aload_n 0, 1) (pgm 101 rfl)) rfl rfl ?_
            refine sf_getI X ff_12_14 lk_1716 hk (dkX12_sky (183, .getfield 130, 3) (pgm 102 rfl)) ?_
            exact so_pick X [0] rfl (hj186 (h27.1 this 14) h27)
          · refine so_iconst (v := (-1 : Int32)) X (dkX12_sky (178, .iconst (-1), 1) (pgm 99 rfl)) ic_m1 ?_
            refine so_goto (tgt := 186) X (dkX12_sky (179, .goto 7, 3) (pgm 100 rfl)) rfl ?_
            exact so_pick X [0] rfl (hj186 (-1 : Int32) h27)
        refine so_pick (L' := [(0, .ref this)]) X [0] rfl ?_
        refine so_loop (body := b_X12_sky_141 this j162) (fun (s141 : Unit) => [(0, .ref this)]) (fun rec141 hrec141 s141 hh141 => ?_) FU () h25
        unfold b_X12_sky_141
        refine so_aload_n (i := 0) X 0 (dkX12_sky (141, .aload_n 0, 1) (pgm 82 rfl)) rfl rfl ?_
        refine sf_getI X ff_12_13 lk_1715 hk (dkX12_sky (142, .getfield 127, 3) (pgm 83 rfl)) ?_
        refine so_if_ne (tgt := 162) X (dkX12_sky (145, .ifCond .ne 17, 3) (pgm 84 rfl)) rfl (fun _ => ?_) (fun _ => ?_)
        · exact so_pick X [0] rfl (hj162 hh141)
        · refine so_aload_n (i := 0) X 0 (dkX12_sky (148, .aload_n 0, 1) (pgm 85 rfl)) rfl rfl ?_
          refine sf_getI X ff_12_11 lk_1713 hk (dkX12_sky (149, .getfield 107, 3) (pgm 86 rfl)) ?_
          refine so_if_eq (tgt := 162) X (dkX12_sky (152, .ifCond .eq 10, 3) (pgm 87 rfl)) rfl (fun _ => ?_) (fun _ => ?_)
          · exact so_pick X [0] rfl (hj162 hh141)
          · refine so_aload_n (i := 0) X 0 (dkX12_sky (155, .aload_n 0, 1) (pgm 88 rfl)) rfl rfl ?_
            refine so_callV (n := 0) (As := []) X (ct_X12_readLine l this hh141 hk) hk (by decide) rfl lk_1888 lk_1890 lk_71 lk_134 lk_1891 (by decide +kernel) rfl rfl rfl (rm_ok (by omega) (by decide)) ⟨Nat.zero_le _, Nat.zero_le _⟩ (Nat.le_of_ble_eq_true rfl) (dkX12_sky (156, .invokevirtual 243, 3) (pgm 89 rfl)) (fun r39 h40 => ?_) rfl
            refine so_goto (tgt := 141) X (dkX12_sky (159, .goto (-18), 3) (pgm 90 rfl)) rfl ?_
            exact so_pick X [0] rfl (hrec141 () h40)
      refine so_if_ne (tgt := 132) X (dkX12_sky (112, .ifCond .ne 20, 3) (pgm 67 rfl)) rfl (fun _ => ?_) (fun _ => ?_)
      · refine so_iconst (v := (1 : Int32)) X (dkX12_sky (132, .iconst 1, 1) (pgm 77 rfl)) ic_1 ?_
        exact so_pick X [0] rfl (hj133 (1 : Int32) h18)
      · refine so_bipush (v := (6 : Int32)) X (dkX12_sky (115, .bipush 6, 2) (pgm 68 rfl)) bp_6 ?_
        refine so_bipush (v := (12 : Int32)) X (dkX12_sky (117, .bipush 12, 2) (pgm 69 rfl)) bp_12 ?_
        refine so_aload_n (i := 0) X 0 (dkX12_sky (119, .aload_n 0, 1) (pgm 70 rfl)) rfl rfl ?_
        refine sf_getR X ff_12_1 lk_1703 hk (dkX12_sky (120, .getfield 13, 3) (pgm 71 rfl)) ?_
        refine so_iconst (v := (1 : Int32)) X (dkX12_sky (123, .iconst 1, 1) (pgm 72 rfl)) ic_1 ?_
        refine so_iald X (rk_12_1 this hk) (dkX12_sky (124, .iaload, 1) (pgm 73 rfl)) (fun x41 => ?_)
        refine so_idiv X (dkX12_sky (125, .idiv, 1) (pgm 74 rfl)) (fun _ => ?_)
        refine so_mmin X lk_1879 lk_904 lk_135 lk_905 (Nat.le_of_ble_eq_true rfl) (Nat.le_of_ble_eq_true rfl) ⟨Nat.zero_le _, Nat.zero_le _⟩ (dkX12_sky (126, .invokestatic 238, 3) (pgm 75 rfl)) ?_
        refine so_goto (tgt := 133) X (dkX12_sky (129, .goto 4, 3) (pgm 76 rfl)) rfl ?_
        exact so_pick X [0] rfl (hj133 (if ((12 : Int32) / x41) < (6 : Int32) then ((12 : Int32) / x41) else (6 : Int32)) h18)
    refine so_pick (L' := [(0, .ref this), (2, .int x9)]) X [1, 0] rfl ?_
    refine so_loop (body := b_X12_sky_52 this j72) (fun (s52 : Int32) => [(0, .ref this), (2, .int s52)]) (fun rec52 hrec52 s52 hh52 => ?_) FU x9 h8
    unfold b_X12_sky_52
    refine so_iload_n (i := 2) X 1 (dkX12_sky (52, .iload_n 2, 1) (pgm 32 rfl)) rfl rfl ?_
    refine so_sipush (v := (1200 : Int32)) X (dkX12_sky (53, .sipush 1200, 3) (pgm 33 rfl)) sp_1200 ?_
    refine so_icmp_ge (tgt := 72) X (dkX12_sky (56, .if_icmp .ge 16, 3) (pgm 34 rfl)) rfl (fun _ => ?_) (fun _ => ?_)
    · exact so_pick X [0] rfl (hj72 hh52)
    · refine so_aload_n (i := 0) X 0 (dkX12_sky (59, .aload_n 0, 1) (pgm 35 rfl)) rfl rfl ?_
      refine sf_getR X ff_12_1 lk_1703 hk (dkX12_sky (60, .getfield 13, 3) (pgm 36 rfl)) ?_
      refine so_iload_n (i := 2) X 1 (dkX12_sky (63, .iload_n 2, 1) (pgm 37 rfl)) rfl rfl ?_
      refine so_iconst (v := (0 : Int32)) X (dkX12_sky (64, .iconst 0, 1) (pgm 38 rfl)) ic_0 ?_
      refine so_iast X (rk_12_1 this hk) (dkX12_sky (65, .iastore, 1) (pgm 39 rfl)) (fun h42 => ?_)
      refine so_iinc (i := 2) X 1 (dkX12_sky (66, .iinc 2 1, 3) (pgm 40 rfl)) rfl rfl (by decide) (Lf := fun x43 => [(2, .int x43), (0, .ref this)]) (fun _ => rfl) (fun x43 => ?_)
      refine so_goto (tgt := 52) X (dkX12_sky (69, .goto (-17), 3) (pgm 41 rfl)) rfl ?_
      exact so_pick X [1, 0] rfl (hrec52 x43 h42)
  · refine so_aload_n (i := 0) X 0 (dkX12_sky (19, .aload_n 0, 1) (pgm 11 rfl)) rfl rfl ?_
    refine so_iconst (v := (1 : Int32)) X (dkX12_sky (20, .iconst 1, 1) (pgm 12 rfl)) ic_1 ?_
    refine so_callV (n := 1) (As := [.int (1 : Int32)]) X (ct_X12_fails l this (1 : Int32) h3 hk) hk (by decide) rfl lk_1835 lk_1837 lk_61 lk_134 lk_1838 (by decide +kernel) rfl rfl rfl (rm_ok (by omega) (by decide)) ⟨Nat.zero_le _, Nat.zero_le _⟩ (Nat.le_of_ble_eq_true rfl) (dkX12_sky (21, .invokevirtual 233, 3) (pgm 13 rfl)) (fun r44 h45 => ?_) rfl
    exact so_iret X hr hlk (dkX12_sky (24, .ireturn, 1) (pgm 14 rfl))
def pgX12_trayFault : List (Nat × Instr × Nat) := [(0, .iload_n 1, 1), (1, .invokestatic 369, 3), (4, .ifCond .ne 7, 3), (7, .iconst 1, 1), (8, .goto 18, 3), (11, .aload_n 0, 1), (12, .getfield 80, 3), (15, .iload_n 1, 1), (16, .iaload, 1), (17, .iconst (-1), 1), (18, .if_icmp .ne 7, 3), (21, .iconst 2, 1), (22, .goto 4, 3), (25, .iconst 0, 1), (26, .ireturn, 1)]
theorem dkX12_trayFault : ∀ q ∈ pgX12_trayFault, decode cX12_trayFault q.1 = .ok q.2 := by decide +kernel
def f_X12_trayFault (this : Nat) (a1 : Int32) (h0 : PH) : Option (Int32 × PH) :=
  cb (f_X12_isTray a1 h0) (fun (r1 : Int32) (h2 : PH) => lt (fun (t3 : Int32) (h4 : PH) => some (t3, h4)) (fun (j26 : Int32 → PH → Option (Int32 × PH)) => if r1 = 0 then (j26 (1 : Int32) h2) else (ldI h2 (rt this 36) 4 a1 (fun (x5 : Int32) => if x5 = (-1 : Int32) then (j26 (2 : Int32) h2) else (j26 (0 : Int32) h2)))))
set_option maxRecDepth 100000 in
set_option maxHeartbeats 4000000 in
theorem ct_X12_trayFault (l : Launch) (this : Nat) (a1 : Int32) (h0 : PH) (hk : (kd this).1 = 12) : CT mkI l yX12_trayFault cX12_trayFault 2 (some .int) (rmd 2) [.ref this, .int a1] h0 (f_X12_trayFault this a1 h0) := by
  refine ct_of (by decide) (Nat.le_of_ble_eq_true rfl) ?_
  intro p e s m args below meth c D cA ad A X hr hlk
  have X : Cx p s m args c RX12 cX12_trayFault 2 D cA ad A := X
  unfold f_X12_trayFault
  refine so_pick (L' := [(0, .ref this), (1, .int a1)]) X [0, 1] rfl ?_
  refine so_iload_n (i := 1) X 1 (dkX12_trayFault (0, .iload_n 1, 1) (pgm 0 rfl)) rfl rfl ?_
  refine so_callS (n := 1) (As := [.int a1]) X (ct_X12_isTray l a1 h0 ) lk_2134 lk_2135 lk_134 lk_2136 (by decide +kernel) rfl rfl rfl (rm_ok (by omega) (by decide)) ⟨Nat.zero_le _, Nat.zero_le _⟩ (Nat.le_of_ble_eq_true rfl) (dkX12_trayFault (1, .invokestatic 369, 3) (pgm 1 rfl)) (fun r1 h2 => ?_) rfl
  refine so_join (jf := fun (t3 : Int32) (h4 : PH) => some (t3, h4)) (fun (j : Int32 → PH → Option (Int32 × PH)) => ∀ (t3 : Int32) (h4 : PH), SWo (QM mkI below args s D cA ad A) p l e (rmd 2) s m args below meth c 0 0 2 D cA ad A 26 [] [.int t3] h4 (j t3 h4)) ?_ (fun j26 hj26 => ?_)
  · intro t3 h4
    exact so_iret X hr hlk (dkX12_trayFault (26, .ireturn, 1) (pgm 14 rfl))
  refine so_if_ne (tgt := 11) X (dkX12_trayFault (4, .ifCond .ne 7, 3) (pgm 2 rfl)) rfl (fun _ => ?_) (fun _ => ?_)
  · refine so_aload_n (i := 0) X 0 (dkX12_trayFault (11, .aload_n 0, 1) (pgm 5 rfl)) rfl rfl ?_
    refine sf_getR X ff_12_36 lk_1738 hk (dkX12_trayFault (12, .getfield 80, 3) (pgm 6 rfl)) ?_
    refine so_iload_n (i := 1) X 1 (dkX12_trayFault (15, .iload_n 1, 1) (pgm 7 rfl)) rfl rfl ?_
    refine so_iald X (rk_12_36 this hk) (dkX12_trayFault (16, .iaload, 1) (pgm 8 rfl)) (fun x5 => ?_)
    refine so_iconst (v := (-1 : Int32)) X (dkX12_trayFault (17, .iconst (-1), 1) (pgm 9 rfl)) ic_m1 ?_
    refine so_icmp_ne (tgt := 25) X (dkX12_trayFault (18, .if_icmp .ne 7, 3) (pgm 10 rfl)) rfl (fun _ => ?_) (fun _ => ?_)
    · refine so_iconst (v := (0 : Int32)) X (dkX12_trayFault (25, .iconst 0, 1) (pgm 13 rfl)) ic_0 ?_
      exact so_pick X [] rfl (hj26 (0 : Int32) h2)
    · refine so_iconst (v := (2 : Int32)) X (dkX12_trayFault (21, .iconst 2, 1) (pgm 11 rfl)) ic_2 ?_
      refine so_goto (tgt := 26) X (dkX12_trayFault (22, .goto 4, 3) (pgm 12 rfl)) rfl ?_
      exact so_pick X [] rfl (hj26 (2 : Int32) h2)
  · refine so_iconst (v := (1 : Int32)) X (dkX12_trayFault (7, .iconst 1, 1) (pgm 3 rfl)) ic_1 ?_
    refine so_goto (tgt := 26) X (dkX12_trayFault (8, .goto 18, 3) (pgm 4 rfl)) rfl ?_
    exact so_pick X [] rfl (hj26 (1 : Int32) h2)
def pgX12_wantsFault : List (Nat × Instr × Nat) := [(0, .aload_n 0, 1), (1, .iload_n 1, 1), (2, .invokevirtual 385, 3), (5, .istore_n 3, 1), (6, .iload_n 3, 1), (7, .ifCond .eq 5, 3), (10, .iload_n 3, 1), (11, .ireturn, 1), (12, .aload_n 0, 1), (13, .getfield 9, 3), (16, .iconst 1, 1), (17, .iaload, 1), (18, .ifCond .ne 5, 3), (21, .iconst 2, 1), (22, .ireturn, 1), (23, .iload_n 2, 1), (24, .i2l, 1), (25, .lconst 0, 1), (26, .lconst 1, 1), (27, .invokestatic 156, 3), (30, .ifCond .ne 17, 3), (33, .iload_n 2, 1), (34, .i2l, 1), (35, .ldc2_w 388, 3), (38, .ldc2_w 390, 3), (41, .invokestatic 156, 3), (44, .ifCond .eq 20, 3), (47, .aload_n 0, 1), (48, .getfield 83, 3), (51, .iload_n 1, 1), (52, .iaload, 1), (53, .i2l, 1), (54, .lconst 1, 1), (55, .ldc2_w 390, 3), (58, .invokestatic 156, 3), (61, .ifCond .ne 5, 3), (64, .iconst 3, 1), (65, .ireturn, 1), (66, .iconst 0, 1), (67, .istore 4, 2), (69, .iload 4, 2), (71, .aload_n 0, 1), (72, .getfield 83, 3), (75, .iload_n 1, 1), (76, .iaload, 1), (77, .if_icmp .ge 41, 3), (80, .aload_n 0, 1), (81, .getfield 86, 3), (84, .bipush 30, 2), (86, .iload_n 1, 1), (87, .imul, 1), (88, .iload 4, 2), (90, .iadd, 1), (91, .laload, 1), (92, .lconst 0, 1), (93, .ldc2_w 325, 3), (96, .aload_n 0, 1), (97, .invokevirtual 252, 3), (100, .i2l, 1), (101, .lmul, 1), (102, .lconst 1, 1), (103, .ladd, 1), (104, .invokestatic 156, 3), (107, .ifCond .ne 5, 3), (110, .iconst 3, 1), (111, .ireturn, 1), (112, .iinc 4 1, 3), (115, .goto (-46), 3), (118, .iconst 0, 1), (119, .ireturn, 1)]
theorem dkX12_wantsFault : ∀ q ∈ pgX12_wantsFault, decode cX12_wantsFault q.1 = .ok q.2 := by decide +kernel
def b_X12_wantsFault_69 (this : Nat) (a1 : Int32) (rec69 : (Int32) → PH → Option (Int32 × PH)) (s69 : Int32) (hh69 : PH) : Option (Int32 × PH) :=
  ldI hh69 (rt this 37) 4 a1 (fun (x13 : Int32) => if x13 ≤ s69 then (some ((0 : Int32), hh69)) else (ldL hh69 (rt this 38) 120 (((30 : Int32) * a1) + s69) (fun (x14 : Int64) => cb (f_X12_everywhere this hh69) (fun (r15 : Int32) (h16 : PH) => cb (f_X12_within x14 (0 : Int64) (((2 : Int64) * r15.toInt64) + (1 : Int64)) h16) (fun (r17 : Int32) (h18 : PH) => if r17 = 0 then (some ((3 : Int32), h18)) else (lt (s69 + Int32.ofInt 1) (fun (x19 : Int32) => rec69 x19 h18)))))))
def f_X12_wantsFault (this : Nat) (a1 : Int32) (a2 : Int32) (h0 : PH) : Option (Int32 × PH) :=
  cb (f_X12_trayFault this a1 h0) (fun (r1 : Int32) (h2 : PH) => lt r1 (fun (x3 : Int32) => if x3 = 0 then (ldI h2 (rt this 0) 1200 (1 : Int32) (fun (x4 : Int32) => if x4 = 0 then (some ((2 : Int32), h2)) else (cb (f_X12_within a2.toInt64 (0 : Int64) (1 : Int64) h2) (fun (r5 : Int32) (h6 : PH) => lt (fun (h7 : PH) => some ((3 : Int32), h7)) (fun (j64 : PH → Option (Int32 × PH)) => lt (fun (h8 : PH) => ldI h8 (rt this 37) 4 a1 (fun (x9 : Int32) => cb (f_X12_within x9.toInt64 (1 : Int64) (12 : Int64) h8) (fun (r10 : Int32) (h11 : PH) => if r10 = 0 then (j64 h11) else (lt (0 : Int32) (fun (x12 : Int32) => lp (b_X12_wantsFault_69 this a1) FU x12 h11))))) (fun (j47 : PH → Option (Int32 × PH)) => if r5 = 0 then (cb (f_X12_within a2.toInt64 (10 : Int64) (12 : Int64) h6) (fun (r20 : Int32) (h21 : PH) => if r20 = 0 then (j64 h21) else (j47 h21))) else (j47 h6))))))) else (some (x3, h2))))
set_option maxRecDepth 100000 in
set_option maxHeartbeats 4000000 in
theorem ct_X12_wantsFault (l : Launch) (this : Nat) (a1 : Int32) (a2 : Int32) (h0 : PH) (hk : (kd this).1 = 12) : CT mkI l yX12_wantsFault cX12_wantsFault 5 (some .int) (rmd 3) [.ref this, .int a1, .int a2] h0 (f_X12_wantsFault this a1 a2 h0) := by
  refine ct_of (by decide) (Nat.le_of_ble_eq_true rfl) ?_
  intro p e s m args below meth c D cA ad A X hr hlk
  have X : Cx p s m args c RX12 cX12_wantsFault 5 D cA ad A := X
  unfold f_X12_wantsFault
  refine so_pick (L' := [(0, .ref this), (1, .int a1), (2, .int a2)]) X [0, 1, 2] rfl ?_
  refine so_aload_n (i := 0) X 0 (dkX12_wantsFault (0, .aload_n 0, 1) (pgm 0 rfl)) rfl rfl ?_
  refine so_iload_n (i := 1) X 1 (dkX12_wantsFault (1, .iload_n 1, 1) (pgm 1 rfl)) rfl rfl ?_
  refine so_callV (n := 1) (As := [.int a1]) X (ct_X12_trayFault l this a1 h0 hk) hk (by decide) rfl lk_2130 lk_2132 lk_103 lk_134 lk_2133 (by decide +kernel) rfl rfl rfl (rm_ok (by omega) (by decide)) ⟨Nat.zero_le _, Nat.zero_le _⟩ (Nat.le_of_ble_eq_true rfl) (dkX12_wantsFault (2, .invokevirtual 385, 3) (pgm 2 rfl)) (fun r1 h2 => ?_) rfl
  refine so_istore_n (i := 3) X (dkX12_wantsFault (5, .istore_n 3, 1) (pgm 3 rfl)) rfl (by decide) (Lf := fun x3 => [(3, .int x3), (0, .ref this), (1, .int a1), (2, .int a2)]) (fun _ => rfl) (fun x3 => ?_)
  refine so_iload_n (i := 3) X 0 (dkX12_wantsFault (6, .iload_n 3, 1) (pgm 4 rfl)) rfl rfl ?_
  refine so_if_eq (tgt := 12) X (dkX12_wantsFault (7, .ifCond .eq 5, 3) (pgm 5 rfl)) rfl (fun _ => ?_) (fun _ => ?_)
  · refine so_aload_n (i := 0) X 1 (dkX12_wantsFault (12, .aload_n 0, 1) (pgm 8 rfl)) rfl rfl ?_
    refine sf_getR X ff_12_0 lk_1702 hk (dkX12_wantsFault (13, .getfield 9, 3) (pgm 9 rfl)) ?_
    refine so_iconst (v := (1 : Int32)) X (dkX12_wantsFault (16, .iconst 1, 1) (pgm 10 rfl)) ic_1 ?_
    refine so_iald X (rk_12_0 this hk) (dkX12_wantsFault (17, .iaload, 1) (pgm 11 rfl)) (fun x4 => ?_)
    refine so_if_ne (tgt := 23) X (dkX12_wantsFault (18, .ifCond .ne 5, 3) (pgm 12 rfl)) rfl (fun _ => ?_) (fun _ => ?_)
    · refine so_iload_n (i := 2) X 3 (dkX12_wantsFault (23, .iload_n 2, 1) (pgm 15 rfl)) rfl rfl ?_
      refine so_i2l X (dkX12_wantsFault (24, .i2l, 1) (pgm 16 rfl)) ?_
      refine so_lconst (v := (0 : Int64)) X (dkX12_wantsFault (25, .lconst 0, 1) (pgm 17 rfl)) lc_0 ?_
      refine so_lconst (v := (1 : Int64)) X (dkX12_wantsFault (26, .lconst 1, 1) (pgm 18 rfl)) lc_1 ?_
      refine so_callS (n := 3) (As := [.long a2.toInt64, .long (0 : Int64), .long (1 : Int64)]) X (ct_X12_within l a2.toInt64 (0 : Int64) (1 : Int64) h2 ) lk_1832 lk_1833 lk_134 lk_1834 (by decide +kernel) rfl rfl rfl (rm_ok (by omega) (by decide)) ⟨Nat.zero_le _, Nat.zero_le _⟩ (Nat.le_of_ble_eq_true rfl) (dkX12_wantsFault (27, .invokestatic 156, 3) (pgm 19 rfl)) (fun r5 h6 => ?_) rfl
      refine so_join (jf := fun (h7 : PH) => some ((3 : Int32), h7)) (fun (j : PH → Option (Int32 × PH)) => ∀  (h7 : PH), SWo (QM mkI below args s D cA ad A) p l e (rmd 3) s m args below meth c 0 0 5 D cA ad A 64 [] [] h7 (j h7)) ?_ (fun j64 hj64 => ?_)
      · intro h7
        refine so_iconst (v := (3 : Int32)) X (dkX12_wantsFault (64, .iconst 3, 1) (pgm 36 rfl)) ic_3 ?_
        exact so_iret X hr hlk (dkX12_wantsFault (65, .ireturn, 1) (pgm 37 rfl))
      refine so_join (jf := fun (h8 : PH) => ldI h8 (rt this 37) 4 a1 (fun (x9 : Int32) => cb (f_X12_within x9.toInt64 (1 : Int64) (12 : Int64) h8) (fun (r10 : Int32) (h11 : PH) => if r10 = 0 then (j64 h11) else (lt (0 : Int32) (fun (x12 : Int32) => lp (b_X12_wantsFault_69 this a1) FU x12 h11))))) (fun (j : PH → Option (Int32 × PH)) => ∀  (h8 : PH), SWo (QM mkI below args s D cA ad A) p l e (rmd 3) s m args below meth c 0 0 5 D cA ad A 47 [(0, .ref this), (1, .int a1)] [] h8 (j h8)) ?_ (fun j47 hj47 => ?_)
      · intro h8
        refine so_aload_n (i := 0) X 0 (dkX12_wantsFault (47, .aload_n 0, 1) (pgm 27 rfl)) rfl rfl ?_
        refine sf_getR X ff_12_37 lk_1739 hk (dkX12_wantsFault (48, .getfield 83, 3) (pgm 28 rfl)) ?_
        refine so_iload_n (i := 1) X 1 (dkX12_wantsFault (51, .iload_n 1, 1) (pgm 29 rfl)) rfl rfl ?_
        refine so_iald X (rk_12_37 this hk) (dkX12_wantsFault (52, .iaload, 1) (pgm 30 rfl)) (fun x9 => ?_)
        refine so_i2l X (dkX12_wantsFault (53, .i2l, 1) (pgm 31 rfl)) ?_
        refine so_lconst (v := (1 : Int64)) X (dkX12_wantsFault (54, .lconst 1, 1) (pgm 32 rfl)) lc_1 ?_
        refine so_ldc2 X lk_2138 (dkX12_wantsFault (55, .ldc2_w 390, 3) (pgm 33 rfl)) ?_
        refine so_callS (n := 3) (As := [.long x9.toInt64, .long (1 : Int64), .long (12 : Int64)]) X (ct_X12_within l x9.toInt64 (1 : Int64) (12 : Int64) h8 ) lk_1832 lk_1833 lk_134 lk_1834 (by decide +kernel) rfl rfl rfl (rm_ok (by omega) (by decide)) ⟨Nat.zero_le _, Nat.zero_le _⟩ (Nat.le_of_ble_eq_true rfl) (dkX12_wantsFault (58, .invokestatic 156, 3) (pgm 34 rfl)) (fun r10 h11 => ?_) rfl
        refine so_if_ne (tgt := 66) X (dkX12_wantsFault (61, .ifCond .ne 5, 3) (pgm 35 rfl)) rfl (fun _ => ?_) (fun _ => ?_)
        · refine so_iconst (v := (0 : Int32)) X (dkX12_wantsFault (66, .iconst 0, 1) (pgm 38 rfl)) ic_0 ?_
          refine so_istore (i := 4) X (dkX12_wantsFault (67, .istore 4, 2) (pgm 39 rfl)) (by decide) (Lf := fun x12 => [(4, .int x12), (0, .ref this), (1, .int a1)]) (fun _ => rfl) (fun x12 => ?_)
          refine so_pick (L' := [(0, .ref this), (1, .int a1), (4, .int x12)]) X [1, 2, 0] rfl ?_
          refine so_loop (body := b_X12_wantsFault_69 this a1) (fun (s69 : Int32) => [(0, .ref this), (1, .int a1), (4, .int s69)]) (fun rec69 hrec69 s69 hh69 => ?_) FU x12 h11
          unfold b_X12_wantsFault_69
          refine so_iload (i := 4) X 2 (dkX12_wantsFault (69, .iload 4, 2) (pgm 40 rfl)) rfl ?_
          refine so_aload_n (i := 0) X 0 (dkX12_wantsFault (71, .aload_n 0, 1) (pgm 41 rfl)) rfl rfl ?_
          refine sf_getR X ff_12_37 lk_1739 hk (dkX12_wantsFault (72, .getfield 83, 3) (pgm 42 rfl)) ?_
          refine so_iload_n (i := 1) X 1 (dkX12_wantsFault (75, .iload_n 1, 1) (pgm 43 rfl)) rfl rfl ?_
          refine so_iald X (rk_12_37 this hk) (dkX12_wantsFault (76, .iaload, 1) (pgm 44 rfl)) (fun x13 => ?_)
          refine so_icmp_ge (tgt := 118) X (dkX12_wantsFault (77, .if_icmp .ge 41, 3) (pgm 45 rfl)) rfl (fun _ => ?_) (fun _ => ?_)
          · refine so_iconst (v := (0 : Int32)) X (dkX12_wantsFault (118, .iconst 0, 1) (pgm 68 rfl)) ic_0 ?_
            exact so_iret X hr hlk (dkX12_wantsFault (119, .ireturn, 1) (pgm 69 rfl))
          · refine so_aload_n (i := 0) X 0 (dkX12_wantsFault (80, .aload_n 0, 1) (pgm 46 rfl)) rfl rfl ?_
            refine sf_getR X ff_12_38 lk_1740 hk (dkX12_wantsFault (81, .getfield 86, 3) (pgm 47 rfl)) ?_
            refine so_bipush (v := (30 : Int32)) X (dkX12_wantsFault (84, .bipush 30, 2) (pgm 48 rfl)) bp_30 ?_
            refine so_iload_n (i := 1) X 1 (dkX12_wantsFault (86, .iload_n 1, 1) (pgm 49 rfl)) rfl rfl ?_
            refine so_imul X (dkX12_wantsFault (87, .imul, 1) (pgm 50 rfl)) ?_
            refine so_iload (i := 4) X 2 (dkX12_wantsFault (88, .iload 4, 2) (pgm 51 rfl)) rfl ?_
            refine so_iadd X (dkX12_wantsFault (90, .iadd, 1) (pgm 52 rfl)) ?_
            refine so_lald X (rk_12_38 this hk) (dkX12_wantsFault (91, .laload, 1) (pgm 53 rfl)) (fun x14 => ?_)
            refine so_lconst (v := (0 : Int64)) X (dkX12_wantsFault (92, .lconst 0, 1) (pgm 54 rfl)) lc_0 ?_
            refine so_ldc2 X lk_2034 (dkX12_wantsFault (93, .ldc2_w 325, 3) (pgm 55 rfl)) ?_
            refine so_aload_n (i := 0) X 0 (dkX12_wantsFault (96, .aload_n 0, 1) (pgm 56 rfl)) rfl rfl ?_
            refine so_callV (n := 0) (As := []) X (ct_X12_everywhere l this hh69 hk) hk (by decide) rfl lk_1664 lk_1666 lk_56 lk_134 lk_1667 (by decide +kernel) rfl rfl rfl (rm_ok (by omega) (by decide)) ⟨Nat.zero_le _, Nat.zero_le _⟩ (Nat.le_of_ble_eq_true rfl) (dkX12_wantsFault (97, .invokevirtual 252, 3) (pgm 57 rfl)) (fun r15 h16 => ?_) rfl
            refine so_i2l X (dkX12_wantsFault (100, .i2l, 1) (pgm 58 rfl)) ?_
            refine so_lmul X (dkX12_wantsFault (101, .lmul, 1) (pgm 59 rfl)) ?_
            refine so_lconst (v := (1 : Int64)) X (dkX12_wantsFault (102, .lconst 1, 1) (pgm 60 rfl)) lc_1 ?_
            refine so_ladd X (dkX12_wantsFault (103, .ladd, 1) (pgm 61 rfl)) ?_
            refine so_callS (n := 3) (As := [.long x14, .long (0 : Int64), .long (((2 : Int64) * r15.toInt64) + (1 : Int64))]) X (ct_X12_within l x14 (0 : Int64) (((2 : Int64) * r15.toInt64) + (1 : Int64)) h16 ) lk_1832 lk_1833 lk_134 lk_1834 (by decide +kernel) rfl rfl rfl (rm_ok (by omega) (by decide)) ⟨Nat.zero_le _, Nat.zero_le _⟩ (Nat.le_of_ble_eq_true rfl) (dkX12_wantsFault (104, .invokestatic 156, 3) (pgm 62 rfl)) (fun r17 h18 => ?_) rfl
            refine so_if_ne (tgt := 112) X (dkX12_wantsFault (107, .ifCond .ne 5, 3) (pgm 63 rfl)) rfl (fun _ => ?_) (fun _ => ?_)
            · refine so_iinc (i := 4) X 2 (dkX12_wantsFault (112, .iinc 4 1, 3) (pgm 66 rfl)) rfl rfl (by decide) (Lf := fun x19 => [(4, .int x19), (0, .ref this), (1, .int a1)]) (fun _ => rfl) (fun x19 => ?_)
              refine so_goto (tgt := 69) X (dkX12_wantsFault (115, .goto (-46), 3) (pgm 67 rfl)) rfl ?_
              exact so_pick X [1, 2, 0] rfl (hrec69 x19 h18)
            · refine so_iconst (v := (3 : Int32)) X (dkX12_wantsFault (110, .iconst 3, 1) (pgm 64 rfl)) ic_3 ?_
              exact so_iret X hr hlk (dkX12_wantsFault (111, .ireturn, 1) (pgm 65 rfl))
        · exact so_pick X [] rfl (hj64 h11)
      refine so_if_ne (tgt := 47) X (dkX12_wantsFault (30, .ifCond .ne 17, 3) (pgm 20 rfl)) rfl (fun _ => ?_) (fun _ => ?_)
      · exact so_pick X [1, 2] rfl (hj47 h6)
      · refine so_iload_n (i := 2) X 3 (dkX12_wantsFault (33, .iload_n 2, 1) (pgm 21 rfl)) rfl rfl ?_
        refine so_i2l X (dkX12_wantsFault (34, .i2l, 1) (pgm 22 rfl)) ?_
        refine so_ldc2 X lk_2137 (dkX12_wantsFault (35, .ldc2_w 388, 3) (pgm 23 rfl)) ?_
        refine so_ldc2 X lk_2138 (dkX12_wantsFault (38, .ldc2_w 390, 3) (pgm 24 rfl)) ?_
        refine so_callS (n := 3) (As := [.long a2.toInt64, .long (10 : Int64), .long (12 : Int64)]) X (ct_X12_within l a2.toInt64 (10 : Int64) (12 : Int64) h6 ) lk_1832 lk_1833 lk_134 lk_1834 (by decide +kernel) rfl rfl rfl (rm_ok (by omega) (by decide)) ⟨Nat.zero_le _, Nat.zero_le _⟩ (Nat.le_of_ble_eq_true rfl) (dkX12_wantsFault (41, .invokestatic 156, 3) (pgm 25 rfl)) (fun r20 h21 => ?_) rfl
        refine so_if_eq (tgt := 64) X (dkX12_wantsFault (44, .ifCond .eq 20, 3) (pgm 26 rfl)) rfl (fun _ => ?_) (fun _ => ?_)
        · exact so_pick X [] rfl (hj64 h21)
        · exact so_pick X [1, 2] rfl (hj47 h21)
    · refine so_iconst (v := (2 : Int32)) X (dkX12_wantsFault (21, .iconst 2, 1) (pgm 13 rfl)) ic_2 ?_
      exact so_iret X hr hlk (dkX12_wantsFault (22, .ireturn, 1) (pgm 14 rfl))
  · refine so_iload_n (i := 3) X 0 (dkX12_wantsFault (10, .iload_n 3, 1) (pgm 6 rfl)) rfl rfl ?_
    exact so_iret X hr hlk (dkX12_wantsFault (11, .ireturn, 1) (pgm 7 rfl))
def pgX12_wants : List (Nat × Instr × Nat) := [(0, .aload_n 0, 1), (1, .aload_n 0, 1), (2, .iload_n 1, 1), (3, .iload_n 2, 1), (4, .invokevirtual 392, 3), (7, .putfield 92, 3), (10, .aload_n 0, 1), (11, .getfield 92, 3), (14, .ifCond .le 5, 3), (17, .iconst 0, 1), (18, .ireturn, 1), (19, .aload_n 0, 1), (20, .iconst 0, 1), (21, .putfield 378, 3), (24, .iconst 0, 1), (25, .istore_n 3, 1), (26, .iload_n 3, 1), (27, .iconst 3, 1), (28, .if_icmp .gt 66, 3), (31, .aload_n 0, 1), (32, .iload_n 1, 1), (33, .iconst 0, 1), (34, .iload_n 3, 1), (35, .iconst 0, 1), (36, .invokevirtual 381, 3), (39, .aload_n 0, 1), (40, .getfield 378, 3), (43, .ifCond .le 45, 3), (46, .iload_n 2, 1), (47, .ifCond .ne 7, 3), (50, .iload_n 3, 1), (51, .goto 36, 3), (54, .iload_n 2, 1), (55, .iconst 1, 1), (56, .if_icmp .ne 10, 3), (59, .aload_n 0, 1), (60, .getfield 378, 3), (63, .goto 24, 3), (66, .iload_n 2, 1), (67, .bipush 10, 2), (69, .isub, 1), (70, .iload_n 3, 1), (71, .if_icmp .ge 15, 3), (74, .aload_n 0, 1), (75, .getfield 64, 3), (78, .iload_n 2, 1), (79, .bipush 10, 2), (81, .isub, 1), (82, .iaload, 1), (83, .goto 4, 3), (86, .iconst (-1), 1), (87, .ireturn, 1), (88, .iinc 3 1, 3), (91, .goto (-65), 3), (94, .iconst (-1), 1), (95, .ireturn, 1)]
theorem dkX12_wants : ∀ q ∈ pgX12_wants, decode cX12_wants q.1 = .ok q.2 := by decide +kernel
def b_X12_wants_26 (this : Nat) (a1 : Int32) (j46 : Int32 → PH → Option (Int32 × PH)) (rec26 : (Int32) → PH → Option (Int32 × PH)) (s26 : Int32) (hh26 : PH) : Option (Int32 × PH) :=
  if (3 : Int32) < s26 then (some ((-1 : Int32), hh26)) else (cb (f_X12_goesWants 8 this a1 (0 : Int32) s26 (0 : Int32) hh26) (fun (r11 : Unit) (h12 : PH) => if (h12.1 this 29) ≤ 0 then (lt (s26 + Int32.ofInt 1) (fun (x13 : Int32) => rec26 x13 h12)) else (j46 s26 h12)))
def f_X12_wants (this : Nat) (a1 : Int32) (a2 : Int32) (h0 : PH) : Option (Int32 × PH) :=
  cb (f_X12_wantsFault this a1 a2 h0) (fun (r1 : Int32) (h2 : PH) => lt (pI h2 this 5 r1) (fun (h3 : PH) => if (h3.1 this 5) ≤ 0 then (lt (pI h3 this 29 (0 : Int32)) (fun (h4 : PH) => lt (0 : Int32) (fun (x5 : Int32) => lt (fun (y6 : Int32) (h7 : PH) => lt (fun (t8 : Int32) (h9 : PH) => some (t8, h9)) (fun (j87 : Int32 → PH → Option (Int32 × PH)) => if a2 = 0 then (j87 y6 h7) else (if a2 = (1 : Int32) then (j87 (h7.1 this 29) h7) else (if y6 ≤ (a2 - (10 : Int32)) then (j87 (-1 : Int32) h7) else (ldI h7 (rt this 28) 3 (a2 - (10 : Int32)) (fun (x10 : Int32) => j87 x10 h7)))))) (fun (j46 : Int32 → PH → Option (Int32 × PH)) => lp (b_X12_wants_26 this a1 j46) FU x5 h4)))) else (some ((0 : Int32), h3))))
set_option maxRecDepth 100000 in
set_option maxHeartbeats 4000000 in
theorem ct_X12_wants (l : Launch) (this : Nat) (a1 : Int32) (a2 : Int32) (h0 : PH) (hk : (kd this).1 = 12) : CT mkI l yX12_wants cX12_wants 4 (some .int) (rmd 10) [.ref this, .int a1, .int a2] h0 (f_X12_wants this a1 a2 h0) := by
  refine ct_of (by decide) (Nat.le_of_ble_eq_true rfl) ?_
  intro p e s m args below meth c D cA ad A X hr hlk
  have X : Cx p s m args c RX12 cX12_wants 4 D cA ad A := X
  unfold f_X12_wants
  refine so_pick (L' := [(0, .ref this), (1, .int a1), (2, .int a2)]) X [0, 1, 2] rfl ?_
  refine so_aload_n (i := 0) X 0 (dkX12_wants (0, .aload_n 0, 1) (pgm 0 rfl)) rfl rfl ?_
  refine so_aload_n (i := 0) X 0 (dkX12_wants (1, .aload_n 0, 1) (pgm 1 rfl)) rfl rfl ?_
  refine so_iload_n (i := 1) X 1 (dkX12_wants (2, .iload_n 1, 1) (pgm 2 rfl)) rfl rfl ?_
  refine so_iload_n (i := 2) X 2 (dkX12_wants (3, .iload_n 2, 1) (pgm 3 rfl)) rfl rfl ?_
  refine so_callV (n := 2) (As := [.int a1, .int a2]) X (ct_X12_wantsFault l this a1 a2 h0 hk) hk (by decide) rfl lk_2126 lk_2128 lk_102 lk_134 lk_2129 (by decide +kernel) rfl rfl rfl (rm_ok (by omega) (by decide)) ⟨Nat.zero_le _, Nat.zero_le _⟩ (Nat.le_of_ble_eq_true rfl) (dkX12_wants (4, .invokevirtual 392, 3) (pgm 4 rfl)) (fun r1 h2 => ?_) rfl
  refine sf_putI X ff_12_5 ft_12 rfl lk_1707 hk rfl rfl (dkX12_wants (7, .putfield 92, 3) (pgm 5 rfl)) (fun h3 => ?_)
  refine so_aload_n (i := 0) X 0 (dkX12_wants (10, .aload_n 0, 1) (pgm 6 rfl)) rfl rfl ?_
  refine sf_getI X ff_12_5 lk_1707 hk (dkX12_wants (11, .getfield 92, 3) (pgm 7 rfl)) ?_
  refine so_if_le (tgt := 19) X (dkX12_wants (14, .ifCond .le 5, 3) (pgm 8 rfl)) rfl (fun _ => ?_) (fun _ => ?_)
  · refine so_aload_n (i := 0) X 0 (dkX12_wants (19, .aload_n 0, 1) (pgm 11 rfl)) rfl rfl ?_
    refine so_iconst (v := (0 : Int32)) X (dkX12_wants (20, .iconst 0, 1) (pgm 12 rfl)) ic_0 ?_
    refine sf_putI X ff_12_29 ft_12 rfl lk_1731 hk rfl rfl (dkX12_wants (21, .putfield 378, 3) (pgm 13 rfl)) (fun h4 => ?_)
    refine so_iconst (v := (0 : Int32)) X (dkX12_wants (24, .iconst 0, 1) (pgm 14 rfl)) ic_0 ?_
    refine so_istore_n (i := 3) X (dkX12_wants (25, .istore_n 3, 1) (pgm 15 rfl)) rfl (by decide) (Lf := fun x5 => [(3, .int x5), (0, .ref this), (1, .int a1), (2, .int a2)]) (fun _ => rfl) (fun x5 => ?_)
    refine so_join (jf := fun (y6 : Int32) (h7 : PH) => lt (fun (t8 : Int32) (h9 : PH) => some (t8, h9)) (fun (j87 : Int32 → PH → Option (Int32 × PH)) => if a2 = 0 then (j87 y6 h7) else (if a2 = (1 : Int32) then (j87 (h7.1 this 29) h7) else (if y6 ≤ (a2 - (10 : Int32)) then (j87 (-1 : Int32) h7) else (ldI h7 (rt this 28) 3 (a2 - (10 : Int32)) (fun (x10 : Int32) => j87 x10 h7)))))) (fun (j : Int32 → PH → Option (Int32 × PH)) => ∀ (y6 : Int32) (h7 : PH), SWo (QM mkI below args s D cA ad A) p l e (rmd 10) s m args below meth c 0 0 4 D cA ad A 46 [(0, .ref this), (2, .int a2), (3, .int y6)] [] h7 (j y6 h7)) ?_ (fun j46 hj46 => ?_)
    · intro y6 h7
      refine so_iload_n (i := 2) X 1 (dkX12_wants (46, .iload_n 2, 1) (pgm 28 rfl)) rfl rfl ?_
      refine so_join (jf := fun (t8 : Int32) (h9 : PH) => some (t8, h9)) (fun (j : Int32 → PH → Option (Int32 × PH)) => ∀ (t8 : Int32) (h9 : PH), SWo (QM mkI below args s D cA ad A) p l e (rmd 10) s m args below meth c 0 0 4 D cA ad A 87 [] [.int t8] h9 (j t8 h9)) ?_ (fun j87 hj87 => ?_)
      · intro t8 h9
        exact so_iret X hr hlk (dkX12_wants (87, .ireturn, 1) (pgm 51 rfl))
      refine so_if_ne (tgt := 54) X (dkX12_wants (47, .ifCond .ne 7, 3) (pgm 29 rfl)) rfl (fun _ => ?_) (fun _ => ?_)
      · refine so_iload_n (i := 2) X 1 (dkX12_wants (54, .iload_n 2, 1) (pgm 32 rfl)) rfl rfl ?_
        refine so_iconst (v := (1 : Int32)) X (dkX12_wants (55, .iconst 1, 1) (pgm 33 rfl)) ic_1 ?_
        refine so_icmp_ne (tgt := 66) X (dkX12_wants (56, .if_icmp .ne 10, 3) (pgm 34 rfl)) rfl (fun _ => ?_) (fun _ => ?_)
        · refine so_iload_n (i := 2) X 1 (dkX12_wants (66, .iload_n 2, 1) (pgm 38 rfl)) rfl rfl ?_
          refine so_bipush (v := (10 : Int32)) X (dkX12_wants (67, .bipush 10, 2) (pgm 39 rfl)) bp_10 ?_
          refine so_isub X (dkX12_wants (69, .isub, 1) (pgm 40 rfl)) ?_
          refine so_iload_n (i := 3) X 2 (dkX12_wants (70, .iload_n 3, 1) (pgm 41 rfl)) rfl rfl ?_
          refine so_icmp_ge (tgt := 86) X (dkX12_wants (71, .if_icmp .ge 15, 3) (pgm 42 rfl)) rfl (fun _ => ?_) (fun _ => ?_)
          · refine so_iconst (v := (-1 : Int32)) X (dkX12_wants (86, .iconst (-1), 1) (pgm 50 rfl)) ic_m1 ?_
            exact so_pick X [] rfl (hj87 (-1 : Int32) h7)
          · refine so_aload_n (i := 0) X 0 (dkX12_wants (74, .aload_n 0, 1) (pgm 43 rfl)) rfl rfl ?_
            refine sf_getR X ff_12_28 lk_1730 hk (dkX12_wants (75, .getfield 64, 3) (pgm 44 rfl)) ?_
            refine so_iload_n (i := 2) X 1 (dkX12_wants (78, .iload_n 2, 1) (pgm 45 rfl)) rfl rfl ?_
            refine so_bipush (v := (10 : Int32)) X (dkX12_wants (79, .bipush 10, 2) (pgm 46 rfl)) bp_10 ?_
            refine so_isub X (dkX12_wants (81, .isub, 1) (pgm 47 rfl)) ?_
            refine so_iald X (rk_12_28 this hk) (dkX12_wants (82, .iaload, 1) (pgm 48 rfl)) (fun x10 => ?_)
            refine so_goto (tgt := 87) X (dkX12_wants (83, .goto 4, 3) (pgm 49 rfl)) rfl ?_
            exact so_pick X [] rfl (hj87 x10 h7)
        · refine so_aload_n (i := 0) X 0 (dkX12_wants (59, .aload_n 0, 1) (pgm 35 rfl)) rfl rfl ?_
          refine sf_getI X ff_12_29 lk_1731 hk (dkX12_wants (60, .getfield 378, 3) (pgm 36 rfl)) ?_
          refine so_goto (tgt := 87) X (dkX12_wants (63, .goto 24, 3) (pgm 37 rfl)) rfl ?_
          exact so_pick X [] rfl (hj87 (h7.1 this 29) h7)
      · refine so_iload_n (i := 3) X 2 (dkX12_wants (50, .iload_n 3, 1) (pgm 30 rfl)) rfl rfl ?_
        refine so_goto (tgt := 87) X (dkX12_wants (51, .goto 36, 3) (pgm 31 rfl)) rfl ?_
        exact so_pick X [] rfl (hj87 y6 h7)
    refine so_pick (L' := [(0, .ref this), (1, .int a1), (2, .int a2), (3, .int x5)]) X [1, 2, 3, 0] rfl ?_
    refine so_loop (body := b_X12_wants_26 this a1 j46) (fun (s26 : Int32) => [(0, .ref this), (1, .int a1), (2, .int a2), (3, .int s26)]) (fun rec26 hrec26 s26 hh26 => ?_) FU x5 h4
    unfold b_X12_wants_26
    refine so_iload_n (i := 3) X 3 (dkX12_wants (26, .iload_n 3, 1) (pgm 16 rfl)) rfl rfl ?_
    refine so_iconst (v := (3 : Int32)) X (dkX12_wants (27, .iconst 3, 1) (pgm 17 rfl)) ic_3 ?_
    refine so_icmp_gt (tgt := 94) X (dkX12_wants (28, .if_icmp .gt 66, 3) (pgm 18 rfl)) rfl (fun _ => ?_) (fun _ => ?_)
    · refine so_iconst (v := (-1 : Int32)) X (dkX12_wants (94, .iconst (-1), 1) (pgm 54 rfl)) ic_m1 ?_
      exact so_iret X hr hlk (dkX12_wants (95, .ireturn, 1) (pgm 55 rfl))
    · refine so_aload_n (i := 0) X 0 (dkX12_wants (31, .aload_n 0, 1) (pgm 19 rfl)) rfl rfl ?_
      refine so_iload_n (i := 1) X 1 (dkX12_wants (32, .iload_n 1, 1) (pgm 20 rfl)) rfl rfl ?_
      refine so_iconst (v := (0 : Int32)) X (dkX12_wants (33, .iconst 0, 1) (pgm 21 rfl)) ic_0 ?_
      refine so_iload_n (i := 3) X 3 (dkX12_wants (34, .iload_n 3, 1) (pgm 22 rfl)) rfl rfl ?_
      refine so_iconst (v := (0 : Int32)) X (dkX12_wants (35, .iconst 0, 1) (pgm 23 rfl)) ic_0 ?_
      refine so_callV (n := 4) (As := [.int a1, .int (0 : Int32), .int s26, .int (0 : Int32)]) X (ct_X12_goesWants l 8 this a1 (0 : Int32) s26 (0 : Int32) hh26 hk) hk (by decide) rfl lk_2139 lk_2141 lk_104 lk_134 lk_2142 (by decide +kernel) rfl rfl rfl (rm_ok (by omega) (by decide)) ⟨Nat.zero_le _, Nat.zero_le _⟩ (Nat.le_of_ble_eq_true rfl) (dkX12_wants (36, .invokevirtual 381, 3) (pgm 24 rfl)) (fun r11 h12 => ?_) rfl
      refine so_aload_n (i := 0) X 0 (dkX12_wants (39, .aload_n 0, 1) (pgm 25 rfl)) rfl rfl ?_
      refine sf_getI X ff_12_29 lk_1731 hk (dkX12_wants (40, .getfield 378, 3) (pgm 26 rfl)) ?_
      refine so_if_le (tgt := 88) X (dkX12_wants (43, .ifCond .le 45, 3) (pgm 27 rfl)) rfl (fun _ => ?_) (fun _ => ?_)
      · refine so_iinc (i := 3) X 3 (dkX12_wants (88, .iinc 3 1, 3) (pgm 52 rfl)) rfl rfl (by decide) (Lf := fun x13 => [(3, .int x13), (0, .ref this), (1, .int a1), (2, .int a2)]) (fun _ => rfl) (fun x13 => ?_)
        refine so_goto (tgt := 26) X (dkX12_wants (91, .goto (-65), 3) (pgm 53 rfl)) rfl ?_
        exact so_pick X [1, 2, 3, 0] rfl (hrec26 x13 h12)
      · exact so_pick X [0, 2, 3] rfl (hj46 s26 h12)
  · refine so_iconst (v := (0 : Int32)) X (dkX12_wants (17, .iconst 0, 1) (pgm 9 rfl)) ic_0 ?_
    exact so_iret X hr hlk (dkX12_wants (18, .ireturn, 1) (pgm 10 rfl))
def pgX12_sayFault : List (Nat × Instr × Nat) := [(0, .aload_n 0, 1), (1, .iload_n 1, 1), (2, .invokevirtual 385, 3), (5, .istore_n 3, 1), (6, .iload_n 3, 1), (7, .ifCond .eq 5, 3), (10, .iload_n 3, 1), (11, .ireturn, 1), (12, .aload_n 0, 1), (13, .getfield 83, 3), (16, .iload_n 1, 1), (17, .iaload, 1), (18, .istore 4, 2), (20, .iload_n 2, 1), (21, .i2l, 1), (22, .lconst 0, 1), (23, .ldc2_w 349, 3), (26, .invokestatic 156, 3), (29, .ifCond .eq 17, 3), (32, .iload 4, 2), (34, .iconst 2, 1), (35, .irem, 1), (36, .ifCond .eq 10, 3), (39, .iload 4, 2), (41, .bipush 9, 2), (43, .if_icmp .le 5, 3), (46, .iconst 3, 1), (47, .ireturn, 1), (48, .iconst 0, 1), (49, .istore 5, 2), (51, .iload 5, 2), (53, .iload 4, 2), (55, .if_icmp .ge 52, 3), (58, .aload_n 0, 1), (59, .getfield 86, 3), (62, .bipush 30, 2), (64, .iload_n 1, 1), (65, .imul, 1), (66, .iload 5, 2), (68, .iadd, 1), (69, .laload, 1), (70, .lconst 0, 1), (71, .iload 5, 2), (73, .iconst 2, 1), (74, .irem, 1), (75, .ifCond .ne 17, 3), (78, .ldc2_w 325, 3), (81, .aload_n 0, 1), (82, .invokevirtual 249, 3), (85, .i2l, 1), (86, .lmul, 1), (87, .lconst 1, 1), (88, .lsub, 1), (89, .goto 4, 3), (92, .lconst 1, 1), (93, .invokestatic 156, 3), (96, .ifCond .ne 5, 3), (99, .iconst 3, 1), (100, .ireturn, 1), (101, .iinc 5 1, 3), (104, .goto (-53), 3), (107, .iconst 0, 1), (108, .ireturn, 1)]
theorem dkX12_sayFault : ∀ q ∈ pgX12_sayFault, decode cX12_sayFault q.1 = .ok q.2 := by decide +kernel
def b_X12_sayFault_51 (this : Nat) (a1 : Int32) (x5 : Int32) (rec51 : (Int32) → PH → Option (Int32 × PH)) (s51 : Int32) (hh51 : PH) : Option (Int32 × PH) :=
  if x5 ≤ s51 then (some ((0 : Int32), hh51)) else (ldL hh51 (rt this 38) 120 (((30 : Int32) * a1) + s51) (fun (x10 : Int64) => nz (2 : Int32) (lt (fun (t11 : Int64) (h12 : PH) => cb (f_X12_within x10 (0 : Int64) t11 h12) (fun (r13 : Int32) (h14 : PH) => if r13 = 0 then (some ((3 : Int32), h14)) else (lt (s51 + Int32.ofInt 1) (fun (x15 : Int32) => rec51 x15 h14)))) (fun (j93 : Int64 → PH → Option (Int32 × PH)) => if (s51 - s51 / (2 : Int32) * (2 : Int32)) = 0 then (cb (f_X12_cells this hh51) (fun (r16 : Int32) (h17 : PH) => j93 (((2 : Int64) * r16.toInt64) - (1 : Int64)) h17)) else (j93 (1 : Int64) hh51)))))
def f_X12_sayFault (this : Nat) (a1 : Int32) (a2 : Int32) (h0 : PH) : Option (Int32 × PH) :=
  cb (f_X12_trayFault this a1 h0) (fun (r1 : Int32) (h2 : PH) => lt r1 (fun (x3 : Int32) => if x3 = 0 then (ldI h2 (rt this 37) 4 a1 (fun (x4 : Int32) => lt x4 (fun (x5 : Int32) => cb (f_X12_within a2.toInt64 (0 : Int64) (3 : Int64) h2) (fun (r6 : Int32) (h7 : PH) => lt (fun (h8 : PH) => some ((3 : Int32), h8)) (fun (j46 : PH → Option (Int32 × PH)) => if r6 = 0 then (j46 h7) else (nz (2 : Int32) (if (x5 - x5 / (2 : Int32) * (2 : Int32)) = 0 then (j46 h7) else (if x5 ≤ (9 : Int32) then (lt (0 : Int32) (fun (x9 : Int32) => lp (b_X12_sayFault_51 this a1 x5) FU x9 h7)) else (j46 h7))))))))) else (some (x3, h2))))
set_option maxRecDepth 100000 in
set_option maxHeartbeats 4000000 in
theorem ct_X12_sayFault (l : Launch) (this : Nat) (a1 : Int32) (a2 : Int32) (h0 : PH) (hk : (kd this).1 = 12) : CT mkI l yX12_sayFault cX12_sayFault 6 (some .int) (rmd 3) [.ref this, .int a1, .int a2] h0 (f_X12_sayFault this a1 a2 h0) := by
  refine ct_of (by decide) (Nat.le_of_ble_eq_true rfl) ?_
  intro p e s m args below meth c D cA ad A X hr hlk
  have X : Cx p s m args c RX12 cX12_sayFault 6 D cA ad A := X
  unfold f_X12_sayFault
  refine so_pick (L' := [(0, .ref this), (1, .int a1), (2, .int a2)]) X [0, 1, 2] rfl ?_
  refine so_aload_n (i := 0) X 0 (dkX12_sayFault (0, .aload_n 0, 1) (pgm 0 rfl)) rfl rfl ?_
  refine so_iload_n (i := 1) X 1 (dkX12_sayFault (1, .iload_n 1, 1) (pgm 1 rfl)) rfl rfl ?_
  refine so_callV (n := 1) (As := [.int a1]) X (ct_X12_trayFault l this a1 h0 hk) hk (by decide) rfl lk_2130 lk_2132 lk_103 lk_134 lk_2133 (by decide +kernel) rfl rfl rfl (rm_ok (by omega) (by decide)) ⟨Nat.zero_le _, Nat.zero_le _⟩ (Nat.le_of_ble_eq_true rfl) (dkX12_sayFault (2, .invokevirtual 385, 3) (pgm 2 rfl)) (fun r1 h2 => ?_) rfl
  refine so_istore_n (i := 3) X (dkX12_sayFault (5, .istore_n 3, 1) (pgm 3 rfl)) rfl (by decide) (Lf := fun x3 => [(3, .int x3), (0, .ref this), (1, .int a1), (2, .int a2)]) (fun _ => rfl) (fun x3 => ?_)
  refine so_iload_n (i := 3) X 0 (dkX12_sayFault (6, .iload_n 3, 1) (pgm 4 rfl)) rfl rfl ?_
  refine so_if_eq (tgt := 12) X (dkX12_sayFault (7, .ifCond .eq 5, 3) (pgm 5 rfl)) rfl (fun _ => ?_) (fun _ => ?_)
  · refine so_aload_n (i := 0) X 1 (dkX12_sayFault (12, .aload_n 0, 1) (pgm 8 rfl)) rfl rfl ?_
    refine sf_getR X ff_12_37 lk_1739 hk (dkX12_sayFault (13, .getfield 83, 3) (pgm 9 rfl)) ?_
    refine so_iload_n (i := 1) X 2 (dkX12_sayFault (16, .iload_n 1, 1) (pgm 10 rfl)) rfl rfl ?_
    refine so_iald X (rk_12_37 this hk) (dkX12_sayFault (17, .iaload, 1) (pgm 11 rfl)) (fun x4 => ?_)
    refine so_istore (i := 4) X (dkX12_sayFault (18, .istore 4, 2) (pgm 12 rfl)) (by decide) (Lf := fun x5 => [(4, .int x5), (3, .int x3), (0, .ref this), (1, .int a1), (2, .int a2)]) (fun _ => rfl) (fun x5 => ?_)
    refine so_iload_n (i := 2) X 4 (dkX12_sayFault (20, .iload_n 2, 1) (pgm 13 rfl)) rfl rfl ?_
    refine so_i2l X (dkX12_sayFault (21, .i2l, 1) (pgm 14 rfl)) ?_
    refine so_lconst (v := (0 : Int64)) X (dkX12_sayFault (22, .lconst 0, 1) (pgm 15 rfl)) lc_0 ?_
    refine so_ldc2 X lk_2082 (dkX12_sayFault (23, .ldc2_w 349, 3) (pgm 16 rfl)) ?_
    refine so_callS (n := 3) (As := [.long a2.toInt64, .long (0 : Int64), .long (3 : Int64)]) X (ct_X12_within l a2.toInt64 (0 : Int64) (3 : Int64) h2 ) lk_1832 lk_1833 lk_134 lk_1834 (by decide +kernel) rfl rfl rfl (rm_ok (by omega) (by decide)) ⟨Nat.zero_le _, Nat.zero_le _⟩ (Nat.le_of_ble_eq_true rfl) (dkX12_sayFault (26, .invokestatic 156, 3) (pgm 17 rfl)) (fun r6 h7 => ?_) rfl
    refine so_join (jf := fun (h8 : PH) => some ((3 : Int32), h8)) (fun (j : PH → Option (Int32 × PH)) => ∀  (h8 : PH), SWo (QM mkI below args s D cA ad A) p l e (rmd 3) s m args below meth c 0 0 6 D cA ad A 46 [] [] h8 (j h8)) ?_ (fun j46 hj46 => ?_)
    · intro h8
      refine so_iconst (v := (3 : Int32)) X (dkX12_sayFault (46, .iconst 3, 1) (pgm 26 rfl)) ic_3 ?_
      exact so_iret X hr hlk (dkX12_sayFault (47, .ireturn, 1) (pgm 27 rfl))
    refine so_if_eq (tgt := 46) X (dkX12_sayFault (29, .ifCond .eq 17, 3) (pgm 18 rfl)) rfl (fun _ => ?_) (fun _ => ?_)
    · exact so_pick X [] rfl (hj46 h7)
    · refine so_iload (i := 4) X 0 (dkX12_sayFault (32, .iload 4, 2) (pgm 19 rfl)) rfl ?_
      refine so_iconst (v := (2 : Int32)) X (dkX12_sayFault (34, .iconst 2, 1) (pgm 20 rfl)) ic_2 ?_
      refine so_irem X (dkX12_sayFault (35, .irem, 1) (pgm 21 rfl)) (fun _ => ?_)
      refine so_if_eq (tgt := 46) X (dkX12_sayFault (36, .ifCond .eq 10, 3) (pgm 22 rfl)) rfl (fun _ => ?_) (fun _ => ?_)
      · exact so_pick X [] rfl (hj46 h7)
      · refine so_iload (i := 4) X 0 (dkX12_sayFault (39, .iload 4, 2) (pgm 23 rfl)) rfl ?_
        refine so_bipush (v := (9 : Int32)) X (dkX12_sayFault (41, .bipush 9, 2) (pgm 24 rfl)) bp_9 ?_
        refine so_icmp_le (tgt := 48) X (dkX12_sayFault (43, .if_icmp .le 5, 3) (pgm 25 rfl)) rfl (fun _ => ?_) (fun _ => ?_)
        · refine so_iconst (v := (0 : Int32)) X (dkX12_sayFault (48, .iconst 0, 1) (pgm 28 rfl)) ic_0 ?_
          refine so_istore (i := 5) X (dkX12_sayFault (49, .istore 5, 2) (pgm 29 rfl)) (by decide) (Lf := fun x9 => [(5, .int x9), (4, .int x5), (3, .int x3), (0, .ref this), (1, .int a1), (2, .int a2)]) (fun _ => rfl) (fun x9 => ?_)
          refine so_pick (L' := [(0, .ref this), (1, .int a1), (4, .int x5), (5, .int x9)]) X [3, 4, 1, 0] rfl ?_
          refine so_loop (body := b_X12_sayFault_51 this a1 x5) (fun (s51 : Int32) => [(0, .ref this), (1, .int a1), (4, .int x5), (5, .int s51)]) (fun rec51 hrec51 s51 hh51 => ?_) FU x9 h7
          unfold b_X12_sayFault_51
          refine so_iload (i := 5) X 3 (dkX12_sayFault (51, .iload 5, 2) (pgm 30 rfl)) rfl ?_
          refine so_iload (i := 4) X 2 (dkX12_sayFault (53, .iload 4, 2) (pgm 31 rfl)) rfl ?_
          refine so_icmp_ge (tgt := 107) X (dkX12_sayFault (55, .if_icmp .ge 52, 3) (pgm 32 rfl)) rfl (fun _ => ?_) (fun _ => ?_)
          · refine so_iconst (v := (0 : Int32)) X (dkX12_sayFault (107, .iconst 0, 1) (pgm 61 rfl)) ic_0 ?_
            exact so_iret X hr hlk (dkX12_sayFault (108, .ireturn, 1) (pgm 62 rfl))
          · refine so_aload_n (i := 0) X 0 (dkX12_sayFault (58, .aload_n 0, 1) (pgm 33 rfl)) rfl rfl ?_
            refine sf_getR X ff_12_38 lk_1740 hk (dkX12_sayFault (59, .getfield 86, 3) (pgm 34 rfl)) ?_
            refine so_bipush (v := (30 : Int32)) X (dkX12_sayFault (62, .bipush 30, 2) (pgm 35 rfl)) bp_30 ?_
            refine so_iload_n (i := 1) X 1 (dkX12_sayFault (64, .iload_n 1, 1) (pgm 36 rfl)) rfl rfl ?_
            refine so_imul X (dkX12_sayFault (65, .imul, 1) (pgm 37 rfl)) ?_
            refine so_iload (i := 5) X 3 (dkX12_sayFault (66, .iload 5, 2) (pgm 38 rfl)) rfl ?_
            refine so_iadd X (dkX12_sayFault (68, .iadd, 1) (pgm 39 rfl)) ?_
            refine so_lald X (rk_12_38 this hk) (dkX12_sayFault (69, .laload, 1) (pgm 40 rfl)) (fun x10 => ?_)
            refine so_lconst (v := (0 : Int64)) X (dkX12_sayFault (70, .lconst 0, 1) (pgm 41 rfl)) lc_0 ?_
            refine so_iload (i := 5) X 3 (dkX12_sayFault (71, .iload 5, 2) (pgm 42 rfl)) rfl ?_
            refine so_iconst (v := (2 : Int32)) X (dkX12_sayFault (73, .iconst 2, 1) (pgm 43 rfl)) ic_2 ?_
            refine so_irem X (dkX12_sayFault (74, .irem, 1) (pgm 44 rfl)) (fun _ => ?_)
            refine so_join (jf := fun (t11 : Int64) (h12 : PH) => cb (f_X12_within x10 (0 : Int64) t11 h12) (fun (r13 : Int32) (h14 : PH) => if r13 = 0 then (some ((3 : Int32), h14)) else (lt (s51 + Int32.ofInt 1) (fun (x15 : Int32) => rec51 x15 h14)))) (fun (j : Int64 → PH → Option (Int32 × PH)) => ∀ (t11 : Int64) (h12 : PH), SWo (QM mkI below args s D cA ad A) p l e (rmd 3) s m args below meth c 0 0 6 D cA ad A 93 [(0, .ref this), (1, .int a1), (4, .int x5), (5, .int s51)] [.long t11, .long (0 : Int64), .long x10] h12 (j t11 h12)) ?_ (fun j93 hj93 => ?_)
            · intro t11 h12
              refine so_callS (n := 3) (As := [.long x10, .long (0 : Int64), .long t11]) X (ct_X12_within l x10 (0 : Int64) t11 h12 ) lk_1832 lk_1833 lk_134 lk_1834 (by decide +kernel) rfl rfl rfl (rm_ok (by omega) (by decide)) ⟨Nat.zero_le _, Nat.zero_le _⟩ (Nat.le_of_ble_eq_true rfl) (dkX12_sayFault (93, .invokestatic 156, 3) (pgm 55 rfl)) (fun r13 h14 => ?_) rfl
              refine so_if_ne (tgt := 101) X (dkX12_sayFault (96, .ifCond .ne 5, 3) (pgm 56 rfl)) rfl (fun _ => ?_) (fun _ => ?_)
              · refine so_iinc (i := 5) X 3 (dkX12_sayFault (101, .iinc 5 1, 3) (pgm 59 rfl)) rfl rfl (by decide) (Lf := fun x15 => [(5, .int x15), (0, .ref this), (1, .int a1), (4, .int x5)]) (fun _ => rfl) (fun x15 => ?_)
                refine so_goto (tgt := 51) X (dkX12_sayFault (104, .goto (-53), 3) (pgm 60 rfl)) rfl ?_
                exact so_pick X [1, 2, 3, 0] rfl (hrec51 x15 h14)
              · refine so_iconst (v := (3 : Int32)) X (dkX12_sayFault (99, .iconst 3, 1) (pgm 57 rfl)) ic_3 ?_
                exact so_iret X hr hlk (dkX12_sayFault (100, .ireturn, 1) (pgm 58 rfl))
            refine so_if_ne (tgt := 92) X (dkX12_sayFault (75, .ifCond .ne 17, 3) (pgm 45 rfl)) rfl (fun _ => ?_) (fun _ => ?_)
            · refine so_lconst (v := (1 : Int64)) X (dkX12_sayFault (92, .lconst 1, 1) (pgm 54 rfl)) lc_1 ?_
              exact so_pick X [0, 1, 2, 3] rfl (hj93 (1 : Int64) hh51)
            · refine so_ldc2 X lk_2034 (dkX12_sayFault (78, .ldc2_w 325, 3) (pgm 46 rfl)) ?_
              refine so_aload_n (i := 0) X 0 (dkX12_sayFault (81, .aload_n 0, 1) (pgm 47 rfl)) rfl rfl ?_
              refine so_callV (n := 0) (As := []) X (ct_X12_cells l this hh51 hk) hk (by decide) rfl lk_1668 lk_1670 lk_57 lk_134 lk_1671 (by decide +kernel) rfl rfl rfl (rm_ok (by omega) (by decide)) ⟨Nat.zero_le _, Nat.zero_le _⟩ (Nat.le_of_ble_eq_true rfl) (dkX12_sayFault (82, .invokevirtual 249, 3) (pgm 48 rfl)) (fun r16 h17 => ?_) rfl
              refine so_i2l X (dkX12_sayFault (85, .i2l, 1) (pgm 49 rfl)) ?_
              refine so_lmul X (dkX12_sayFault (86, .lmul, 1) (pgm 50 rfl)) ?_
              refine so_lconst (v := (1 : Int64)) X (dkX12_sayFault (87, .lconst 1, 1) (pgm 51 rfl)) lc_1 ?_
              refine so_lsub X (dkX12_sayFault (88, .lsub, 1) (pgm 52 rfl)) ?_
              refine so_goto (tgt := 93) X (dkX12_sayFault (89, .goto 4, 3) (pgm 53 rfl)) rfl ?_
              exact so_pick X [0, 1, 2, 3] rfl (hj93 (((2 : Int64) * r16.toInt64) - (1 : Int64)) h17)
        · exact so_pick X [] rfl (hj46 h7)
  · refine so_iload_n (i := 3) X 0 (dkX12_sayFault (10, .iload_n 3, 1) (pgm 6 rfl)) rfl rfl ?_
    exact so_iret X hr hlk (dkX12_sayFault (11, .ireturn, 1) (pgm 7 rfl))
def pgX12_readings : List (Nat × Instr × Nat) := [(0, .aload_n 0, 1), (1, .aload_n 0, 1), (2, .iload_n 1, 1), (3, .iload_n 2, 1), (4, .invokevirtual 408, 3), (7, .putfield 92, 3), (10, .aload_n 0, 1), (11, .getfield 92, 3), (14, .ifCond .le 5, 3), (17, .iconst 0, 1), (18, .ireturn, 1), (19, .aload_n 0, 1), (20, .getfield 83, 3), (23, .iload_n 1, 1), (24, .iaload, 1), (25, .iconst 1, 1), (26, .iadd, 1), (27, .iconst 2, 1), (28, .idiv, 1), (29, .istore_n 3, 1), (30, .aload_n 0, 1), (31, .iconst 0, 1), (32, .putfield 395, 3), (35, .iconst 0, 1), (36, .istore 4, 2), (38, .iload 4, 2), (40, .iload_n 3, 1), (41, .if_icmp .ge 39, 3), (44, .iconst 0, 1), (45, .istore 5, 2), (47, .iload 5, 2), (49, .iload 4, 2), (51, .iadd, 1), (52, .iload_n 3, 1), (53, .if_icmp .ge 21, 3), (56, .aload_n 0, 1), (57, .iload_n 1, 1), (58, .iload 5, 2), (60, .iload 5, 2), (62, .iload 4, 2), (64, .iadd, 1), (65, .invokevirtual 411, 3), (68, .iinc 5 1, 3), (71, .goto (-24), 3), (74, .iinc 4 1, 3), (77, .goto (-39), 3), (80, .aload_n 0, 1), (81, .getfield 71, 3), (84, .iload_n 3, 1), (85, .iconst 1, 1), (86, .isub, 1), (87, .iaload, 1), (88, .istore 4, 2), (90, .aload_n 0, 1), (91, .getfield 74, 3), (94, .iload_n 3, 1), (95, .iconst 1, 1), (96, .isub, 1), (97, .iaload, 1), (98, .istore 5, 2), (100, .iload_n 2, 1), (101, .ifCond .ne 6, 3), (104, .iload 5, 2), (106, .ireturn, 1), (107, .iload_n 2, 1), (108, .iconst 1, 1), (109, .if_icmp .ne 12, 3), (112, .aload_n 0, 1), (113, .iload 4, 2), (115, .iload 5, 2), (117, .invokevirtual 415, 3), (120, .ireturn, 1), (121, .aload_n 0, 1), (122, .iload 4, 2), (124, .invokevirtual 418, 3), (127, .istore 6, 2), (129, .iconst 1, 1), (130, .istore 7, 2), (132, .iload 7, 2), (134, .iload 5, 2), (136, .if_icmp .ge 44, 3), (139, .aload_n 0, 1), (140, .iload 4, 2), (142, .iload 7, 2), (144, .iadd, 1), (145, .invokevirtual 418, 3), (148, .istore 8, 2), (150, .iload_n 2, 1), (151, .iconst 2, 1), (152, .if_icmp .ne 13, 3), (155, .iload 6, 2), (157, .iload 8, 2), (159, .invokestatic 421, 3), (162, .goto 10, 3), (165, .iload 6, 2), (167, .iload 8, 2), (169, .invokestatic 238, 3), (172, .istore 6, 2), (174, .iinc 7 1, 3), (177, .goto (-45), 3), (180, .iload 6, 2), (182, .ireturn, 1)]
theorem dkX12_readings : ∀ q ∈ pgX12_readings, decode cX12_readings q.1 = .ok q.2 := by decide +kernel
def b_X12_readings_132 (this : Nat) (a2 : Int32) (x10 : Int32) (x12 : Int32) (rec132 : (Int32 × Int32) → PH → Option (Int32 × PH)) (s132 : Int32 × Int32) (hh132 : PH) : Option (Int32 × PH) :=
  if x12 ≤ s132.2 then (some (s132.1, hh132)) else (cb (f_X12_holdsIn this (x10 + s132.2) hh132) (fun (r17 : Int32) (h18 : PH) => lt r17 (fun (x19 : Int32) => lt (fun (t20 : Int32) (h21 : PH) => lt t20 (fun (x22 : Int32) => lt (s132.2 + Int32.ofInt 1) (fun (x23 : Int32) => rec132 (x22, x23) h21))) (fun (j172 : Int32 → PH → Option (Int32 × PH)) => if a2 = (2 : Int32) then (j172 (if s132.1 < x19 then x19 else s132.1) h18) else (j172 (if x19 < s132.1 then x19 else s132.1) h18)))))
def b_X12_readings_47 (this : Nat) (a1 : Int32) (x5 : Int32) (s38 : Int32) (j74 : PH → Option (Int32 × PH)) (rec47 : (Int32) → PH → Option (Int32 × PH)) (s47 : Int32) (hh47 : PH) : Option (Int32 × PH) :=
  if x5 ≤ (s47 + s38) then (j74 hh47) else (cb (f_X12_reads this a1 s47 (s47 + s38) hh47) (fun (r29 : Unit) (h30 : PH) => lt (s47 + Int32.ofInt 1) (fun (x31 : Int32) => rec47 x31 h30)))
def b_X12_readings_38 (this : Nat) (a1 : Int32) (x5 : Int32) (j80 : PH → Option (Int32 × PH)) (rec38 : (Int32) → PH → Option (Int32 × PH)) (s38 : Int32) (hh38 : PH) : Option (Int32 × PH) :=
  if x5 ≤ s38 then (j80 hh38) else (lt (0 : Int32) (fun (x26 : Int32) => lt (fun (h27 : PH) => lt (s38 + Int32.ofInt 1) (fun (x28 : Int32) => rec38 x28 h27)) (fun (j74 : PH → Option (Int32 × PH)) => lp (b_X12_readings_47 this a1 x5 s38 j74) FU x26 hh38)))
def f_X12_readings (this : Nat) (a1 : Int32) (a2 : Int32) (h0 : PH) : Option (Int32 × PH) :=
  cb (f_X12_sayFault this a1 a2 h0) (fun (r1 : Int32) (h2 : PH) => lt (pI h2 this 5 r1) (fun (h3 : PH) => if (h3.1 this 5) ≤ 0 then (ldI h3 (rt this 37) 4 a1 (fun (x4 : Int32) => nz (2 : Int32) (lt ((x4 + (1 : Int32)) / (2 : Int32)) (fun (x5 : Int32) => lt (pI h3 this 33 (0 : Int32)) (fun (h6 : PH) => lt (0 : Int32) (fun (x7 : Int32) => lt (fun (h8 : PH) => ldI h8 (rt this 31) 25 (x5 - (1 : Int32)) (fun (x9 : Int32) => lt x9 (fun (x10 : Int32) => ldI h8 (rt this 32) 25 (x5 - (1 : Int32)) (fun (x11 : Int32) => lt x11 (fun (x12 : Int32) => if a2 = 0 then (some (x12, h8)) else (if a2 = (1 : Int32) then (cb (f_X12_unlike this x10 x12 h8) (fun (r24 : Int32) (h25 : PH) => some (r24, h25))) else (cb (f_X12_holdsIn this x10 h8) (fun (r13 : Int32) (h14 : PH) => lt r13 (fun (x15 : Int32) => lt (1 : Int32) (fun (x16 : Int32) => lp (b_X12_readings_132 this a2 x10 x12) FU (x15, x16) h14)))))))))) (fun (j80 : PH → Option (Int32 × PH)) => lp (b_X12_readings_38 this a1 x5 j80) FU x7 h6))))))) else (some ((0 : Int32), h3))))
set_option maxRecDepth 100000 in
set_option maxHeartbeats 4000000 in
theorem ct_X12_readings (l : Launch) (this : Nat) (a1 : Int32) (a2 : Int32) (h0 : PH) (hk : (kd this).1 = 12) : CT mkI l yX12_readings cX12_readings 9 (some .int) (rmd 5) [.ref this, .int a1, .int a2] h0 (f_X12_readings this a1 a2 h0) := by
  refine ct_of (by decide) (Nat.le_of_ble_eq_true rfl) ?_
  intro p e s m args below meth c D cA ad A X hr hlk
  have X : Cx p s m args c RX12 cX12_readings 9 D cA ad A := X
  unfold f_X12_readings
  refine so_pick (L' := [(0, .ref this), (1, .int a1), (2, .int a2)]) X [0, 1, 2] rfl ?_
  refine so_aload_n (i := 0) X 0 (dkX12_readings (0, .aload_n 0, 1) (pgm 0 rfl)) rfl rfl ?_
  refine so_aload_n (i := 0) X 0 (dkX12_readings (1, .aload_n 0, 1) (pgm 1 rfl)) rfl rfl ?_
  refine so_iload_n (i := 1) X 1 (dkX12_readings (2, .iload_n 1, 1) (pgm 2 rfl)) rfl rfl ?_
  refine so_iload_n (i := 2) X 2 (dkX12_readings (3, .iload_n 2, 1) (pgm 3 rfl)) rfl rfl ?_
  refine so_callV (n := 2) (As := [.int a1, .int a2]) X (ct_X12_sayFault l this a1 a2 h0 hk) hk (by decide) rfl lk_2154 lk_2156 lk_106 lk_134 lk_2157 (by decide +kernel) rfl rfl rfl (rm_ok (by omega) (by decide)) ⟨Nat.zero_le _, Nat.zero_le _⟩ (Nat.le_of_ble_eq_true rfl) (dkX12_readings (4, .invokevirtual 408, 3) (pgm 4 rfl)) (fun r1 h2 => ?_) rfl
  refine sf_putI X ff_12_5 ft_12 rfl lk_1707 hk rfl rfl (dkX12_readings (7, .putfield 92, 3) (pgm 5 rfl)) (fun h3 => ?_)
  refine so_aload_n (i := 0) X 0 (dkX12_readings (10, .aload_n 0, 1) (pgm 6 rfl)) rfl rfl ?_
  refine sf_getI X ff_12_5 lk_1707 hk (dkX12_readings (11, .getfield 92, 3) (pgm 7 rfl)) ?_
  refine so_if_le (tgt := 19) X (dkX12_readings (14, .ifCond .le 5, 3) (pgm 8 rfl)) rfl (fun _ => ?_) (fun _ => ?_)
  · refine so_aload_n (i := 0) X 0 (dkX12_readings (19, .aload_n 0, 1) (pgm 11 rfl)) rfl rfl ?_
    refine sf_getR X ff_12_37 lk_1739 hk (dkX12_readings (20, .getfield 83, 3) (pgm 12 rfl)) ?_
    refine so_iload_n (i := 1) X 1 (dkX12_readings (23, .iload_n 1, 1) (pgm 13 rfl)) rfl rfl ?_
    refine so_iald X (rk_12_37 this hk) (dkX12_readings (24, .iaload, 1) (pgm 14 rfl)) (fun x4 => ?_)
    refine so_iconst (v := (1 : Int32)) X (dkX12_readings (25, .iconst 1, 1) (pgm 15 rfl)) ic_1 ?_
    refine so_iadd X (dkX12_readings (26, .iadd, 1) (pgm 16 rfl)) ?_
    refine so_iconst (v := (2 : Int32)) X (dkX12_readings (27, .iconst 2, 1) (pgm 17 rfl)) ic_2 ?_
    refine so_idiv X (dkX12_readings (28, .idiv, 1) (pgm 18 rfl)) (fun _ => ?_)
    refine so_istore_n (i := 3) X (dkX12_readings (29, .istore_n 3, 1) (pgm 19 rfl)) rfl (by decide) (Lf := fun x5 => [(3, .int x5), (0, .ref this), (1, .int a1), (2, .int a2)]) (fun _ => rfl) (fun x5 => ?_)
    refine so_aload_n (i := 0) X 1 (dkX12_readings (30, .aload_n 0, 1) (pgm 20 rfl)) rfl rfl ?_
    refine so_iconst (v := (0 : Int32)) X (dkX12_readings (31, .iconst 0, 1) (pgm 21 rfl)) ic_0 ?_
    refine sf_putI X ff_12_33 ft_12 rfl lk_1735 hk rfl rfl (dkX12_readings (32, .putfield 395, 3) (pgm 22 rfl)) (fun h6 => ?_)
    refine so_iconst (v := (0 : Int32)) X (dkX12_readings (35, .iconst 0, 1) (pgm 23 rfl)) ic_0 ?_
    refine so_istore (i := 4) X (dkX12_readings (36, .istore 4, 2) (pgm 24 rfl)) (by decide) (Lf := fun x7 => [(4, .int x7), (3, .int x5), (0, .ref this), (1, .int a1), (2, .int a2)]) (fun _ => rfl) (fun x7 => ?_)
    refine so_join (jf := fun (h8 : PH) => ldI h8 (rt this 31) 25 (x5 - (1 : Int32)) (fun (x9 : Int32) => lt x9 (fun (x10 : Int32) => ldI h8 (rt this 32) 25 (x5 - (1 : Int32)) (fun (x11 : Int32) => lt x11 (fun (x12 : Int32) => if a2 = 0 then (some (x12, h8)) else (if a2 = (1 : Int32) then (cb (f_X12_unlike this x10 x12 h8) (fun (r24 : Int32) (h25 : PH) => some (r24, h25))) else (cb (f_X12_holdsIn this x10 h8) (fun (r13 : Int32) (h14 : PH) => lt r13 (fun (x15 : Int32) => lt (1 : Int32) (fun (x16 : Int32) => lp (b_X12_readings_132 this a2 x10 x12) FU (x15, x16) h14)))))))))) (fun (j : PH → Option (Int32 × PH)) => ∀  (h8 : PH), SWo (QM mkI below args s D cA ad A) p l e (rmd 5) s m args below meth c 0 0 9 D cA ad A 80 [(0, .ref this), (2, .int a2), (3, .int x5)] [] h8 (j h8)) ?_ (fun j80 hj80 => ?_)
    · intro h8
      refine so_aload_n (i := 0) X 0 (dkX12_readings (80, .aload_n 0, 1) (pgm 46 rfl)) rfl rfl ?_
      refine sf_getR X ff_12_31 lk_1733 hk (dkX12_readings (81, .getfield 71, 3) (pgm 47 rfl)) ?_
      refine so_iload_n (i := 3) X 2 (dkX12_readings (84, .iload_n 3, 1) (pgm 48 rfl)) rfl rfl ?_
      refine so_iconst (v := (1 : Int32)) X (dkX12_readings (85, .iconst 1, 1) (pgm 49 rfl)) ic_1 ?_
      refine so_isub X (dkX12_readings (86, .isub, 1) (pgm 50 rfl)) ?_
      refine so_iald X (rk_12_31 this hk) (dkX12_readings (87, .iaload, 1) (pgm 51 rfl)) (fun x9 => ?_)
      refine so_istore (i := 4) X (dkX12_readings (88, .istore 4, 2) (pgm 52 rfl)) (by decide) (Lf := fun x10 => [(4, .int x10), (0, .ref this), (2, .int a2), (3, .int x5)]) (fun _ => rfl) (fun x10 => ?_)
      refine so_aload_n (i := 0) X 1 (dkX12_readings (90, .aload_n 0, 1) (pgm 53 rfl)) rfl rfl ?_
      refine sf_getR X ff_12_32 lk_1734 hk (dkX12_readings (91, .getfield 74, 3) (pgm 54 rfl)) ?_
      refine so_iload_n (i := 3) X 3 (dkX12_readings (94, .iload_n 3, 1) (pgm 55 rfl)) rfl rfl ?_
      refine so_iconst (v := (1 : Int32)) X (dkX12_readings (95, .iconst 1, 1) (pgm 56 rfl)) ic_1 ?_
      refine so_isub X (dkX12_readings (96, .isub, 1) (pgm 57 rfl)) ?_
      refine so_iald X (rk_12_32 this hk) (dkX12_readings (97, .iaload, 1) (pgm 58 rfl)) (fun x11 => ?_)
      refine so_istore (i := 5) X (dkX12_readings (98, .istore 5, 2) (pgm 59 rfl)) (by decide) (Lf := fun x12 => [(5, .int x12), (4, .int x10), (0, .ref this), (2, .int a2), (3, .int x5)]) (fun _ => rfl) (fun x12 => ?_)
      refine so_iload_n (i := 2) X 3 (dkX12_readings (100, .iload_n 2, 1) (pgm 60 rfl)) rfl rfl ?_
      refine so_if_ne (tgt := 107) X (dkX12_readings (101, .ifCond .ne 6, 3) (pgm 61 rfl)) rfl (fun _ => ?_) (fun _ => ?_)
      · refine so_iload_n (i := 2) X 3 (dkX12_readings (107, .iload_n 2, 1) (pgm 64 rfl)) rfl rfl ?_
        refine so_iconst (v := (1 : Int32)) X (dkX12_readings (108, .iconst 1, 1) (pgm 65 rfl)) ic_1 ?_
        refine so_icmp_ne (tgt := 121) X (dkX12_readings (109, .if_icmp .ne 12, 3) (pgm 66 rfl)) rfl (fun _ => ?_) (fun _ => ?_)
        · refine so_aload_n (i := 0) X 2 (dkX12_readings (121, .aload_n 0, 1) (pgm 72 rfl)) rfl rfl ?_
          refine so_iload (i := 4) X 1 (dkX12_readings (122, .iload 4, 2) (pgm 73 rfl)) rfl ?_
          refine so_callV (n := 1) (As := [.int x10]) X (ct_X12_holdsIn l this x10 h8 hk) hk (by decide) rfl lk_2178 lk_2180 lk_112 lk_134 lk_2181 (by decide +kernel) rfl rfl rfl (rm_ok (by omega) (by decide)) ⟨Nat.zero_le _, Nat.zero_le _⟩ (Nat.le_of_ble_eq_true rfl) (dkX12_readings (124, .invokevirtual 418, 3) (pgm 74 rfl)) (fun r13 h14 => ?_) rfl
          refine so_istore (i := 6) X (dkX12_readings (127, .istore 6, 2) (pgm 75 rfl)) (by decide) (Lf := fun x15 => [(6, .int x15), (5, .int x12), (4, .int x10), (0, .ref this), (2, .int a2), (3, .int x5)]) (fun _ => rfl) (fun x15 => ?_)
          refine so_iconst (v := (1 : Int32)) X (dkX12_readings (129, .iconst 1, 1) (pgm 76 rfl)) ic_1 ?_
          refine so_istore (i := 7) X (dkX12_readings (130, .istore 7, 2) (pgm 77 rfl)) (by decide) (Lf := fun x16 => [(7, .int x16), (6, .int x15), (5, .int x12), (4, .int x10), (0, .ref this), (2, .int a2), (3, .int x5)]) (fun _ => rfl) (fun x16 => ?_)
          refine so_pick (L' := [(0, .ref this), (2, .int a2), (4, .int x10), (5, .int x12), (6, .int x15), (7, .int x16)]) X [4, 5, 3, 2, 1, 0] rfl ?_
          refine so_loop (body := b_X12_readings_132 this a2 x10 x12) (fun (s132 : Int32 × Int32) => [(0, .ref this), (2, .int a2), (4, .int x10), (5, .int x12), (6, .int s132.1), (7, .int s132.2)]) (fun rec132 hrec132 s132 hh132 => ?_) FU (x15, x16) h14
          unfold b_X12_readings_132
          refine so_iload (i := 7) X 5 (dkX12_readings (132, .iload 7, 2) (pgm 78 rfl)) rfl ?_
          refine so_iload (i := 5) X 3 (dkX12_readings (134, .iload 5, 2) (pgm 79 rfl)) rfl ?_
          refine so_icmp_ge (tgt := 180) X (dkX12_readings (136, .if_icmp .ge 44, 3) (pgm 80 rfl)) rfl (fun _ => ?_) (fun _ => ?_)
          · refine so_iload (i := 6) X 4 (dkX12_readings (180, .iload 6, 2) (pgm 100 rfl)) rfl ?_
            exact so_iret X hr hlk (dkX12_readings (182, .ireturn, 1) (pgm 101 rfl))
          · refine so_aload_n (i := 0) X 0 (dkX12_readings (139, .aload_n 0, 1) (pgm 81 rfl)) rfl rfl ?_
            refine so_iload (i := 4) X 2 (dkX12_readings (140, .iload 4, 2) (pgm 82 rfl)) rfl ?_
            refine so_iload (i := 7) X 5 (dkX12_readings (142, .iload 7, 2) (pgm 83 rfl)) rfl ?_
            refine so_iadd X (dkX12_readings (144, .iadd, 1) (pgm 84 rfl)) ?_
            refine so_callV (n := 1) (As := [.int (x10 + s132.2)]) X (ct_X12_holdsIn l this (x10 + s132.2) hh132 hk) hk (by decide) rfl lk_2178 lk_2180 lk_112 lk_134 lk_2181 (by decide +kernel) rfl rfl rfl (rm_ok (by omega) (by decide)) ⟨Nat.zero_le _, Nat.zero_le _⟩ (Nat.le_of_ble_eq_true rfl) (dkX12_readings (145, .invokevirtual 418, 3) (pgm 85 rfl)) (fun r17 h18 => ?_) rfl
            refine so_istore (i := 8) X (dkX12_readings (148, .istore 8, 2) (pgm 86 rfl)) (by decide) (Lf := fun x19 => [(8, .int x19), (0, .ref this), (2, .int a2), (4, .int x10), (5, .int x12), (6, .int s132.1), (7, .int s132.2)]) (fun _ => rfl) (fun x19 => ?_)
            refine so_iload_n (i := 2) X 2 (dkX12_readings (150, .iload_n 2, 1) (pgm 87 rfl)) rfl rfl ?_
            refine so_iconst (v := (2 : Int32)) X (dkX12_readings (151, .iconst 2, 1) (pgm 88 rfl)) ic_2 ?_
            refine so_join (jf := fun (t20 : Int32) (h21 : PH) => lt t20 (fun (x22 : Int32) => lt (s132.2 + Int32.ofInt 1) (fun (x23 : Int32) => rec132 (x22, x23) h21))) (fun (j : Int32 → PH → Option (Int32 × PH)) => ∀ (t20 : Int32) (h21 : PH), SWo (QM mkI below args s D cA ad A) p l e (rmd 5) s m args below meth c 0 0 9 D cA ad A 172 [(0, .ref this), (2, .int a2), (4, .int x10), (5, .int x12), (7, .int s132.2)] [.int t20] h21 (j t20 h21)) ?_ (fun j172 hj172 => ?_)
            · intro t20 h21
              refine so_istore (i := 6) X (dkX12_readings (172, .istore 6, 2) (pgm 97 rfl)) (by decide) (Lf := fun x22 => [(6, .int x22), (0, .ref this), (2, .int a2), (4, .int x10), (5, .int x12), (7, .int s132.2)]) (fun _ => rfl) (fun x22 => ?_)
              refine so_iinc (i := 7) X 5 (dkX12_readings (174, .iinc 7 1, 3) (pgm 98 rfl)) rfl rfl (by decide) (Lf := fun x23 => [(7, .int x23), (6, .int x22), (0, .ref this), (2, .int a2), (4, .int x10), (5, .int x12)]) (fun _ => rfl) (fun x23 => ?_)
              refine so_goto (tgt := 132) X (dkX12_readings (177, .goto (-45), 3) (pgm 99 rfl)) rfl ?_
              exact so_pick X [2, 3, 4, 5, 1, 0] rfl (hrec132 (x22, x23) h21)
            refine so_icmp_ne (tgt := 165) X (dkX12_readings (152, .if_icmp .ne 13, 3) (pgm 89 rfl)) rfl (fun _ => ?_) (fun _ => ?_)
            · refine so_iload (i := 6) X 5 (dkX12_readings (165, .iload 6, 2) (pgm 94 rfl)) rfl ?_
              refine so_iload (i := 8) X 0 (dkX12_readings (167, .iload 8, 2) (pgm 95 rfl)) rfl ?_
              refine so_mmin X lk_1879 lk_904 lk_135 lk_905 (Nat.le_of_ble_eq_true rfl) (Nat.le_of_ble_eq_true rfl) ⟨Nat.zero_le _, Nat.zero_le _⟩ (dkX12_readings (169, .invokestatic 238, 3) (pgm 96 rfl)) ?_
              exact so_pick X [1, 2, 3, 4, 6] rfl (hj172 (if x19 < s132.1 then x19 else s132.1) h18)
            · refine so_iload (i := 6) X 5 (dkX12_readings (155, .iload 6, 2) (pgm 90 rfl)) rfl ?_
              refine so_iload (i := 8) X 0 (dkX12_readings (157, .iload 8, 2) (pgm 91 rfl)) rfl ?_
              refine so_mmax X lk_2182 lk_901 lk_135 lk_902 (Nat.le_of_ble_eq_true rfl) (Nat.le_of_ble_eq_true rfl) ⟨Nat.zero_le _, Nat.zero_le _⟩ (dkX12_readings (159, .invokestatic 421, 3) (pgm 92 rfl)) ?_
              refine so_goto (tgt := 172) X (dkX12_readings (162, .goto 10, 3) (pgm 93 rfl)) rfl ?_
              exact so_pick X [1, 2, 3, 4, 6] rfl (hj172 (if s132.1 < x19 then x19 else s132.1) h18)
        · refine so_aload_n (i := 0) X 2 (dkX12_readings (112, .aload_n 0, 1) (pgm 67 rfl)) rfl rfl ?_
          refine so_iload (i := 4) X 1 (dkX12_readings (113, .iload 4, 2) (pgm 68 rfl)) rfl ?_
          refine so_iload (i := 5) X 0 (dkX12_readings (115, .iload 5, 2) (pgm 69 rfl)) rfl ?_
          refine so_callV (n := 2) (As := [.int x10, .int x12]) X (ct_X12_unlike l this x10 x12 h8 hk) hk (by decide) rfl lk_2170 lk_2172 lk_110 lk_134 lk_2173 (by decide +kernel) rfl rfl rfl (rm_ok (by omega) (by decide)) ⟨Nat.zero_le _, Nat.zero_le _⟩ (Nat.le_of_ble_eq_true rfl) (dkX12_readings (117, .invokevirtual 415, 3) (pgm 70 rfl)) (fun r24 h25 => ?_) rfl
          exact so_iret X hr hlk (dkX12_readings (120, .ireturn, 1) (pgm 71 rfl))
      · refine so_iload (i := 5) X 0 (dkX12_readings (104, .iload 5, 2) (pgm 62 rfl)) rfl ?_
        exact so_iret X hr hlk (dkX12_readings (106, .ireturn, 1) (pgm 63 rfl))
    refine so_pick (L' := [(0, .ref this), (1, .int a1), (2, .int a2), (3, .int x5), (4, .int x7)]) X [2, 3, 4, 1, 0] rfl ?_
    refine so_loop (body := b_X12_readings_38 this a1 x5 j80) (fun (s38 : Int32) => [(0, .ref this), (1, .int a1), (2, .int a2), (3, .int x5), (4, .int s38)]) (fun rec38 hrec38 s38 hh38 => ?_) FU x7 h6
    unfold b_X12_readings_38
    refine so_iload (i := 4) X 4 (dkX12_readings (38, .iload 4, 2) (pgm 25 rfl)) rfl ?_
    refine so_iload_n (i := 3) X 3 (dkX12_readings (40, .iload_n 3, 1) (pgm 26 rfl)) rfl rfl ?_
    refine so_icmp_ge (tgt := 80) X (dkX12_readings (41, .if_icmp .ge 39, 3) (pgm 27 rfl)) rfl (fun _ => ?_) (fun _ => ?_)
    · exact so_pick X [0, 2, 3] rfl (hj80 hh38)
    · refine so_iconst (v := (0 : Int32)) X (dkX12_readings (44, .iconst 0, 1) (pgm 28 rfl)) ic_0 ?_
      refine so_istore (i := 5) X (dkX12_readings (45, .istore 5, 2) (pgm 29 rfl)) (by decide) (Lf := fun x26 => [(5, .int x26), (0, .ref this), (1, .int a1), (2, .int a2), (3, .int x5), (4, .int s38)]) (fun _ => rfl) (fun x26 => ?_)
      refine so_join (jf := fun (h27 : PH) => lt (s38 + Int32.ofInt 1) (fun (x28 : Int32) => rec38 x28 h27)) (fun (j : PH → Option (Int32 × PH)) => ∀  (h27 : PH), SWo (QM mkI below args s D cA ad A) p l e (rmd 5) s m args below meth c 0 0 9 D cA ad A 74 [(0, .ref this), (1, .int a1), (2, .int a2), (3, .int x5), (4, .int s38)] [] h27 (j h27)) ?_ (fun j74 hj74 => ?_)
      · intro h27
        refine so_iinc (i := 4) X 4 (dkX12_readings (74, .iinc 4 1, 3) (pgm 44 rfl)) rfl rfl (by decide) (Lf := fun x28 => [(4, .int x28), (0, .ref this), (1, .int a1), (2, .int a2), (3, .int x5)]) (fun _ => rfl) (fun x28 => ?_)
        refine so_goto (tgt := 38) X (dkX12_readings (77, .goto (-39), 3) (pgm 45 rfl)) rfl ?_
        exact so_pick X [1, 2, 3, 4, 0] rfl (hrec38 x28 h27)
      refine so_pick (L' := [(0, .ref this), (1, .int a1), (2, .int a2), (3, .int x5), (4, .int s38), (5, .int x26)]) X [1, 2, 3, 4, 5, 0] rfl ?_
      refine so_loop (body := b_X12_readings_47 this a1 x5 s38 j74) (fun (s47 : Int32) => [(0, .ref this), (1, .int a1), (2, .int a2), (3, .int x5), (4, .int s38), (5, .int s47)]) (fun rec47 hrec47 s47 hh47 => ?_) FU x26 hh38
      unfold b_X12_readings_47
      refine so_iload (i := 5) X 5 (dkX12_readings (47, .iload 5, 2) (pgm 30 rfl)) rfl ?_
      refine so_iload (i := 4) X 4 (dkX12_readings (49, .iload 4, 2) (pgm 31 rfl)) rfl ?_
      refine so_iadd X (dkX12_readings (51, .iadd, 1) (pgm 32 rfl)) ?_
      refine so_iload_n (i := 3) X 3 (dkX12_readings (52, .iload_n 3, 1) (pgm 33 rfl)) rfl rfl ?_
      refine so_icmp_ge (tgt := 74) X (dkX12_readings (53, .if_icmp .ge 21, 3) (pgm 34 rfl)) rfl (fun _ => ?_) (fun _ => ?_)
      · exact so_pick X [0, 1, 2, 3, 4] rfl (hj74 hh47)
      · refine so_aload_n (i := 0) X 0 (dkX12_readings (56, .aload_n 0, 1) (pgm 35 rfl)) rfl rfl ?_
        refine so_iload_n (i := 1) X 1 (dkX12_readings (57, .iload_n 1, 1) (pgm 36 rfl)) rfl rfl ?_
        refine so_iload (i := 5) X 5 (dkX12_readings (58, .iload 5, 2) (pgm 37 rfl)) rfl ?_
        refine so_iload (i := 5) X 5 (dkX12_readings (60, .iload 5, 2) (pgm 38 rfl)) rfl ?_
        refine so_iload (i := 4) X 4 (dkX12_readings (62, .iload 4, 2) (pgm 39 rfl)) rfl ?_
        refine so_iadd X (dkX12_readings (64, .iadd, 1) (pgm 40 rfl)) ?_
        refine so_callV (n := 3) (As := [.int a1, .int s47, .int (s47 + s38)]) X (ct_X12_reads l this a1 s47 (s47 + s38) hh47 hk) hk (by decide) rfl lk_2158 lk_2160 lk_107 lk_134 lk_2161 (by decide +kernel) rfl rfl rfl (rm_ok (by omega) (by decide)) ⟨Nat.zero_le _, Nat.zero_le _⟩ (Nat.le_of_ble_eq_true rfl) (dkX12_readings (65, .invokevirtual 411, 3) (pgm 41 rfl)) (fun r29 h30 => ?_) rfl
        refine so_iinc (i := 5) X 5 (dkX12_readings (68, .iinc 5 1, 3) (pgm 42 rfl)) rfl rfl (by decide) (Lf := fun x31 => [(5, .int x31), (0, .ref this), (1, .int a1), (2, .int a2), (3, .int x5), (4, .int s38)]) (fun _ => rfl) (fun x31 => ?_)
        refine so_goto (tgt := 47) X (dkX12_readings (71, .goto (-24), 3) (pgm 43 rfl)) rfl ?_
        exact so_pick X [1, 2, 3, 4, 5, 0] rfl (hrec47 x31 h30)
  · refine so_iconst (v := (0 : Int32)) X (dkX12_readings (17, .iconst 0, 1) (pgm 9 rfl)) ic_0 ?_
    exact so_iret X hr hlk (dkX12_readings (18, .ireturn, 1) (pgm 10 rfl))
def pgX12_judge : List (Nat × Instr × Nat) := [(0, .aload_n 0, 1), (1, .aload_n 0, 1), (2, .iload_n 1, 1), (3, .invokevirtual 385, 3), (6, .putfield 92, 3), (9, .aload_n 0, 1), (10, .getfield 92, 3), (13, .ifCond .ne 20, 3), (16, .iload_n 2, 1), (17, .i2l, 1), (18, .lconst 0, 1), (19, .ldc2_w 349, 3), (22, .invokestatic 156, 3), (25, .ifCond .ne 8, 3), (28, .aload_n 0, 1), (29, .iconst 3, 1), (30, .putfield 92, 3), (33, .aload_n 0, 1), (34, .getfield 92, 3), (37, .ifCond .le 5, 3), (40, .iconst 0, 1), (41, .ireturn, 1), (42, .iconst 0, 1), (43, .istore_n 3, 1), (44, .iload_n 3, 1), (45, .bipush 17, 2), (47, .if_icmp .ge 24, 3), (50, .aload_n 0, 1), (51, .getfield 19, 3), (54, .iload_n 3, 1), (55, .aload_n 0, 1), (56, .getfield 9, 3), (59, .bipush 7, 2), (61, .iload_n 3, 1), (62, .iadd, 1), (63, .iaload, 1), (64, .iastore, 1), (65, .iinc 3 1, 3), (68, .goto (-24), 3), (71, .iconst (-1), 1), (72, .istore_n 3, 1), (73, .iconst 0, 1), (74, .istore 4, 2), (76, .iconst 0, 1), (77, .istore 5, 2), (79, .iconst 0, 1), (80, .istore 6, 2), (82, .iload 6, 2), (84, .aload_n 0, 1), (85, .getfield 83, 3), (88, .iload_n 1, 1), (89, .iaload, 1), (90, .if_icmp .ge 65, 3), (93, .iload_n 3, 1), (94, .iconst (-1), 1), (95, .if_icmp .ne 60, 3), (98, .aload_n 0, 1), (99, .aload_n 0, 1), (100, .getfield 86, 3), (103, .bipush 30, 2), (105, .iload_n 1, 1), (106, .imul, 1), (107, .iload 6, 2), (109, .iadd, 1), (110, .laload, 1), (111, .invokevirtual 310, 3), (114, .istore 4, 2), (116, .iload 4, 2), (118, .ifCond .ne 28, 3), (121, .iload 5, 2), (123, .aload_n 0, 1), (124, .aload_n 0, 1), (125, .getfield 86, 3), (128, .bipush 30, 2), (130, .iload_n 1, 1), (131, .imul, 1), (132, .iload 6, 2), (134, .iadd, 1), (135, .laload, 1), (136, .l2i, 1), (137, .invokevirtual 426, 3), (140, .iadd, 1), (141, .istore 5, 2), (143, .goto 6, 3), (146, .iload 6, 2), (148, .istore_n 3, 1), (149, .iinc 6 1, 3), (152, .goto (-70), 3), (155, .aload_n 0, 1), (156, .getfield 9, 3), (159, .bipush 7, 2), (161, .iaload, 1), (162, .invokestatic 269, 3), (165, .istore 6, 2), (167, .iconst 0, 1), (168, .istore 7, 2), (170, .iload 7, 2), (172, .bipush 17, 2), (174, .if_icmp .ge 26, 3), (177, .aload_n 0, 1), (178, .getfield 9, 3), (181, .bipush 7, 2), (183, .iload 7, 2), (185, .iadd, 1), (186, .aload_n 0, 1), (187, .getfield 19, 3), (190, .iload 7, 2), (192, .iaload, 1), (193, .iastore, 1), (194, .iinc 7 1, 3), (197, .goto (-27), 3), (200, .iload_n 2, 1), (201, .ifCond .ne 7, 3), (204, .iload_n 3, 1), (205, .goto 25, 3), (208, .iload_n 2, 1), (209, .iconst 1, 1), (210, .if_icmp .ne 8, 3), (213, .iload 4, 2), (215, .goto 15, 3), (218, .iload_n 2, 1), (219, .iconst 2, 1), (220, .if_icmp .ne 8, 3), (223, .iload 5, 2), (225, .goto 5, 3), (228, .iload 6, 2), (230, .ireturn, 1)]
theorem dkX12_judge : ∀ q ∈ pgX12_judge, decode cX12_judge q.1 = .ok q.2 := by decide +kernel
def b_X12_judge_170 (this : Nat) (j200 : PH → Option (Int32 × PH)) (rec170 : (Int32) → PH → Option (Int32 × PH)) (s170 : Int32) (hh170 : PH) : Option (Int32 × PH) :=
  if (17 : Int32) ≤ s170 then (j200 hh170) else (ldI hh170 (rt this 3) 17 s170 (fun (x23 : Int32) => stI hh170 (rt this 0) 1200 ((7 : Int32) + s170) x23 (fun (h24 : PH) => lt (s170 + Int32.ofInt 1) (fun (x25 : Int32) => rec170 x25 h24))))
def b_X12_judge_82 (this : Nat) (a1 : Int32) (j155 : Int32 → Int32 → Int32 → PH → Option (Int32 × PH)) (rec82 : (Int32 × Int32 × Int32 × Int32) → PH → Option (Int32 × PH)) (s82 : Int32 × Int32 × Int32 × Int32) (hh82 : PH) : Option (Int32 × PH) :=
  ldI hh82 (rt this 37) 4 a1 (fun (x26 : Int32) => if x26 ≤ s82.2.2.2 then (j155 s82.1 s82.2.1 s82.2.2.1 hh82) else (if s82.1 = (-1 : Int32) then (ldL hh82 (rt this 38) 120 (((30 : Int32) * a1) + s82.2.2.2) (fun (x27 : Int64) => cb (f_X12_whyNot this x27 hh82) (fun (r28 : Int32) (h29 : PH) => lt r28 (fun (x30 : Int32) => lt (fun (y31 : Int32) (y32 : Int32) (h33 : PH) => lt (s82.2.2.2 + Int32.ofInt 1) (fun (x34 : Int32) => rec82 (y31, x30, y32, x34) h33)) (fun (j149 : Int32 → Int32 → PH → Option (Int32 × PH)) => if x30 = 0 then (ldL h29 (rt this 38) 120 (((30 : Int32) * a1) + s82.2.2.2) (fun (x36 : Int64) => cb (f_X12_goesBy this x36.toInt32 h29) (fun (r37 : Int32) (h38 : PH) => lt (s82.2.2.1 + r37) (fun (x39 : Int32) => j149 s82.1 x39 h38)))) else (lt s82.2.2.2 (fun (x35 : Int32) => j149 x35 s82.2.2.1 h29))))))) else (j155 s82.1 s82.2.1 s82.2.2.1 hh82)))
def b_X12_judge_44 (this : Nat) (j71 : PH → Option (Int32 × PH)) (rec44 : (Int32) → PH → Option (Int32 × PH)) (s44 : Int32) (hh44 : PH) : Option (Int32 × PH) :=
  if (17 : Int32) ≤ s44 then (j71 hh44) else (ldI hh44 (rt this 0) 1200 ((7 : Int32) + s44) (fun (x40 : Int32) => stI hh44 (rt this 3) 17 s44 x40 (fun (h41 : PH) => lt (s44 + Int32.ofInt 1) (fun (x42 : Int32) => rec44 x42 h41))))
def f_X12_judge (this : Nat) (a1 : Int32) (a2 : Int32) (h0 : PH) : Option (Int32 × PH) :=
  cb (f_X12_trayFault this a1 h0) (fun (r1 : Int32) (h2 : PH) => lt (pI h2 this 5 r1) (fun (h3 : PH) => lt (fun (h4 : PH) => if (h4.1 this 5) ≤ 0 then (lt (0 : Int32) (fun (x5 : Int32) => lt (fun (h6 : PH) => lt (-1 : Int32) (fun (x7 : Int32) => lt (0 : Int32) (fun (x8 : Int32) => lt (0 : Int32) (fun (x9 : Int32) => lt (0 : Int32) (fun (x10 : Int32) => lt (fun (y11 : Int32) (y12 : Int32) (y13 : Int32) (h14 : PH) => ldI h14 (rt this 0) 1200 (7 : Int32) (fun (x15 : Int32) => cb (f_X12_size x15 h14) (fun (r16 : Int32) (h17 : PH) => lt r16 (fun (x18 : Int32) => lt (0 : Int32) (fun (x19 : Int32) => lt (fun (h20 : PH) => lt (fun (t21 : Int32) (h22 : PH) => some (t21, h22)) (fun (j230 : Int32 → PH → Option (Int32 × PH)) => if a2 = 0 then (j230 y11 h20) else (if a2 = (1 : Int32) then (j230 y12 h20) else (if a2 = (2 : Int32) then (j230 y13 h20) else (j230 x18 h20))))) (fun (j200 : PH → Option (Int32 × PH)) => lp (b_X12_judge_170 this j200) FU x19 h17)))))) (fun (j155 : Int32 → Int32 → Int32 → PH → Option (Int32 × PH)) => lp (b_X12_judge_82 this a1 j155) FU (x7, x8, x9, x10) h6)))))) (fun (j71 : PH → Option (Int32 × PH)) => lp (b_X12_judge_44 this j71) FU x5 h4))) else (some ((0 : Int32), h4))) (fun (j33 : PH → Option (Int32 × PH)) => if (h3.1 this 5) = 0 then (cb (f_X12_within a2.toInt64 (0 : Int64) (3 : Int64) h3) (fun (r43 : Int32) (h44 : PH) => if r43 = 0 then (lt (pI h44 this 5 (3 : Int32)) (fun (h45 : PH) => j33 h45)) else (j33 h44))) else (j33 h3))))
set_option maxRecDepth 100000 in
set_option maxHeartbeats 4000000 in
theorem ct_X12_judge (l : Launch) (this : Nat) (a1 : Int32) (a2 : Int32) (h0 : PH) (hk : (kd this).1 = 12) : CT mkI l yX12_judge cX12_judge 8 (some .int) (rmd 4) [.ref this, .int a1, .int a2] h0 (f_X12_judge this a1 a2 h0) := by
  refine ct_of (by decide) (Nat.le_of_ble_eq_true rfl) ?_
  intro p e s m args below meth c D cA ad A X hr hlk
  have X : Cx p s m args c RX12 cX12_judge 8 D cA ad A := X
  unfold f_X12_judge
  refine so_pick (L' := [(0, .ref this), (1, .int a1), (2, .int a2)]) X [0, 1, 2] rfl ?_
  refine so_aload_n (i := 0) X 0 (dkX12_judge (0, .aload_n 0, 1) (pgm 0 rfl)) rfl rfl ?_
  refine so_aload_n (i := 0) X 0 (dkX12_judge (1, .aload_n 0, 1) (pgm 1 rfl)) rfl rfl ?_
  refine so_iload_n (i := 1) X 1 (dkX12_judge (2, .iload_n 1, 1) (pgm 2 rfl)) rfl rfl ?_
  refine so_callV (n := 1) (As := [.int a1]) X (ct_X12_trayFault l this a1 h0 hk) hk (by decide) rfl lk_2130 lk_2132 lk_103 lk_134 lk_2133 (by decide +kernel) rfl rfl rfl (rm_ok (by omega) (by decide)) ⟨Nat.zero_le _, Nat.zero_le _⟩ (Nat.le_of_ble_eq_true rfl) (dkX12_judge (3, .invokevirtual 385, 3) (pgm 3 rfl)) (fun r1 h2 => ?_) rfl
  refine sf_putI X ff_12_5 ft_12 rfl lk_1707 hk rfl rfl (dkX12_judge (6, .putfield 92, 3) (pgm 4 rfl)) (fun h3 => ?_)
  refine so_aload_n (i := 0) X 0 (dkX12_judge (9, .aload_n 0, 1) (pgm 5 rfl)) rfl rfl ?_
  refine sf_getI X ff_12_5 lk_1707 hk (dkX12_judge (10, .getfield 92, 3) (pgm 6 rfl)) ?_
  refine so_join (jf := fun (h4 : PH) => if (h4.1 this 5) ≤ 0 then (lt (0 : Int32) (fun (x5 : Int32) => lt (fun (h6 : PH) => lt (-1 : Int32) (fun (x7 : Int32) => lt (0 : Int32) (fun (x8 : Int32) => lt (0 : Int32) (fun (x9 : Int32) => lt (0 : Int32) (fun (x10 : Int32) => lt (fun (y11 : Int32) (y12 : Int32) (y13 : Int32) (h14 : PH) => ldI h14 (rt this 0) 1200 (7 : Int32) (fun (x15 : Int32) => cb (f_X12_size x15 h14) (fun (r16 : Int32) (h17 : PH) => lt r16 (fun (x18 : Int32) => lt (0 : Int32) (fun (x19 : Int32) => lt (fun (h20 : PH) => lt (fun (t21 : Int32) (h22 : PH) => some (t21, h22)) (fun (j230 : Int32 → PH → Option (Int32 × PH)) => if a2 = 0 then (j230 y11 h20) else (if a2 = (1 : Int32) then (j230 y12 h20) else (if a2 = (2 : Int32) then (j230 y13 h20) else (j230 x18 h20))))) (fun (j200 : PH → Option (Int32 × PH)) => lp (b_X12_judge_170 this j200) FU x19 h17)))))) (fun (j155 : Int32 → Int32 → Int32 → PH → Option (Int32 × PH)) => lp (b_X12_judge_82 this a1 j155) FU (x7, x8, x9, x10) h6)))))) (fun (j71 : PH → Option (Int32 × PH)) => lp (b_X12_judge_44 this j71) FU x5 h4))) else (some ((0 : Int32), h4))) (fun (j : PH → Option (Int32 × PH)) => ∀  (h4 : PH), SWo (QM mkI below args s D cA ad A) p l e (rmd 4) s m args below meth c 0 0 8 D cA ad A 33 [(0, .ref this), (1, .int a1), (2, .int a2)] [] h4 (j h4)) ?_ (fun j33 hj33 => ?_)
  · intro h4
    refine so_aload_n (i := 0) X 0 (dkX12_judge (33, .aload_n 0, 1) (pgm 17 rfl)) rfl rfl ?_
    refine sf_getI X ff_12_5 lk_1707 hk (dkX12_judge (34, .getfield 92, 3) (pgm 18 rfl)) ?_
    refine so_if_le (tgt := 42) X (dkX12_judge (37, .ifCond .le 5, 3) (pgm 19 rfl)) rfl (fun _ => ?_) (fun _ => ?_)
    · refine so_iconst (v := (0 : Int32)) X (dkX12_judge (42, .iconst 0, 1) (pgm 22 rfl)) ic_0 ?_
      refine so_istore_n (i := 3) X (dkX12_judge (43, .istore_n 3, 1) (pgm 23 rfl)) rfl (by decide) (Lf := fun x5 => [(3, .int x5), (0, .ref this), (1, .int a1), (2, .int a2)]) (fun _ => rfl) (fun x5 => ?_)
      refine so_join (jf := fun (h6 : PH) => lt (-1 : Int32) (fun (x7 : Int32) => lt (0 : Int32) (fun (x8 : Int32) => lt (0 : Int32) (fun (x9 : Int32) => lt (0 : Int32) (fun (x10 : Int32) => lt (fun (y11 : Int32) (y12 : Int32) (y13 : Int32) (h14 : PH) => ldI h14 (rt this 0) 1200 (7 : Int32) (fun (x15 : Int32) => cb (f_X12_size x15 h14) (fun (r16 : Int32) (h17 : PH) => lt r16 (fun (x18 : Int32) => lt (0 : Int32) (fun (x19 : Int32) => lt (fun (h20 : PH) => lt (fun (t21 : Int32) (h22 : PH) => some (t21, h22)) (fun (j230 : Int32 → PH → Option (Int32 × PH)) => if a2 = 0 then (j230 y11 h20) else (if a2 = (1 : Int32) then (j230 y12 h20) else (if a2 = (2 : Int32) then (j230 y13 h20) else (j230 x18 h20))))) (fun (j200 : PH → Option (Int32 × PH)) => lp (b_X12_judge_170 this j200) FU x19 h17)))))) (fun (j155 : Int32 → Int32 → Int32 → PH → Option (Int32 × PH)) => lp (b_X12_judge_82 this a1 j155) FU (x7, x8, x9, x10) h6)))))) (fun (j : PH → Option (Int32 × PH)) => ∀  (h6 : PH), SWo (QM mkI below args s D cA ad A) p l e (rmd 4) s m args below meth c 0 0 8 D cA ad A 71 [(0, .ref this), (1, .int a1), (2, .int a2)] [] h6 (j h6)) ?_ (fun j71 hj71 => ?_)
      · intro h6
        refine so_iconst (v := (-1 : Int32)) X (dkX12_judge (71, .iconst (-1), 1) (pgm 39 rfl)) ic_m1 ?_
        refine so_istore_n (i := 3) X (dkX12_judge (72, .istore_n 3, 1) (pgm 40 rfl)) rfl (by decide) (Lf := fun x7 => [(3, .int x7), (0, .ref this), (1, .int a1), (2, .int a2)]) (fun _ => rfl) (fun x7 => ?_)
        refine so_iconst (v := (0 : Int32)) X (dkX12_judge (73, .iconst 0, 1) (pgm 41 rfl)) ic_0 ?_
        refine so_istore (i := 4) X (dkX12_judge (74, .istore 4, 2) (pgm 42 rfl)) (by decide) (Lf := fun x8 => [(4, .int x8), (3, .int x7), (0, .ref this), (1, .int a1), (2, .int a2)]) (fun _ => rfl) (fun x8 => ?_)
        refine so_iconst (v := (0 : Int32)) X (dkX12_judge (76, .iconst 0, 1) (pgm 43 rfl)) ic_0 ?_
        refine so_istore (i := 5) X (dkX12_judge (77, .istore 5, 2) (pgm 44 rfl)) (by decide) (Lf := fun x9 => [(5, .int x9), (4, .int x8), (3, .int x7), (0, .ref this), (1, .int a1), (2, .int a2)]) (fun _ => rfl) (fun x9 => ?_)
        refine so_iconst (v := (0 : Int32)) X (dkX12_judge (79, .iconst 0, 1) (pgm 45 rfl)) ic_0 ?_
        refine so_istore (i := 6) X (dkX12_judge (80, .istore 6, 2) (pgm 46 rfl)) (by decide) (Lf := fun x10 => [(6, .int x10), (5, .int x9), (4, .int x8), (3, .int x7), (0, .ref this), (1, .int a1), (2, .int a2)]) (fun _ => rfl) (fun x10 => ?_)
        refine so_join (jf := fun (y11 : Int32) (y12 : Int32) (y13 : Int32) (h14 : PH) => ldI h14 (rt this 0) 1200 (7 : Int32) (fun (x15 : Int32) => cb (f_X12_size x15 h14) (fun (r16 : Int32) (h17 : PH) => lt r16 (fun (x18 : Int32) => lt (0 : Int32) (fun (x19 : Int32) => lt (fun (h20 : PH) => lt (fun (t21 : Int32) (h22 : PH) => some (t21, h22)) (fun (j230 : Int32 → PH → Option (Int32 × PH)) => if a2 = 0 then (j230 y11 h20) else (if a2 = (1 : Int32) then (j230 y12 h20) else (if a2 = (2 : Int32) then (j230 y13 h20) else (j230 x18 h20))))) (fun (j200 : PH → Option (Int32 × PH)) => lp (b_X12_judge_170 this j200) FU x19 h17)))))) (fun (j : Int32 → Int32 → Int32 → PH → Option (Int32 × PH)) => ∀ (y11 : Int32) (y12 : Int32) (y13 : Int32) (h14 : PH), SWo (QM mkI below args s D cA ad A) p l e (rmd 4) s m args below meth c 0 0 8 D cA ad A 155 [(0, .ref this), (2, .int a2), (3, .int y11), (4, .int y12), (5, .int y13)] [] h14 (j y11 y12 y13 h14)) ?_ (fun j155 hj155 => ?_)
        · intro y11 y12 y13 h14
          refine so_aload_n (i := 0) X 0 (dkX12_judge (155, .aload_n 0, 1) (pgm 88 rfl)) rfl rfl ?_
          refine sf_getR X ff_12_0 lk_1702 hk (dkX12_judge (156, .getfield 9, 3) (pgm 89 rfl)) ?_
          refine so_bipush (v := (7 : Int32)) X (dkX12_judge (159, .bipush 7, 2) (pgm 90 rfl)) bp_7 ?_
          refine so_iald X (rk_12_0 this hk) (dkX12_judge (161, .iaload, 1) (pgm 91 rfl)) (fun x15 => ?_)
          refine so_callS (n := 1) (As := [.int x15]) X (ct_X12_size l x15 h14 ) lk_1687 lk_1688 lk_134 lk_1689 (by decide +kernel) rfl rfl rfl (rm_ok (by omega) (by decide)) ⟨Nat.zero_le _, Nat.zero_le _⟩ (Nat.le_of_ble_eq_true rfl) (dkX12_judge (162, .invokestatic 269, 3) (pgm 92 rfl)) (fun r16 h17 => ?_) rfl
          refine so_istore (i := 6) X (dkX12_judge (165, .istore 6, 2) (pgm 93 rfl)) (by decide) (Lf := fun x18 => [(6, .int x18), (0, .ref this), (2, .int a2), (3, .int y11), (4, .int y12), (5, .int y13)]) (fun _ => rfl) (fun x18 => ?_)
          refine so_iconst (v := (0 : Int32)) X (dkX12_judge (167, .iconst 0, 1) (pgm 94 rfl)) ic_0 ?_
          refine so_istore (i := 7) X (dkX12_judge (168, .istore 7, 2) (pgm 95 rfl)) (by decide) (Lf := fun x19 => [(7, .int x19), (6, .int x18), (0, .ref this), (2, .int a2), (3, .int y11), (4, .int y12), (5, .int y13)]) (fun _ => rfl) (fun x19 => ?_)
          refine so_join (jf := fun (h20 : PH) => lt (fun (t21 : Int32) (h22 : PH) => some (t21, h22)) (fun (j230 : Int32 → PH → Option (Int32 × PH)) => if a2 = 0 then (j230 y11 h20) else (if a2 = (1 : Int32) then (j230 y12 h20) else (if a2 = (2 : Int32) then (j230 y13 h20) else (j230 x18 h20))))) (fun (j : PH → Option (Int32 × PH)) => ∀  (h20 : PH), SWo (QM mkI below args s D cA ad A) p l e (rmd 4) s m args below meth c 0 0 8 D cA ad A 200 [(2, .int a2), (3, .int y11), (4, .int y12), (5, .int y13), (6, .int x18)] [] h20 (j h20)) ?_ (fun j200 hj200 => ?_)
          · intro h20
            refine so_iload_n (i := 2) X 0 (dkX12_judge (200, .iload_n 2, 1) (pgm 111 rfl)) rfl rfl ?_
            refine so_join (jf := fun (t21 : Int32) (h22 : PH) => some (t21, h22)) (fun (j : Int32 → PH → Option (Int32 × PH)) => ∀ (t21 : Int32) (h22 : PH), SWo (QM mkI below args s D cA ad A) p l e (rmd 4) s m args below meth c 0 0 8 D cA ad A 230 [] [.int t21] h22 (j t21 h22)) ?_ (fun j230 hj230 => ?_)
            · intro t21 h22
              exact so_iret X hr hlk (dkX12_judge (230, .ireturn, 1) (pgm 126 rfl))
            refine so_if_ne (tgt := 208) X (dkX12_judge (201, .ifCond .ne 7, 3) (pgm 112 rfl)) rfl (fun _ => ?_) (fun _ => ?_)
            · refine so_iload_n (i := 2) X 0 (dkX12_judge (208, .iload_n 2, 1) (pgm 115 rfl)) rfl rfl ?_
              refine so_iconst (v := (1 : Int32)) X (dkX12_judge (209, .iconst 1, 1) (pgm 116 rfl)) ic_1 ?_
              refine so_icmp_ne (tgt := 218) X (dkX12_judge (210, .if_icmp .ne 8, 3) (pgm 117 rfl)) rfl (fun _ => ?_) (fun _ => ?_)
              · refine so_iload_n (i := 2) X 0 (dkX12_judge (218, .iload_n 2, 1) (pgm 120 rfl)) rfl rfl ?_
                refine so_iconst (v := (2 : Int32)) X (dkX12_judge (219, .iconst 2, 1) (pgm 121 rfl)) ic_2 ?_
                refine so_icmp_ne (tgt := 228) X (dkX12_judge (220, .if_icmp .ne 8, 3) (pgm 122 rfl)) rfl (fun _ => ?_) (fun _ => ?_)
                · refine so_iload (i := 6) X 4 (dkX12_judge (228, .iload 6, 2) (pgm 125 rfl)) rfl ?_
                  exact so_pick X [] rfl (hj230 x18 h20)
                · refine so_iload (i := 5) X 3 (dkX12_judge (223, .iload 5, 2) (pgm 123 rfl)) rfl ?_
                  refine so_goto (tgt := 230) X (dkX12_judge (225, .goto 5, 3) (pgm 124 rfl)) rfl ?_
                  exact so_pick X [] rfl (hj230 y13 h20)
              · refine so_iload (i := 4) X 2 (dkX12_judge (213, .iload 4, 2) (pgm 118 rfl)) rfl ?_
                refine so_goto (tgt := 230) X (dkX12_judge (215, .goto 15, 3) (pgm 119 rfl)) rfl ?_
                exact so_pick X [] rfl (hj230 y12 h20)
            · refine so_iload_n (i := 3) X 1 (dkX12_judge (204, .iload_n 3, 1) (pgm 113 rfl)) rfl rfl ?_
              refine so_goto (tgt := 230) X (dkX12_judge (205, .goto 25, 3) (pgm 114 rfl)) rfl ?_
              exact so_pick X [] rfl (hj230 y11 h20)
          refine so_pick (L' := [(0, .ref this), (2, .int a2), (3, .int y11), (4, .int y12), (5, .int y13), (6, .int x18), (7, .int x19)]) X [2, 3, 4, 5, 6, 1, 0] rfl ?_
          refine so_loop (body := b_X12_judge_170 this j200) (fun (s170 : Int32) => [(0, .ref this), (2, .int a2), (3, .int y11), (4, .int y12), (5, .int y13), (6, .int x18), (7, .int s170)]) (fun rec170 hrec170 s170 hh170 => ?_) FU x19 h17
          unfold b_X12_judge_170
          refine so_iload (i := 7) X 6 (dkX12_judge (170, .iload 7, 2) (pgm 96 rfl)) rfl ?_
          refine so_bipush (v := (17 : Int32)) X (dkX12_judge (172, .bipush 17, 2) (pgm 97 rfl)) bp_17 ?_
          refine so_icmp_ge (tgt := 200) X (dkX12_judge (174, .if_icmp .ge 26, 3) (pgm 98 rfl)) rfl (fun _ => ?_) (fun _ => ?_)
          · exact so_pick X [1, 2, 3, 4, 5] rfl (hj200 hh170)
          · refine so_aload_n (i := 0) X 0 (dkX12_judge (177, .aload_n 0, 1) (pgm 99 rfl)) rfl rfl ?_
            refine sf_getR X ff_12_0 lk_1702 hk (dkX12_judge (178, .getfield 9, 3) (pgm 100 rfl)) ?_
            refine so_bipush (v := (7 : Int32)) X (dkX12_judge (181, .bipush 7, 2) (pgm 101 rfl)) bp_7 ?_
            refine so_iload (i := 7) X 6 (dkX12_judge (183, .iload 7, 2) (pgm 102 rfl)) rfl ?_
            refine so_iadd X (dkX12_judge (185, .iadd, 1) (pgm 103 rfl)) ?_
            refine so_aload_n (i := 0) X 0 (dkX12_judge (186, .aload_n 0, 1) (pgm 104 rfl)) rfl rfl ?_
            refine sf_getR X ff_12_3 lk_1705 hk (dkX12_judge (187, .getfield 19, 3) (pgm 105 rfl)) ?_
            refine so_iload (i := 7) X 6 (dkX12_judge (190, .iload 7, 2) (pgm 106 rfl)) rfl ?_
            refine so_iald X (rk_12_3 this hk) (dkX12_judge (192, .iaload, 1) (pgm 107 rfl)) (fun x23 => ?_)
            refine so_iast X (rk_12_0 this hk) (dkX12_judge (193, .iastore, 1) (pgm 108 rfl)) (fun h24 => ?_)
            refine so_iinc (i := 7) X 6 (dkX12_judge (194, .iinc 7 1, 3) (pgm 109 rfl)) rfl rfl (by decide) (Lf := fun x25 => [(7, .int x25), (0, .ref this), (2, .int a2), (3, .int y11), (4, .int y12), (5, .int y13), (6, .int x18)]) (fun _ => rfl) (fun x25 => ?_)
            refine so_goto (tgt := 170) X (dkX12_judge (197, .goto (-27), 3) (pgm 110 rfl)) rfl ?_
            exact so_pick X [1, 2, 3, 4, 5, 6, 0] rfl (hrec170 x25 h24)
        refine so_pick (L' := [(0, .ref this), (1, .int a1), (2, .int a2), (3, .int x7), (4, .int x8), (5, .int x9), (6, .int x10)]) X [4, 5, 6, 3, 2, 1, 0] rfl ?_
        refine so_loop (body := b_X12_judge_82 this a1 j155) (fun (s82 : Int32 × Int32 × Int32 × Int32) => [(0, .ref this), (1, .int a1), (2, .int a2), (3, .int s82.1), (4, .int s82.2.1), (5, .int s82.2.2.1), (6, .int s82.2.2.2)]) (fun rec82 hrec82 s82 hh82 => ?_) FU (x7, x8, x9, x10) h6
        unfold b_X12_judge_82
        refine so_iload (i := 6) X 6 (dkX12_judge (82, .iload 6, 2) (pgm 47 rfl)) rfl ?_
        refine so_aload_n (i := 0) X 0 (dkX12_judge (84, .aload_n 0, 1) (pgm 48 rfl)) rfl rfl ?_
        refine sf_getR X ff_12_37 lk_1739 hk (dkX12_judge (85, .getfield 83, 3) (pgm 49 rfl)) ?_
        refine so_iload_n (i := 1) X 1 (dkX12_judge (88, .iload_n 1, 1) (pgm 50 rfl)) rfl rfl ?_
        refine so_iald X (rk_12_37 this hk) (dkX12_judge (89, .iaload, 1) (pgm 51 rfl)) (fun x26 => ?_)
        refine so_icmp_ge (tgt := 155) X (dkX12_judge (90, .if_icmp .ge 65, 3) (pgm 52 rfl)) rfl (fun _ => ?_) (fun _ => ?_)
        · exact so_pick X [0, 2, 3, 4, 5] rfl (hj155 s82.1 s82.2.1 s82.2.2.1 hh82)
        · refine so_iload_n (i := 3) X 3 (dkX12_judge (93, .iload_n 3, 1) (pgm 53 rfl)) rfl rfl ?_
          refine so_iconst (v := (-1 : Int32)) X (dkX12_judge (94, .iconst (-1), 1) (pgm 54 rfl)) ic_m1 ?_
          refine so_icmp_ne (tgt := 155) X (dkX12_judge (95, .if_icmp .ne 60, 3) (pgm 55 rfl)) rfl (fun _ => ?_) (fun _ => ?_)
          · exact so_pick X [0, 2, 3, 4, 5] rfl (hj155 s82.1 s82.2.1 s82.2.2.1 hh82)
          · refine so_aload_n (i := 0) X 0 (dkX12_judge (98, .aload_n 0, 1) (pgm 56 rfl)) rfl rfl ?_
            refine so_aload_n (i := 0) X 0 (dkX12_judge (99, .aload_n 0, 1) (pgm 57 rfl)) rfl rfl ?_
            refine sf_getR X ff_12_38 lk_1740 hk (dkX12_judge (100, .getfield 86, 3) (pgm 58 rfl)) ?_
            refine so_bipush (v := (30 : Int32)) X (dkX12_judge (103, .bipush 30, 2) (pgm 59 rfl)) bp_30 ?_
            refine so_iload_n (i := 1) X 1 (dkX12_judge (105, .iload_n 1, 1) (pgm 60 rfl)) rfl rfl ?_
            refine so_imul X (dkX12_judge (106, .imul, 1) (pgm 61 rfl)) ?_
            refine so_iload (i := 6) X 6 (dkX12_judge (107, .iload 6, 2) (pgm 62 rfl)) rfl ?_
            refine so_iadd X (dkX12_judge (109, .iadd, 1) (pgm 63 rfl)) ?_
            refine so_lald X (rk_12_38 this hk) (dkX12_judge (110, .laload, 1) (pgm 64 rfl)) (fun x27 => ?_)
            refine so_callV (n := 1) (As := [.long x27]) X (ct_X12_whyNot l this x27 hh82 hk) hk (by decide) rfl lk_1982 lk_1984 lk_86 lk_134 lk_1985 (by decide +kernel) rfl rfl rfl (rm_ok (by omega) (by decide)) ⟨Nat.zero_le _, Nat.zero_le _⟩ (Nat.le_of_ble_eq_true rfl) (dkX12_judge (111, .invokevirtual 310, 3) (pgm 65 rfl)) (fun r28 h29 => ?_) rfl
            refine so_istore (i := 4) X (dkX12_judge (114, .istore 4, 2) (pgm 66 rfl)) (by decide) (Lf := fun x30 => [(4, .int x30), (0, .ref this), (1, .int a1), (2, .int a2), (3, .int s82.1), (5, .int s82.2.2.1), (6, .int s82.2.2.2)]) (fun _ => rfl) (fun x30 => ?_)
            refine so_iload (i := 4) X 0 (dkX12_judge (116, .iload 4, 2) (pgm 67 rfl)) rfl ?_
            refine so_join (jf := fun (y31 : Int32) (y32 : Int32) (h33 : PH) => lt (s82.2.2.2 + Int32.ofInt 1) (fun (x34 : Int32) => rec82 (y31, x30, y32, x34) h33)) (fun (j : Int32 → Int32 → PH → Option (Int32 × PH)) => ∀ (y31 : Int32) (y32 : Int32) (h33 : PH), SWo (QM mkI below args s D cA ad A) p l e (rmd 4) s m args below meth c 0 0 8 D cA ad A 149 [(0, .ref this), (1, .int a1), (2, .int a2), (3, .int y31), (4, .int x30), (5, .int y32), (6, .int s82.2.2.2)] [] h33 (j y31 y32 h33)) ?_ (fun j149 hj149 => ?_)
            · intro y31 y32 h33
              refine so_iinc (i := 6) X 6 (dkX12_judge (149, .iinc 6 1, 3) (pgm 86 rfl)) rfl rfl (by decide) (Lf := fun x34 => [(6, .int x34), (0, .ref this), (1, .int a1), (2, .int a2), (3, .int y31), (4, .int x30), (5, .int y32)]) (fun _ => rfl) (fun x34 => ?_)
              refine so_goto (tgt := 82) X (dkX12_judge (152, .goto (-70), 3) (pgm 87 rfl)) rfl ?_
              exact so_pick X [1, 2, 3, 4, 5, 6, 0] rfl (hrec82 (y31, x30, y32, x34) h33)
            refine so_if_ne (tgt := 146) X (dkX12_judge (118, .ifCond .ne 28, 3) (pgm 68 rfl)) rfl (fun _ => ?_) (fun _ => ?_)
            · refine so_iload (i := 6) X 6 (dkX12_judge (146, .iload 6, 2) (pgm 84 rfl)) rfl ?_
              refine so_istore_n (i := 3) X (dkX12_judge (148, .istore_n 3, 1) (pgm 85 rfl)) rfl (by decide) (Lf := fun x35 => [(3, .int x35), (4, .int x30), (0, .ref this), (1, .int a1), (2, .int a2), (5, .int s82.2.2.1), (6, .int s82.2.2.2)]) (fun _ => rfl) (fun x35 => ?_)
              exact so_pick X [2, 3, 4, 0, 1, 5, 6] rfl (hj149 x35 s82.2.2.1 h29)
            · refine so_iload (i := 5) X 5 (dkX12_judge (121, .iload 5, 2) (pgm 69 rfl)) rfl ?_
              refine so_aload_n (i := 0) X 1 (dkX12_judge (123, .aload_n 0, 1) (pgm 70 rfl)) rfl rfl ?_
              refine so_aload_n (i := 0) X 1 (dkX12_judge (124, .aload_n 0, 1) (pgm 71 rfl)) rfl rfl ?_
              refine sf_getR X ff_12_38 lk_1740 hk (dkX12_judge (125, .getfield 86, 3) (pgm 72 rfl)) ?_
              refine so_bipush (v := (30 : Int32)) X (dkX12_judge (128, .bipush 30, 2) (pgm 73 rfl)) bp_30 ?_
              refine so_iload_n (i := 1) X 2 (dkX12_judge (130, .iload_n 1, 1) (pgm 74 rfl)) rfl rfl ?_
              refine so_imul X (dkX12_judge (131, .imul, 1) (pgm 75 rfl)) ?_
              refine so_iload (i := 6) X 6 (dkX12_judge (132, .iload 6, 2) (pgm 76 rfl)) rfl ?_
              refine so_iadd X (dkX12_judge (134, .iadd, 1) (pgm 77 rfl)) ?_
              refine so_lald X (rk_12_38 this hk) (dkX12_judge (135, .laload, 1) (pgm 78 rfl)) (fun x36 => ?_)
              refine so_l2i X (dkX12_judge (136, .l2i, 1) (pgm 79 rfl)) ?_
              refine so_callV (n := 1) (As := [.int x36.toInt32]) X (ct_X12_goesBy l this x36.toInt32 h29 hk) hk (by decide) rfl lk_2191 lk_2193 lk_114 lk_134 lk_2194 (by decide +kernel) rfl rfl rfl (rm_ok (by omega) (by decide)) ⟨Nat.zero_le _, Nat.zero_le _⟩ (Nat.le_of_ble_eq_true rfl) (dkX12_judge (137, .invokevirtual 426, 3) (pgm 80 rfl)) (fun r37 h38 => ?_) rfl
              refine so_iadd X (dkX12_judge (140, .iadd, 1) (pgm 81 rfl)) ?_
              refine so_istore (i := 5) X (dkX12_judge (141, .istore 5, 2) (pgm 82 rfl)) (by decide) (Lf := fun x39 => [(5, .int x39), (4, .int x30), (0, .ref this), (1, .int a1), (2, .int a2), (3, .int s82.1), (6, .int s82.2.2.2)]) (fun _ => rfl) (fun x39 => ?_)
              refine so_goto (tgt := 149) X (dkX12_judge (143, .goto 6, 3) (pgm 83 rfl)) rfl ?_
              exact so_pick X [2, 3, 4, 5, 1, 0, 6] rfl (hj149 s82.1 x39 h38)
      refine so_pick (L' := [(0, .ref this), (1, .int a1), (2, .int a2), (3, .int x5)]) X [1, 2, 3, 0] rfl ?_
      refine so_loop (body := b_X12_judge_44 this j71) (fun (s44 : Int32) => [(0, .ref this), (1, .int a1), (2, .int a2), (3, .int s44)]) (fun rec44 hrec44 s44 hh44 => ?_) FU x5 h4
      unfold b_X12_judge_44
      refine so_iload_n (i := 3) X 3 (dkX12_judge (44, .iload_n 3, 1) (pgm 24 rfl)) rfl rfl ?_
      refine so_bipush (v := (17 : Int32)) X (dkX12_judge (45, .bipush 17, 2) (pgm 25 rfl)) bp_17 ?_
      refine so_icmp_ge (tgt := 71) X (dkX12_judge (47, .if_icmp .ge 24, 3) (pgm 26 rfl)) rfl (fun _ => ?_) (fun _ => ?_)
      · exact so_pick X [0, 1, 2] rfl (hj71 hh44)
      · refine so_aload_n (i := 0) X 0 (dkX12_judge (50, .aload_n 0, 1) (pgm 27 rfl)) rfl rfl ?_
        refine sf_getR X ff_12_3 lk_1705 hk (dkX12_judge (51, .getfield 19, 3) (pgm 28 rfl)) ?_
        refine so_iload_n (i := 3) X 3 (dkX12_judge (54, .iload_n 3, 1) (pgm 29 rfl)) rfl rfl ?_
        refine so_aload_n (i := 0) X 0 (dkX12_judge (55, .aload_n 0, 1) (pgm 30 rfl)) rfl rfl ?_
        refine sf_getR X ff_12_0 lk_1702 hk (dkX12_judge (56, .getfield 9, 3) (pgm 31 rfl)) ?_
        refine so_bipush (v := (7 : Int32)) X (dkX12_judge (59, .bipush 7, 2) (pgm 32 rfl)) bp_7 ?_
        refine so_iload_n (i := 3) X 3 (dkX12_judge (61, .iload_n 3, 1) (pgm 33 rfl)) rfl rfl ?_
        refine so_iadd X (dkX12_judge (62, .iadd, 1) (pgm 34 rfl)) ?_
        refine so_iald X (rk_12_0 this hk) (dkX12_judge (63, .iaload, 1) (pgm 35 rfl)) (fun x40 => ?_)
        refine so_iast X (rk_12_3 this hk) (dkX12_judge (64, .iastore, 1) (pgm 36 rfl)) (fun h41 => ?_)
        refine so_iinc (i := 3) X 3 (dkX12_judge (65, .iinc 3 1, 3) (pgm 37 rfl)) rfl rfl (by decide) (Lf := fun x42 => [(3, .int x42), (0, .ref this), (1, .int a1), (2, .int a2)]) (fun _ => rfl) (fun x42 => ?_)
        refine so_goto (tgt := 44) X (dkX12_judge (68, .goto (-24), 3) (pgm 38 rfl)) rfl ?_
        exact so_pick X [1, 2, 3, 0] rfl (hrec44 x42 h41)
    · refine so_iconst (v := (0 : Int32)) X (dkX12_judge (40, .iconst 0, 1) (pgm 20 rfl)) ic_0 ?_
      exact so_iret X hr hlk (dkX12_judge (41, .ireturn, 1) (pgm 21 rfl))
  refine so_if_ne (tgt := 33) X (dkX12_judge (13, .ifCond .ne 20, 3) (pgm 7 rfl)) rfl (fun _ => ?_) (fun _ => ?_)
  · exact so_pick X [0, 1, 2] rfl (hj33 h3)
  · refine so_iload_n (i := 2) X 2 (dkX12_judge (16, .iload_n 2, 1) (pgm 8 rfl)) rfl rfl ?_
    refine so_i2l X (dkX12_judge (17, .i2l, 1) (pgm 9 rfl)) ?_
    refine so_lconst (v := (0 : Int64)) X (dkX12_judge (18, .lconst 0, 1) (pgm 10 rfl)) lc_0 ?_
    refine so_ldc2 X lk_2082 (dkX12_judge (19, .ldc2_w 349, 3) (pgm 11 rfl)) ?_
    refine so_callS (n := 3) (As := [.long a2.toInt64, .long (0 : Int64), .long (3 : Int64)]) X (ct_X12_within l a2.toInt64 (0 : Int64) (3 : Int64) h3 ) lk_1832 lk_1833 lk_134 lk_1834 (by decide +kernel) rfl rfl rfl (rm_ok (by omega) (by decide)) ⟨Nat.zero_le _, Nat.zero_le _⟩ (Nat.le_of_ble_eq_true rfl) (dkX12_judge (22, .invokestatic 156, 3) (pgm 12 rfl)) (fun r43 h44 => ?_) rfl
    refine so_if_ne (tgt := 33) X (dkX12_judge (25, .ifCond .ne 8, 3) (pgm 13 rfl)) rfl (fun _ => ?_) (fun _ => ?_)
    · exact so_pick X [0, 1, 2] rfl (hj33 h44)
    · refine so_aload_n (i := 0) X 0 (dkX12_judge (28, .aload_n 0, 1) (pgm 14 rfl)) rfl rfl ?_
      refine so_iconst (v := (3 : Int32)) X (dkX12_judge (29, .iconst 3, 1) (pgm 15 rfl)) ic_3 ?_
      refine sf_putI X ff_12_5 ft_12 rfl lk_1707 hk rfl rfl (dkX12_judge (30, .putfield 92, 3) (pgm 16 rfl)) (fun h45 => ?_)
      exact so_pick X [0, 1, 2] rfl (hj33 h45)
def pgX12_perform : List (Nat × Instr × Nat) := [(0, .aload_n 0, 1), (1, .aload_n 0, 1), (2, .iload_n 1, 1), (3, .invokevirtual 385, 3), (6, .putfield 92, 3), (9, .aload_n 0, 1), (10, .getfield 92, 3), (13, .ifCond .le 5, 3), (16, .iconst 0, 1), (17, .ireturn, 1), (18, .iconst 0, 1), (19, .istore_n 2, 1), (20, .iload_n 2, 1), (21, .aload_n 0, 1), (22, .getfield 83, 3), (25, .iload_n 1, 1), (26, .iaload, 1), (27, .if_icmp .ge 48, 3), (30, .aload_n 0, 1), (31, .aload_n 0, 1), (32, .getfield 86, 3), (35, .bipush 30, 2), (37, .iload_n 1, 1), (38, .imul, 1), (39, .iload_n 2, 1), (40, .iadd, 1), (41, .laload, 1), (42, .invokevirtual 310, 3), (45, .ifCond .ne 30, 3), (48, .aload_n 0, 1), (49, .invokevirtual 423, 3), (52, .aload_n 0, 1), (53, .aload_n 0, 1), (54, .getfield 86, 3), (57, .bipush 30, 2), (59, .iload_n 1, 1), (60, .imul, 1), (61, .iload_n 2, 1), (62, .iadd, 1), (63, .laload, 1), (64, .l2i, 1), (65, .invokevirtual 426, 3), (68, .pop, 1), (69, .iinc 2 1, 3), (72, .goto (-52), 3), (75, .iload_n 2, 1), (76, .ireturn, 1)]
theorem dkX12_perform : ∀ q ∈ pgX12_perform, decode cX12_perform q.1 = .ok q.2 := by decide +kernel
def b_X12_perform_20 (this : Nat) (a1 : Int32) (j75 : Int32 → PH → Option (Int32 × PH)) (rec20 : (Int32) → PH → Option (Int32 × PH)) (s20 : Int32) (hh20 : PH) : Option (Int32 × PH) :=
  ldI hh20 (rt this 37) 4 a1 (fun (x7 : Int32) => if x7 ≤ s20 then (j75 s20 hh20) else (ldL hh20 (rt this 38) 120 (((30 : Int32) * a1) + s20) (fun (x8 : Int64) => cb (f_X12_whyNot this x8 hh20) (fun (r9 : Int32) (h10 : PH) => if r9 = 0 then (cb (f_X12_keeps this h10) (fun (r11 : Unit) (h12 : PH) => ldL h12 (rt this 38) 120 (((30 : Int32) * a1) + s20) (fun (x13 : Int64) => cb (f_X12_goesBy this x13.toInt32 h12) (fun (r14 : Int32) (h15 : PH) => lt (s20 + Int32.ofInt 1) (fun (x16 : Int32) => rec20 x16 h15))))) else (j75 s20 h10)))))
def f_X12_perform (this : Nat) (a1 : Int32) (h0 : PH) : Option (Int32 × PH) :=
  cb (f_X12_trayFault this a1 h0) (fun (r1 : Int32) (h2 : PH) => lt (pI h2 this 5 r1) (fun (h3 : PH) => if (h3.1 this 5) ≤ 0 then (lt (0 : Int32) (fun (x4 : Int32) => lt (fun (y5 : Int32) (h6 : PH) => some (y5, h6)) (fun (j75 : Int32 → PH → Option (Int32 × PH)) => lp (b_X12_perform_20 this a1 j75) FU x4 h3))) else (some ((0 : Int32), h3))))
set_option maxRecDepth 100000 in
set_option maxHeartbeats 4000000 in
theorem ct_X12_perform (l : Launch) (this : Nat) (a1 : Int32) (h0 : PH) (hk : (kd this).1 = 12) : CT mkI l yX12_perform cX12_perform 3 (some .int) (rmd 4) [.ref this, .int a1] h0 (f_X12_perform this a1 h0) := by
  refine ct_of (by decide) (Nat.le_of_ble_eq_true rfl) ?_
  intro p e s m args below meth c D cA ad A X hr hlk
  have X : Cx p s m args c RX12 cX12_perform 3 D cA ad A := X
  unfold f_X12_perform
  refine so_pick (L' := [(0, .ref this), (1, .int a1)]) X [0, 1] rfl ?_
  refine so_aload_n (i := 0) X 0 (dkX12_perform (0, .aload_n 0, 1) (pgm 0 rfl)) rfl rfl ?_
  refine so_aload_n (i := 0) X 0 (dkX12_perform (1, .aload_n 0, 1) (pgm 1 rfl)) rfl rfl ?_
  refine so_iload_n (i := 1) X 1 (dkX12_perform (2, .iload_n 1, 1) (pgm 2 rfl)) rfl rfl ?_
  refine so_callV (n := 1) (As := [.int a1]) X (ct_X12_trayFault l this a1 h0 hk) hk (by decide) rfl lk_2130 lk_2132 lk_103 lk_134 lk_2133 (by decide +kernel) rfl rfl rfl (rm_ok (by omega) (by decide)) ⟨Nat.zero_le _, Nat.zero_le _⟩ (Nat.le_of_ble_eq_true rfl) (dkX12_perform (3, .invokevirtual 385, 3) (pgm 3 rfl)) (fun r1 h2 => ?_) rfl
  refine sf_putI X ff_12_5 ft_12 rfl lk_1707 hk rfl rfl (dkX12_perform (6, .putfield 92, 3) (pgm 4 rfl)) (fun h3 => ?_)
  refine so_aload_n (i := 0) X 0 (dkX12_perform (9, .aload_n 0, 1) (pgm 5 rfl)) rfl rfl ?_
  refine sf_getI X ff_12_5 lk_1707 hk (dkX12_perform (10, .getfield 92, 3) (pgm 6 rfl)) ?_
  refine so_if_le (tgt := 18) X (dkX12_perform (13, .ifCond .le 5, 3) (pgm 7 rfl)) rfl (fun _ => ?_) (fun _ => ?_)
  · refine so_iconst (v := (0 : Int32)) X (dkX12_perform (18, .iconst 0, 1) (pgm 10 rfl)) ic_0 ?_
    refine so_istore_n (i := 2) X (dkX12_perform (19, .istore_n 2, 1) (pgm 11 rfl)) rfl (by decide) (Lf := fun x4 => [(2, .int x4), (0, .ref this), (1, .int a1)]) (fun _ => rfl) (fun x4 => ?_)
    refine so_join (jf := fun (y5 : Int32) (h6 : PH) => some (y5, h6)) (fun (j : Int32 → PH → Option (Int32 × PH)) => ∀ (y5 : Int32) (h6 : PH), SWo (QM mkI below args s D cA ad A) p l e (rmd 4) s m args below meth c 0 0 3 D cA ad A 75 [(2, .int y5)] [] h6 (j y5 h6)) ?_ (fun j75 hj75 => ?_)
    · intro y5 h6
      refine so_iload_n (i := 2) X 0 (dkX12_perform (75, .iload_n 2, 1) (pgm 45 rfl)) rfl rfl ?_
      exact so_iret X hr hlk (dkX12_perform (76, .ireturn, 1) (pgm 46 rfl))
    refine so_pick (L' := [(0, .ref this), (1, .int a1), (2, .int x4)]) X [1, 2, 0] rfl ?_
    refine so_loop (body := b_X12_perform_20 this a1 j75) (fun (s20 : Int32) => [(0, .ref this), (1, .int a1), (2, .int s20)]) (fun rec20 hrec20 s20 hh20 => ?_) FU x4 h3
    unfold b_X12_perform_20
    refine so_iload_n (i := 2) X 2 (dkX12_perform (20, .iload_n 2, 1) (pgm 12 rfl)) rfl rfl ?_
    refine so_aload_n (i := 0) X 0 (dkX12_perform (21, .aload_n 0, 1) (pgm 13 rfl)) rfl rfl ?_
    refine sf_getR X ff_12_37 lk_1739 hk (dkX12_perform (22, .getfield 83, 3) (pgm 14 rfl)) ?_
    refine so_iload_n (i := 1) X 1 (dkX12_perform (25, .iload_n 1, 1) (pgm 15 rfl)) rfl rfl ?_
    refine so_iald X (rk_12_37 this hk) (dkX12_perform (26, .iaload, 1) (pgm 16 rfl)) (fun x7 => ?_)
    refine so_icmp_ge (tgt := 75) X (dkX12_perform (27, .if_icmp .ge 48, 3) (pgm 17 rfl)) rfl (fun _ => ?_) (fun _ => ?_)
    · exact so_pick X [2] rfl (hj75 s20 hh20)
    · refine so_aload_n (i := 0) X 0 (dkX12_perform (30, .aload_n 0, 1) (pgm 18 rfl)) rfl rfl ?_
      refine so_aload_n (i := 0) X 0 (dkX12_perform (31, .aload_n 0, 1) (pgm 19 rfl)) rfl rfl ?_
      refine sf_getR X ff_12_38 lk_1740 hk (dkX12_perform (32, .getfield 86, 3) (pgm 20 rfl)) ?_
      refine so_bipush (v := (30 : Int32)) X (dkX12_perform (35, .bipush 30, 2) (pgm 21 rfl)) bp_30 ?_
      refine so_iload_n (i := 1) X 1 (dkX12_perform (37, .iload_n 1, 1) (pgm 22 rfl)) rfl rfl ?_
      refine so_imul X (dkX12_perform (38, .imul, 1) (pgm 23 rfl)) ?_
      refine so_iload_n (i := 2) X 2 (dkX12_perform (39, .iload_n 2, 1) (pgm 24 rfl)) rfl rfl ?_
      refine so_iadd X (dkX12_perform (40, .iadd, 1) (pgm 25 rfl)) ?_
      refine so_lald X (rk_12_38 this hk) (dkX12_perform (41, .laload, 1) (pgm 26 rfl)) (fun x8 => ?_)
      refine so_callV (n := 1) (As := [.long x8]) X (ct_X12_whyNot l this x8 hh20 hk) hk (by decide) rfl lk_1982 lk_1984 lk_86 lk_134 lk_1985 (by decide +kernel) rfl rfl rfl (rm_ok (by omega) (by decide)) ⟨Nat.zero_le _, Nat.zero_le _⟩ (Nat.le_of_ble_eq_true rfl) (dkX12_perform (42, .invokevirtual 310, 3) (pgm 27 rfl)) (fun r9 h10 => ?_) rfl
      refine so_if_ne (tgt := 75) X (dkX12_perform (45, .ifCond .ne 30, 3) (pgm 28 rfl)) rfl (fun _ => ?_) (fun _ => ?_)
      · exact so_pick X [2] rfl (hj75 s20 h10)
      · refine so_aload_n (i := 0) X 0 (dkX12_perform (48, .aload_n 0, 1) (pgm 29 rfl)) rfl rfl ?_
        refine so_callV (n := 0) (As := []) X (ct_X12_keeps l this h10 hk) hk (by decide) rfl lk_2187 lk_2189 lk_113 lk_134 lk_2190 (by decide +kernel) rfl rfl rfl (rm_ok (by omega) (by decide)) ⟨Nat.zero_le _, Nat.zero_le _⟩ (Nat.le_of_ble_eq_true rfl) (dkX12_perform (49, .invokevirtual 423, 3) (pgm 30 rfl)) (fun r11 h12 => ?_) rfl
        refine so_aload_n (i := 0) X 0 (dkX12_perform (52, .aload_n 0, 1) (pgm 31 rfl)) rfl rfl ?_
        refine so_aload_n (i := 0) X 0 (dkX12_perform (53, .aload_n 0, 1) (pgm 32 rfl)) rfl rfl ?_
        refine sf_getR X ff_12_38 lk_1740 hk (dkX12_perform (54, .getfield 86, 3) (pgm 33 rfl)) ?_
        refine so_bipush (v := (30 : Int32)) X (dkX12_perform (57, .bipush 30, 2) (pgm 34 rfl)) bp_30 ?_
        refine so_iload_n (i := 1) X 1 (dkX12_perform (59, .iload_n 1, 1) (pgm 35 rfl)) rfl rfl ?_
        refine so_imul X (dkX12_perform (60, .imul, 1) (pgm 36 rfl)) ?_
        refine so_iload_n (i := 2) X 2 (dkX12_perform (61, .iload_n 2, 1) (pgm 37 rfl)) rfl rfl ?_
        refine so_iadd X (dkX12_perform (62, .iadd, 1) (pgm 38 rfl)) ?_
        refine so_lald X (rk_12_38 this hk) (dkX12_perform (63, .laload, 1) (pgm 39 rfl)) (fun x13 => ?_)
        refine so_l2i X (dkX12_perform (64, .l2i, 1) (pgm 40 rfl)) ?_
        refine so_callV (n := 1) (As := [.int x13.toInt32]) X (ct_X12_goesBy l this x13.toInt32 h12 hk) hk (by decide) rfl lk_2191 lk_2193 lk_114 lk_134 lk_2194 (by decide +kernel) rfl rfl rfl (rm_ok (by omega) (by decide)) ⟨Nat.zero_le _, Nat.zero_le _⟩ (Nat.le_of_ble_eq_true rfl) (dkX12_perform (65, .invokevirtual 426, 3) (pgm 41 rfl)) (fun r14 h15 => ?_) rfl
        refine so_pop X (dkX12_perform (68, .pop, 1) (pgm 42 rfl)) rfl ?_
        refine so_iinc (i := 2) X 2 (dkX12_perform (69, .iinc 2 1, 3) (pgm 43 rfl)) rfl rfl (by decide) (Lf := fun x16 => [(2, .int x16), (0, .ref this), (1, .int a1)]) (fun _ => rfl) (fun x16 => ?_)
        refine so_goto (tgt := 20) X (dkX12_perform (72, .goto (-52), 3) (pgm 44 rfl)) rfl ?_
        exact so_pick X [1, 2, 0] rfl (hrec20 x16 h15)
  · refine so_iconst (v := (0 : Int32)) X (dkX12_perform (16, .iconst 0, 1) (pgm 8 rfl)) ic_0 ?_
    exact so_iret X hr hlk (dkX12_perform (17, .ireturn, 1) (pgm 9 rfl))
def pgX12_holdFault : List (Nat × Instr × Nat) := [(0, .aload_n 0, 1), (1, .iload_n 1, 1), (2, .invokevirtual 385, 3), (5, .istore 4, 2), (7, .iload 4, 2), (9, .ifCond .eq 6, 3), (12, .iload 4, 2), (14, .ireturn, 1), (15, .iload_n 2, 1), (16, .i2l, 1), (17, .lconst 1, 1), (18, .ldc2_w 440, 3), (21, .invokestatic 156, 3), (24, .ifCond .eq 32, 3), (27, .iload_n 3, 1), (28, .i2l, 1), (29, .lconst 0, 1), (30, .ldc2_w 440, 3), (33, .invokestatic 156, 3), (36, .ifCond .eq 20, 3), (39, .aload_n 0, 1), (40, .getfield 83, 3), (43, .iload_n 1, 1), (44, .iaload, 1), (45, .i2l, 1), (46, .lconst 1, 1), (47, .ldc2_w 440, 3), (50, .invokestatic 156, 3), (53, .ifCond .ne 5, 3), (56, .iconst 3, 1), (57, .ireturn, 1), (58, .iconst 0, 1), (59, .istore 5, 2), (61, .iload 5, 2), (63, .aload_n 0, 1), (64, .getfield 83, 3), (67, .iload_n 1, 1), (68, .iaload, 1), (69, .if_icmp .ge 33, 3), (72, .aload_n 0, 1), (73, .getfield 86, 3), (76, .bipush 30, 2), (78, .iload_n 1, 1), (79, .imul, 1), (80, .iload 5, 2), (82, .iadd, 1), (83, .laload, 1), (84, .lconst 0, 1), (85, .ldc2_w 429, 3), (88, .invokestatic 156, 3), (91, .ifCond .ne 5, 3), (94, .iconst 3, 1), (95, .ireturn, 1), (96, .iinc 5 1, 3), (99, .goto (-38), 3), (102, .iconst 0, 1), (103, .ireturn, 1)]
theorem dkX12_holdFault : ∀ q ∈ pgX12_holdFault, decode cX12_holdFault q.1 = .ok q.2 := by decide +kernel
def b_X12_holdFault_61 (this : Nat) (a1 : Int32) (rec61 : (Int32) → PH → Option (Int32 × PH)) (s61 : Int32) (hh61 : PH) : Option (Int32 × PH) :=
  ldI hh61 (rt this 37) 4 a1 (fun (x13 : Int32) => if x13 ≤ s61 then (some ((0 : Int32), hh61)) else (ldL hh61 (rt this 38) 120 (((30 : Int32) * a1) + s61) (fun (x14 : Int64) => cb (f_X12_within x14 (0 : Int64) (99 : Int64) hh61) (fun (r15 : Int32) (h16 : PH) => if r15 = 0 then (some ((3 : Int32), h16)) else (lt (s61 + Int32.ofInt 1) (fun (x17 : Int32) => rec61 x17 h16))))))
def f_X12_holdFault (this : Nat) (a1 : Int32) (a2 : Int32) (a3 : Int32) (h0 : PH) : Option (Int32 × PH) :=
  cb (f_X12_trayFault this a1 h0) (fun (r1 : Int32) (h2 : PH) => lt r1 (fun (x3 : Int32) => if x3 = 0 then (cb (f_X12_within a2.toInt64 (1 : Int64) (6 : Int64) h2) (fun (r4 : Int32) (h5 : PH) => lt (fun (h6 : PH) => some ((3 : Int32), h6)) (fun (j56 : PH → Option (Int32 × PH)) => if r4 = 0 then (j56 h5) else (cb (f_X12_within a3.toInt64 (0 : Int64) (6 : Int64) h5) (fun (r7 : Int32) (h8 : PH) => if r7 = 0 then (j56 h8) else (ldI h8 (rt this 37) 4 a1 (fun (x9 : Int32) => cb (f_X12_within x9.toInt64 (1 : Int64) (6 : Int64) h8) (fun (r10 : Int32) (h11 : PH) => if r10 = 0 then (j56 h11) else (lt (0 : Int32) (fun (x12 : Int32) => lp (b_X12_holdFault_61 this a1) FU x12 h11)))))))))) else (some (x3, h2))))
set_option maxRecDepth 100000 in
set_option maxHeartbeats 4000000 in
theorem ct_X12_holdFault (l : Launch) (this : Nat) (a1 : Int32) (a2 : Int32) (a3 : Int32) (h0 : PH) (hk : (kd this).1 = 12) : CT mkI l yX12_holdFault cX12_holdFault 6 (some .int) (rmd 3) [.ref this, .int a1, .int a2, .int a3] h0 (f_X12_holdFault this a1 a2 a3 h0) := by
  refine ct_of (by decide) (Nat.le_of_ble_eq_true rfl) ?_
  intro p e s m args below meth c D cA ad A X hr hlk
  have X : Cx p s m args c RX12 cX12_holdFault 6 D cA ad A := X
  unfold f_X12_holdFault
  refine so_pick (L' := [(0, .ref this), (1, .int a1), (2, .int a2), (3, .int a3)]) X [0, 1, 2, 3] rfl ?_
  refine so_aload_n (i := 0) X 0 (dkX12_holdFault (0, .aload_n 0, 1) (pgm 0 rfl)) rfl rfl ?_
  refine so_iload_n (i := 1) X 1 (dkX12_holdFault (1, .iload_n 1, 1) (pgm 1 rfl)) rfl rfl ?_
  refine so_callV (n := 1) (As := [.int a1]) X (ct_X12_trayFault l this a1 h0 hk) hk (by decide) rfl lk_2130 lk_2132 lk_103 lk_134 lk_2133 (by decide +kernel) rfl rfl rfl (rm_ok (by omega) (by decide)) ⟨Nat.zero_le _, Nat.zero_le _⟩ (Nat.le_of_ble_eq_true rfl) (dkX12_holdFault (2, .invokevirtual 385, 3) (pgm 2 rfl)) (fun r1 h2 => ?_) rfl
  refine so_istore (i := 4) X (dkX12_holdFault (5, .istore 4, 2) (pgm 3 rfl)) (by decide) (Lf := fun x3 => [(4, .int x3), (0, .ref this), (1, .int a1), (2, .int a2), (3, .int a3)]) (fun _ => rfl) (fun x3 => ?_)
  refine so_iload (i := 4) X 0 (dkX12_holdFault (7, .iload 4, 2) (pgm 4 rfl)) rfl ?_
  refine so_if_eq (tgt := 15) X (dkX12_holdFault (9, .ifCond .eq 6, 3) (pgm 5 rfl)) rfl (fun _ => ?_) (fun _ => ?_)
  · refine so_iload_n (i := 2) X 3 (dkX12_holdFault (15, .iload_n 2, 1) (pgm 8 rfl)) rfl rfl ?_
    refine so_i2l X (dkX12_holdFault (16, .i2l, 1) (pgm 9 rfl)) ?_
    refine so_lconst (v := (1 : Int64)) X (dkX12_holdFault (17, .lconst 1, 1) (pgm 10 rfl)) lc_1 ?_
    refine so_ldc2 X lk_2242 (dkX12_holdFault (18, .ldc2_w 440, 3) (pgm 11 rfl)) ?_
    refine so_callS (n := 3) (As := [.long a2.toInt64, .long (1 : Int64), .long (6 : Int64)]) X (ct_X12_within l a2.toInt64 (1 : Int64) (6 : Int64) h2 ) lk_1832 lk_1833 lk_134 lk_1834 (by decide +kernel) rfl rfl rfl (rm_ok (by omega) (by decide)) ⟨Nat.zero_le _, Nat.zero_le _⟩ (Nat.le_of_ble_eq_true rfl) (dkX12_holdFault (21, .invokestatic 156, 3) (pgm 12 rfl)) (fun r4 h5 => ?_) rfl
    refine so_join (jf := fun (h6 : PH) => some ((3 : Int32), h6)) (fun (j : PH → Option (Int32 × PH)) => ∀  (h6 : PH), SWo (QM mkI below args s D cA ad A) p l e (rmd 3) s m args below meth c 0 0 6 D cA ad A 56 [] [] h6 (j h6)) ?_ (fun j56 hj56 => ?_)
    · intro h6
      refine so_iconst (v := (3 : Int32)) X (dkX12_holdFault (56, .iconst 3, 1) (pgm 29 rfl)) ic_3 ?_
      exact so_iret X hr hlk (dkX12_holdFault (57, .ireturn, 1) (pgm 30 rfl))
    refine so_if_eq (tgt := 56) X (dkX12_holdFault (24, .ifCond .eq 32, 3) (pgm 13 rfl)) rfl (fun _ => ?_) (fun _ => ?_)
    · exact so_pick X [] rfl (hj56 h5)
    · refine so_iload_n (i := 3) X 4 (dkX12_holdFault (27, .iload_n 3, 1) (pgm 14 rfl)) rfl rfl ?_
      refine so_i2l X (dkX12_holdFault (28, .i2l, 1) (pgm 15 rfl)) ?_
      refine so_lconst (v := (0 : Int64)) X (dkX12_holdFault (29, .lconst 0, 1) (pgm 16 rfl)) lc_0 ?_
      refine so_ldc2 X lk_2242 (dkX12_holdFault (30, .ldc2_w 440, 3) (pgm 17 rfl)) ?_
      refine so_callS (n := 3) (As := [.long a3.toInt64, .long (0 : Int64), .long (6 : Int64)]) X (ct_X12_within l a3.toInt64 (0 : Int64) (6 : Int64) h5 ) lk_1832 lk_1833 lk_134 lk_1834 (by decide +kernel) rfl rfl rfl (rm_ok (by omega) (by decide)) ⟨Nat.zero_le _, Nat.zero_le _⟩ (Nat.le_of_ble_eq_true rfl) (dkX12_holdFault (33, .invokestatic 156, 3) (pgm 18 rfl)) (fun r7 h8 => ?_) rfl
      refine so_if_eq (tgt := 56) X (dkX12_holdFault (36, .ifCond .eq 20, 3) (pgm 19 rfl)) rfl (fun _ => ?_) (fun _ => ?_)
      · exact so_pick X [] rfl (hj56 h8)
      · refine so_aload_n (i := 0) X 1 (dkX12_holdFault (39, .aload_n 0, 1) (pgm 20 rfl)) rfl rfl ?_
        refine sf_getR X ff_12_37 lk_1739 hk (dkX12_holdFault (40, .getfield 83, 3) (pgm 21 rfl)) ?_
        refine so_iload_n (i := 1) X 2 (dkX12_holdFault (43, .iload_n 1, 1) (pgm 22 rfl)) rfl rfl ?_
        refine so_iald X (rk_12_37 this hk) (dkX12_holdFault (44, .iaload, 1) (pgm 23 rfl)) (fun x9 => ?_)
        refine so_i2l X (dkX12_holdFault (45, .i2l, 1) (pgm 24 rfl)) ?_
        refine so_lconst (v := (1 : Int64)) X (dkX12_holdFault (46, .lconst 1, 1) (pgm 25 rfl)) lc_1 ?_
        refine so_ldc2 X lk_2242 (dkX12_holdFault (47, .ldc2_w 440, 3) (pgm 26 rfl)) ?_
        refine so_callS (n := 3) (As := [.long x9.toInt64, .long (1 : Int64), .long (6 : Int64)]) X (ct_X12_within l x9.toInt64 (1 : Int64) (6 : Int64) h8 ) lk_1832 lk_1833 lk_134 lk_1834 (by decide +kernel) rfl rfl rfl (rm_ok (by omega) (by decide)) ⟨Nat.zero_le _, Nat.zero_le _⟩ (Nat.le_of_ble_eq_true rfl) (dkX12_holdFault (50, .invokestatic 156, 3) (pgm 27 rfl)) (fun r10 h11 => ?_) rfl
        refine so_if_ne (tgt := 58) X (dkX12_holdFault (53, .ifCond .ne 5, 3) (pgm 28 rfl)) rfl (fun _ => ?_) (fun _ => ?_)
        · refine so_iconst (v := (0 : Int32)) X (dkX12_holdFault (58, .iconst 0, 1) (pgm 31 rfl)) ic_0 ?_
          refine so_istore (i := 5) X (dkX12_holdFault (59, .istore 5, 2) (pgm 32 rfl)) (by decide) (Lf := fun x12 => [(5, .int x12), (4, .int x3), (0, .ref this), (1, .int a1), (2, .int a2), (3, .int a3)]) (fun _ => rfl) (fun x12 => ?_)
          refine so_pick (L' := [(0, .ref this), (1, .int a1), (5, .int x12)]) X [2, 3, 0] rfl ?_
          refine so_loop (body := b_X12_holdFault_61 this a1) (fun (s61 : Int32) => [(0, .ref this), (1, .int a1), (5, .int s61)]) (fun rec61 hrec61 s61 hh61 => ?_) FU x12 h11
          unfold b_X12_holdFault_61
          refine so_iload (i := 5) X 2 (dkX12_holdFault (61, .iload 5, 2) (pgm 33 rfl)) rfl ?_
          refine so_aload_n (i := 0) X 0 (dkX12_holdFault (63, .aload_n 0, 1) (pgm 34 rfl)) rfl rfl ?_
          refine sf_getR X ff_12_37 lk_1739 hk (dkX12_holdFault (64, .getfield 83, 3) (pgm 35 rfl)) ?_
          refine so_iload_n (i := 1) X 1 (dkX12_holdFault (67, .iload_n 1, 1) (pgm 36 rfl)) rfl rfl ?_
          refine so_iald X (rk_12_37 this hk) (dkX12_holdFault (68, .iaload, 1) (pgm 37 rfl)) (fun x13 => ?_)
          refine so_icmp_ge (tgt := 102) X (dkX12_holdFault (69, .if_icmp .ge 33, 3) (pgm 38 rfl)) rfl (fun _ => ?_) (fun _ => ?_)
          · refine so_iconst (v := (0 : Int32)) X (dkX12_holdFault (102, .iconst 0, 1) (pgm 55 rfl)) ic_0 ?_
            exact so_iret X hr hlk (dkX12_holdFault (103, .ireturn, 1) (pgm 56 rfl))
          · refine so_aload_n (i := 0) X 0 (dkX12_holdFault (72, .aload_n 0, 1) (pgm 39 rfl)) rfl rfl ?_
            refine sf_getR X ff_12_38 lk_1740 hk (dkX12_holdFault (73, .getfield 86, 3) (pgm 40 rfl)) ?_
            refine so_bipush (v := (30 : Int32)) X (dkX12_holdFault (76, .bipush 30, 2) (pgm 41 rfl)) bp_30 ?_
            refine so_iload_n (i := 1) X 1 (dkX12_holdFault (78, .iload_n 1, 1) (pgm 42 rfl)) rfl rfl ?_
            refine so_imul X (dkX12_holdFault (79, .imul, 1) (pgm 43 rfl)) ?_
            refine so_iload (i := 5) X 2 (dkX12_holdFault (80, .iload 5, 2) (pgm 44 rfl)) rfl ?_
            refine so_iadd X (dkX12_holdFault (82, .iadd, 1) (pgm 45 rfl)) ?_
            refine so_lald X (rk_12_38 this hk) (dkX12_holdFault (83, .laload, 1) (pgm 46 rfl)) (fun x14 => ?_)
            refine so_lconst (v := (0 : Int64)) X (dkX12_holdFault (84, .lconst 0, 1) (pgm 47 rfl)) lc_0 ?_
            refine so_ldc2 X lk_2199 (dkX12_holdFault (85, .ldc2_w 429, 3) (pgm 48 rfl)) ?_
            refine so_callS (n := 3) (As := [.long x14, .long (0 : Int64), .long (99 : Int64)]) X (ct_X12_within l x14 (0 : Int64) (99 : Int64) hh61 ) lk_1832 lk_1833 lk_134 lk_1834 (by decide +kernel) rfl rfl rfl (rm_ok (by omega) (by decide)) ⟨Nat.zero_le _, Nat.zero_le _⟩ (Nat.le_of_ble_eq_true rfl) (dkX12_holdFault (88, .invokestatic 156, 3) (pgm 49 rfl)) (fun r15 h16 => ?_) rfl
            refine so_if_ne (tgt := 96) X (dkX12_holdFault (91, .ifCond .ne 5, 3) (pgm 50 rfl)) rfl (fun _ => ?_) (fun _ => ?_)
            · refine so_iinc (i := 5) X 2 (dkX12_holdFault (96, .iinc 5 1, 3) (pgm 53 rfl)) rfl rfl (by decide) (Lf := fun x17 => [(5, .int x17), (0, .ref this), (1, .int a1)]) (fun _ => rfl) (fun x17 => ?_)
              refine so_goto (tgt := 61) X (dkX12_holdFault (99, .goto (-38), 3) (pgm 54 rfl)) rfl ?_
              exact so_pick X [1, 2, 0] rfl (hrec61 x17 h16)
            · refine so_iconst (v := (3 : Int32)) X (dkX12_holdFault (94, .iconst 3, 1) (pgm 51 rfl)) ic_3 ?_
              exact so_iret X hr hlk (dkX12_holdFault (95, .ireturn, 1) (pgm 52 rfl))
        · exact so_pick X [] rfl (hj56 h11)
  · refine so_iload (i := 4) X 0 (dkX12_holdFault (12, .iload 4, 2) (pgm 6 rfl)) rfl ?_
    exact so_iret X hr hlk (dkX12_holdFault (14, .ireturn, 1) (pgm 7 rfl))
def pgX12_holding : List (Nat × Instr × Nat) := [(0, .aload_n 0, 1), (1, .aload_n 0, 1), (2, .iload_n 1, 1), (3, .iload_n 2, 1), (4, .iload_n 3, 1), (5, .invokevirtual 446, 3), (8, .putfield 92, 3), (11, .aload_n 0, 1), (12, .getfield 92, 3), (15, .ifCond .le 5, 3), (18, .lconst 0, 1), (19, .lreturn, 1), (20, .aload_n 0, 1), (21, .iload_n 1, 1), (22, .invokevirtual 449, 3), (25, .aload_n 0, 1), (26, .getfield 77, 3), (29, .bipush 7, 2), (31, .iload_n 2, 1), (32, .imul, 1), (33, .iload_n 3, 1), (34, .iadd, 1), (35, .laload, 1), (36, .lreturn, 1)]
theorem dkX12_holding : ∀ q ∈ pgX12_holding, decode cX12_holding q.1 = .ok q.2 := by decide +kernel
def f_X12_holding (this : Nat) (a1 : Int32) (a2 : Int32) (a3 : Int32) (h0 : PH) : Option (Int64 × PH) :=
  cb (f_X12_holdFault this a1 a2 a3 h0) (fun (r1 : Int32) (h2 : PH) => lt (pI h2 this 5 r1) (fun (h3 : PH) => if (h3.1 this 5) ≤ 0 then (cb (f_X12_laysWorth this a1 h3) (fun (r4 : Unit) (h5 : PH) => ldL h5 (rt this 35) 49 (((7 : Int32) * a2) + a3) (fun (x6 : Int64) => some (x6, h5)))) else (some ((0 : Int64), h3))))
set_option maxRecDepth 100000 in
set_option maxHeartbeats 4000000 in
theorem ct_X12_holding (l : Launch) (this : Nat) (a1 : Int32) (a2 : Int32) (a3 : Int32) (h0 : PH) (hk : (kd this).1 = 12) : CT mkL l yX12_holding cX12_holding 4 (some .long) (rmd 4) [.ref this, .int a1, .int a2, .int a3] h0 (f_X12_holding this a1 a2 a3 h0) := by
  refine ct_of (by decide) (Nat.le_of_ble_eq_true rfl) ?_
  intro p e s m args below meth c D cA ad A X hr hlk
  have X : Cx p s m args c RX12 cX12_holding 4 D cA ad A := X
  unfold f_X12_holding
  refine so_pick (L' := [(0, .ref this), (1, .int a1), (2, .int a2), (3, .int a3)]) X [0, 1, 2, 3] rfl ?_
  refine so_aload_n (i := 0) X 0 (dkX12_holding (0, .aload_n 0, 1) (pgm 0 rfl)) rfl rfl ?_
  refine so_aload_n (i := 0) X 0 (dkX12_holding (1, .aload_n 0, 1) (pgm 1 rfl)) rfl rfl ?_
  refine so_iload_n (i := 1) X 1 (dkX12_holding (2, .iload_n 1, 1) (pgm 2 rfl)) rfl rfl ?_
  refine so_iload_n (i := 2) X 2 (dkX12_holding (3, .iload_n 2, 1) (pgm 3 rfl)) rfl rfl ?_
  refine so_iload_n (i := 3) X 3 (dkX12_holding (4, .iload_n 3, 1) (pgm 4 rfl)) rfl rfl ?_
  refine so_callV (n := 3) (As := [.int a1, .int a2, .int a3]) X (ct_X12_holdFault l this a1 a2 a3 h0 hk) hk (by decide) rfl lk_2238 lk_2240 lk_116 lk_134 lk_2241 (by decide +kernel) rfl rfl rfl (rm_ok (by omega) (by decide)) ⟨Nat.zero_le _, Nat.zero_le _⟩ (Nat.le_of_ble_eq_true rfl) (dkX12_holding (5, .invokevirtual 446, 3) (pgm 5 rfl)) (fun r1 h2 => ?_) rfl
  refine sf_putI X ff_12_5 ft_12 rfl lk_1707 hk rfl rfl (dkX12_holding (8, .putfield 92, 3) (pgm 6 rfl)) (fun h3 => ?_)
  refine so_aload_n (i := 0) X 0 (dkX12_holding (11, .aload_n 0, 1) (pgm 7 rfl)) rfl rfl ?_
  refine sf_getI X ff_12_5 lk_1707 hk (dkX12_holding (12, .getfield 92, 3) (pgm 8 rfl)) ?_
  refine so_if_le (tgt := 20) X (dkX12_holding (15, .ifCond .le 5, 3) (pgm 9 rfl)) rfl (fun _ => ?_) (fun _ => ?_)
  · refine so_aload_n (i := 0) X 0 (dkX12_holding (20, .aload_n 0, 1) (pgm 12 rfl)) rfl rfl ?_
    refine so_iload_n (i := 1) X 1 (dkX12_holding (21, .iload_n 1, 1) (pgm 13 rfl)) rfl rfl ?_
    refine so_callV (n := 1) (As := [.int a1]) X (ct_X12_laysWorth l this a1 h3 hk) hk (by decide) rfl lk_2243 lk_2245 lk_117 lk_134 lk_2246 (by decide +kernel) rfl rfl rfl (rm_ok (by omega) (by decide)) ⟨Nat.zero_le _, Nat.zero_le _⟩ (Nat.le_of_ble_eq_true rfl) (dkX12_holding (22, .invokevirtual 449, 3) (pgm 14 rfl)) (fun r4 h5 => ?_) rfl
    refine so_aload_n (i := 0) X 0 (dkX12_holding (25, .aload_n 0, 1) (pgm 15 rfl)) rfl rfl ?_
    refine sf_getR X ff_12_35 lk_1737 hk (dkX12_holding (26, .getfield 77, 3) (pgm 16 rfl)) ?_
    refine so_bipush (v := (7 : Int32)) X (dkX12_holding (29, .bipush 7, 2) (pgm 17 rfl)) bp_7 ?_
    refine so_iload_n (i := 2) X 2 (dkX12_holding (31, .iload_n 2, 1) (pgm 18 rfl)) rfl rfl ?_
    refine so_imul X (dkX12_holding (32, .imul, 1) (pgm 19 rfl)) ?_
    refine so_iload_n (i := 3) X 3 (dkX12_holding (33, .iload_n 3, 1) (pgm 20 rfl)) rfl rfl ?_
    refine so_iadd X (dkX12_holding (34, .iadd, 1) (pgm 21 rfl)) ?_
    refine so_lald X (rk_12_35 this hk) (dkX12_holding (35, .laload, 1) (pgm 22 rfl)) (fun x6 => ?_)
    exact so_lret X hr hlk (dkX12_holding (36, .lreturn, 1) (pgm 23 rfl))
  · refine so_lconst (v := (0 : Int64)) X (dkX12_holding (18, .lconst 0, 1) (pgm 10 rfl)) lc_0 ?_
    exact so_lret X hr hlk (dkX12_holding (19, .lreturn, 1) (pgm 11 rfl))
def pgX12_grants : List (Nat × Instr × Nat) := [(0, .aload_n 0, 1), (1, .aload_n 0, 1), (2, .iload_n 1, 1), (3, .iload_n 2, 1), (4, .iload_n 3, 1), (5, .invokevirtual 446, 3), (8, .putfield 92, 3), (11, .aload_n 0, 1), (12, .getfield 92, 3), (15, .ifCond .le 5, 3), (18, .iconst 0, 1), (19, .ireturn, 1), (20, .aload_n 0, 1), (21, .iload_n 1, 1), (22, .invokevirtual 449, 3), (25, .ldc2_w 452, 3), (28, .lstore 4, 2), (30, .iconst 0, 1), (31, .istore 6, 2), (33, .iload 6, 2), (35, .aload_n 0, 1), (36, .getfield 83, 3), (39, .iload_n 1, 1), (40, .iaload, 1), (41, .if_icmp .ge 79, 3), (44, .iload_n 3, 1), (45, .ifCond .le 75, 3), (48, .aload_n 0, 1), (49, .getfield 86, 3), (52, .bipush 30, 2), (54, .iload_n 1, 1), (55, .imul, 1), (56, .iload 6, 2), (58, .iadd, 1), (59, .laload, 1), (60, .lstore 7, 2), (62, .aload_n 0, 1), (63, .iload_n 1, 1), (64, .lload 7, 2), (66, .iload_n 2, 1), (67, .iconst 1, 1), (68, .isub, 1), (69, .iload_n 3, 1), (70, .invokevirtual 442, 3), (73, .aload_n 0, 1), (74, .getfield 77, 3), (77, .bipush 7, 2), (79, .iload_n 2, 1), (80, .iconst 1, 1), (81, .isub, 1), (82, .imul, 1), (83, .iload_n 3, 1), (84, .iadd, 1), (85, .laload, 1), (86, .lcmp, 1), (87, .ifCond .ge 6, 3), (90, .goto 24, 3), (93, .lload 4, 2), (95, .ldc2_w 452, 3), (98, .lcmp, 1), (99, .ifCond .eq 11, 3), (102, .lload 7, 2), (104, .lload 4, 2), (106, .lcmp, 1), (107, .ifCond .ge 7, 3), (110, .lload 7, 2), (112, .lstore 4, 2), (114, .iinc 6 1, 3), (117, .goto (-84), 3), (120, .lload 4, 2), (122, .l2i, 1), (123, .ireturn, 1)]
theorem dkX12_grants : ∀ q ∈ pgX12_grants, decode cX12_grants q.1 = .ok q.2 := by decide +kernel
def b_X12_grants_33 (this : Nat) (a1 : Int32) (a2 : Int32) (a3 : Int32) (j120 : Int64 → PH → Option (Int32 × PH)) (rec33 : (Int64 × Int32) → PH → Option (Int32 × PH)) (s33 : Int64 × Int32) (hh33 : PH) : Option (Int32 × PH) :=
  ldI hh33 (rt this 37) 4 a1 (fun (x10 : Int32) => if x10 ≤ s33.2 then (j120 s33.1 hh33) else (if a3 ≤ 0 then (j120 s33.1 hh33) else (ldL hh33 (rt this 38) 120 (((30 : Int32) * a1) + s33.2) (fun (x11 : Int64) => lt x11 (fun (x12 : Int64) => cb (f_X12_grantsNow this a1 x12 (a2 - (1 : Int32)) a3 hh33) (fun (r13 : Int64) (h14 : PH) => ldL h14 (rt this 35) 49 (((7 : Int32) * (a2 - (1 : Int32))) + a3) (fun (x15 : Int64) => lt (fun (y16 : Int64) (h17 : PH) => lt (s33.2 + Int32.ofInt 1) (fun (x18 : Int32) => rec33 (y16, x18) h17)) (fun (j114 : Int64 → PH → Option (Int32 × PH)) => if 0 ≤ (lg_cmp r13 x15) then (lt (fun (h19 : PH) => lt x12 (fun (x20 : Int64) => j114 x20 h19)) (fun (j110 : PH → Option (Int32 × PH)) => if (lg_cmp s33.1 (-1 : Int64)) = 0 then (j110 h14) else (if 0 ≤ (lg_cmp x12 s33.1) then (j114 s33.1 h14) else (j110 h14)))) else (j114 s33.1 h14)))))))))
def f_X12_grants (this : Nat) (a1 : Int32) (a2 : Int32) (a3 : Int32) (h0 : PH) : Option (Int32 × PH) :=
  cb (f_X12_holdFault this a1 a2 a3 h0) (fun (r1 : Int32) (h2 : PH) => lt (pI h2 this 5 r1) (fun (h3 : PH) => if (h3.1 this 5) ≤ 0 then (cb (f_X12_laysWorth this a1 h3) (fun (r4 : Unit) (h5 : PH) => lt (-1 : Int64) (fun (x6 : Int64) => lt (0 : Int32) (fun (x7 : Int32) => lt (fun (y8 : Int64) (h9 : PH) => some (y8.toInt32, h9)) (fun (j120 : Int64 → PH → Option (Int32 × PH)) => lp (b_X12_grants_33 this a1 a2 a3 j120) FU (x6, x7) h5))))) else (some ((0 : Int32), h3))))
set_option maxRecDepth 100000 in
set_option maxHeartbeats 4000000 in
theorem ct_X12_grants (l : Launch) (this : Nat) (a1 : Int32) (a2 : Int32) (a3 : Int32) (h0 : PH) (hk : (kd this).1 = 12) : CT mkI l yX12_grants cX12_grants 9 (some .int) (rmd 4) [.ref this, .int a1, .int a2, .int a3] h0 (f_X12_grants this a1 a2 a3 h0) := by
  refine ct_of (by decide) (Nat.le_of_ble_eq_true rfl) ?_
  intro p e s m args below meth c D cA ad A X hr hlk
  have X : Cx p s m args c RX12 cX12_grants 9 D cA ad A := X
  unfold f_X12_grants
  refine so_pick (L' := [(0, .ref this), (1, .int a1), (2, .int a2), (3, .int a3)]) X [0, 1, 2, 3] rfl ?_
  refine so_aload_n (i := 0) X 0 (dkX12_grants (0, .aload_n 0, 1) (pgm 0 rfl)) rfl rfl ?_
  refine so_aload_n (i := 0) X 0 (dkX12_grants (1, .aload_n 0, 1) (pgm 1 rfl)) rfl rfl ?_
  refine so_iload_n (i := 1) X 1 (dkX12_grants (2, .iload_n 1, 1) (pgm 2 rfl)) rfl rfl ?_
  refine so_iload_n (i := 2) X 2 (dkX12_grants (3, .iload_n 2, 1) (pgm 3 rfl)) rfl rfl ?_
  refine so_iload_n (i := 3) X 3 (dkX12_grants (4, .iload_n 3, 1) (pgm 4 rfl)) rfl rfl ?_
  refine so_callV (n := 3) (As := [.int a1, .int a2, .int a3]) X (ct_X12_holdFault l this a1 a2 a3 h0 hk) hk (by decide) rfl lk_2238 lk_2240 lk_116 lk_134 lk_2241 (by decide +kernel) rfl rfl rfl (rm_ok (by omega) (by decide)) ⟨Nat.zero_le _, Nat.zero_le _⟩ (Nat.le_of_ble_eq_true rfl) (dkX12_grants (5, .invokevirtual 446, 3) (pgm 5 rfl)) (fun r1 h2 => ?_) rfl
  refine sf_putI X ff_12_5 ft_12 rfl lk_1707 hk rfl rfl (dkX12_grants (8, .putfield 92, 3) (pgm 6 rfl)) (fun h3 => ?_)
  refine so_aload_n (i := 0) X 0 (dkX12_grants (11, .aload_n 0, 1) (pgm 7 rfl)) rfl rfl ?_
  refine sf_getI X ff_12_5 lk_1707 hk (dkX12_grants (12, .getfield 92, 3) (pgm 8 rfl)) ?_
  refine so_if_le (tgt := 20) X (dkX12_grants (15, .ifCond .le 5, 3) (pgm 9 rfl)) rfl (fun _ => ?_) (fun _ => ?_)
  · refine so_aload_n (i := 0) X 0 (dkX12_grants (20, .aload_n 0, 1) (pgm 12 rfl)) rfl rfl ?_
    refine so_iload_n (i := 1) X 1 (dkX12_grants (21, .iload_n 1, 1) (pgm 13 rfl)) rfl rfl ?_
    refine so_callV (n := 1) (As := [.int a1]) X (ct_X12_laysWorth l this a1 h3 hk) hk (by decide) rfl lk_2243 lk_2245 lk_117 lk_134 lk_2246 (by decide +kernel) rfl rfl rfl (rm_ok (by omega) (by decide)) ⟨Nat.zero_le _, Nat.zero_le _⟩ (Nat.le_of_ble_eq_true rfl) (dkX12_grants (22, .invokevirtual 449, 3) (pgm 14 rfl)) (fun r4 h5 => ?_) rfl
    refine so_ldc2 X lk_2255 (dkX12_grants (25, .ldc2_w 452, 3) (pgm 15 rfl)) ?_
    refine so_lstore (i := 4) X (dkX12_grants (28, .lstore 4, 2) (pgm 16 rfl)) (by decide) (Lf := fun x6 => [(4, .long x6), (0, .ref this), (1, .int a1), (2, .int a2), (3, .int a3)]) (fun _ => rfl) (fun x6 => ?_)
    refine so_iconst (v := (0 : Int32)) X (dkX12_grants (30, .iconst 0, 1) (pgm 17 rfl)) ic_0 ?_
    refine so_istore (i := 6) X (dkX12_grants (31, .istore 6, 2) (pgm 18 rfl)) (by decide) (Lf := fun x7 => [(6, .int x7), (4, .long x6), (0, .ref this), (1, .int a1), (2, .int a2), (3, .int a3)]) (fun _ => rfl) (fun x7 => ?_)
    refine so_join (jf := fun (y8 : Int64) (h9 : PH) => some (y8.toInt32, h9)) (fun (j : Int64 → PH → Option (Int32 × PH)) => ∀ (y8 : Int64) (h9 : PH), SWo (QM mkI below args s D cA ad A) p l e (rmd 4) s m args below meth c 0 0 9 D cA ad A 120 [(4, .long y8)] [] h9 (j y8 h9)) ?_ (fun j120 hj120 => ?_)
    · intro y8 h9
      refine so_lload (i := 4) X 0 (dkX12_grants (120, .lload 4, 2) (pgm 69 rfl)) rfl ?_
      refine so_l2i X (dkX12_grants (122, .l2i, 1) (pgm 70 rfl)) ?_
      exact so_iret X hr hlk (dkX12_grants (123, .ireturn, 1) (pgm 71 rfl))
    refine so_pick (L' := [(0, .ref this), (1, .int a1), (2, .int a2), (3, .int a3), (4, .long x6), (6, .int x7)]) X [2, 3, 4, 5, 1, 0] rfl ?_
    refine so_loop (body := b_X12_grants_33 this a1 a2 a3 j120) (fun (s33 : Int64 × Int32) => [(0, .ref this), (1, .int a1), (2, .int a2), (3, .int a3), (4, .long s33.1), (6, .int s33.2)]) (fun rec33 hrec33 s33 hh33 => ?_) FU (x6, x7) h5
    unfold b_X12_grants_33
    refine so_iload (i := 6) X 5 (dkX12_grants (33, .iload 6, 2) (pgm 19 rfl)) rfl ?_
    refine so_aload_n (i := 0) X 0 (dkX12_grants (35, .aload_n 0, 1) (pgm 20 rfl)) rfl rfl ?_
    refine sf_getR X ff_12_37 lk_1739 hk (dkX12_grants (36, .getfield 83, 3) (pgm 21 rfl)) ?_
    refine so_iload_n (i := 1) X 1 (dkX12_grants (39, .iload_n 1, 1) (pgm 22 rfl)) rfl rfl ?_
    refine so_iald X (rk_12_37 this hk) (dkX12_grants (40, .iaload, 1) (pgm 23 rfl)) (fun x10 => ?_)
    refine so_icmp_ge (tgt := 120) X (dkX12_grants (41, .if_icmp .ge 79, 3) (pgm 24 rfl)) rfl (fun _ => ?_) (fun _ => ?_)
    · exact so_pick X [4] rfl (hj120 s33.1 hh33)
    · refine so_iload_n (i := 3) X 3 (dkX12_grants (44, .iload_n 3, 1) (pgm 25 rfl)) rfl rfl ?_
      refine so_if_le (tgt := 120) X (dkX12_grants (45, .ifCond .le 75, 3) (pgm 26 rfl)) rfl (fun _ => ?_) (fun _ => ?_)
      · exact so_pick X [4] rfl (hj120 s33.1 hh33)
      · refine so_aload_n (i := 0) X 0 (dkX12_grants (48, .aload_n 0, 1) (pgm 27 rfl)) rfl rfl ?_
        refine sf_getR X ff_12_38 lk_1740 hk (dkX12_grants (49, .getfield 86, 3) (pgm 28 rfl)) ?_
        refine so_bipush (v := (30 : Int32)) X (dkX12_grants (52, .bipush 30, 2) (pgm 29 rfl)) bp_30 ?_
        refine so_iload_n (i := 1) X 1 (dkX12_grants (54, .iload_n 1, 1) (pgm 30 rfl)) rfl rfl ?_
        refine so_imul X (dkX12_grants (55, .imul, 1) (pgm 31 rfl)) ?_
        refine so_iload (i := 6) X 5 (dkX12_grants (56, .iload 6, 2) (pgm 32 rfl)) rfl ?_
        refine so_iadd X (dkX12_grants (58, .iadd, 1) (pgm 33 rfl)) ?_
        refine so_lald X (rk_12_38 this hk) (dkX12_grants (59, .laload, 1) (pgm 34 rfl)) (fun x11 => ?_)
        refine so_lstore (i := 7) X (dkX12_grants (60, .lstore 7, 2) (pgm 35 rfl)) (by decide) (Lf := fun x12 => [(7, .long x12), (0, .ref this), (1, .int a1), (2, .int a2), (3, .int a3), (4, .long s33.1), (6, .int s33.2)]) (fun _ => rfl) (fun x12 => ?_)
        refine so_aload_n (i := 0) X 1 (dkX12_grants (62, .aload_n 0, 1) (pgm 36 rfl)) rfl rfl ?_
        refine so_iload_n (i := 1) X 2 (dkX12_grants (63, .iload_n 1, 1) (pgm 37 rfl)) rfl rfl ?_
        refine so_lload (i := 7) X 0 (dkX12_grants (64, .lload 7, 2) (pgm 38 rfl)) rfl ?_
        refine so_iload_n (i := 2) X 3 (dkX12_grants (66, .iload_n 2, 1) (pgm 39 rfl)) rfl rfl ?_
        refine so_iconst (v := (1 : Int32)) X (dkX12_grants (67, .iconst 1, 1) (pgm 40 rfl)) ic_1 ?_
        refine so_isub X (dkX12_grants (68, .isub, 1) (pgm 41 rfl)) ?_
        refine so_iload_n (i := 3) X 4 (dkX12_grants (69, .iload_n 3, 1) (pgm 42 rfl)) rfl rfl ?_
        refine so_callV (n := 4) (As := [.int a1, .long x12, .int (a2 - (1 : Int32)), .int a3]) X (ct_X12_grantsNow l this a1 x12 (a2 - (1 : Int32)) a3 hh33 hk) hk (by decide) rfl lk_2247 lk_2249 lk_118 lk_134 lk_2250 (by decide +kernel) rfl rfl rfl (rm_ok (by omega) (by decide)) ⟨Nat.zero_le _, Nat.zero_le _⟩ (Nat.le_of_ble_eq_true rfl) (dkX12_grants (70, .invokevirtual 442, 3) (pgm 43 rfl)) (fun r13 h14 => ?_) rfl
        refine so_aload_n (i := 0) X 1 (dkX12_grants (73, .aload_n 0, 1) (pgm 44 rfl)) rfl rfl ?_
        refine sf_getR X ff_12_35 lk_1737 hk (dkX12_grants (74, .getfield 77, 3) (pgm 45 rfl)) ?_
        refine so_bipush (v := (7 : Int32)) X (dkX12_grants (77, .bipush 7, 2) (pgm 46 rfl)) bp_7 ?_
        refine so_iload_n (i := 2) X 3 (dkX12_grants (79, .iload_n 2, 1) (pgm 47 rfl)) rfl rfl ?_
        refine so_iconst (v := (1 : Int32)) X (dkX12_grants (80, .iconst 1, 1) (pgm 48 rfl)) ic_1 ?_
        refine so_isub X (dkX12_grants (81, .isub, 1) (pgm 49 rfl)) ?_
        refine so_imul X (dkX12_grants (82, .imul, 1) (pgm 50 rfl)) ?_
        refine so_iload_n (i := 3) X 4 (dkX12_grants (83, .iload_n 3, 1) (pgm 51 rfl)) rfl rfl ?_
        refine so_iadd X (dkX12_grants (84, .iadd, 1) (pgm 52 rfl)) ?_
        refine so_lald X (rk_12_35 this hk) (dkX12_grants (85, .laload, 1) (pgm 53 rfl)) (fun x15 => ?_)
        refine so_lcmp X (dkX12_grants (86, .lcmp, 1) (pgm 54 rfl)) ?_
        refine so_join (jf := fun (y16 : Int64) (h17 : PH) => lt (s33.2 + Int32.ofInt 1) (fun (x18 : Int32) => rec33 (y16, x18) h17)) (fun (j : Int64 → PH → Option (Int32 × PH)) => ∀ (y16 : Int64) (h17 : PH), SWo (QM mkI below args s D cA ad A) p l e (rmd 4) s m args below meth c 0 0 9 D cA ad A 114 [(0, .ref this), (1, .int a1), (2, .int a2), (3, .int a3), (4, .long y16), (6, .int s33.2)] [] h17 (j y16 h17)) ?_ (fun j114 hj114 => ?_)
        · intro y16 h17
          refine so_iinc (i := 6) X 5 (dkX12_grants (114, .iinc 6 1, 3) (pgm 67 rfl)) rfl rfl (by decide) (Lf := fun x18 => [(6, .int x18), (0, .ref this), (1, .int a1), (2, .int a2), (3, .int a3), (4, .long y16)]) (fun _ => rfl) (fun x18 => ?_)
          refine so_goto (tgt := 33) X (dkX12_grants (117, .goto (-84), 3) (pgm 68 rfl)) rfl ?_
          exact so_pick X [1, 2, 3, 4, 5, 0] rfl (hrec33 (y16, x18) h17)
        refine so_if_ge (tgt := 93) X (dkX12_grants (87, .ifCond .ge 6, 3) (pgm 55 rfl)) rfl (fun _ => ?_) (fun _ => ?_)
        · refine so_lload (i := 4) X 5 (dkX12_grants (93, .lload 4, 2) (pgm 57 rfl)) rfl ?_
          refine so_ldc2 X lk_2255 (dkX12_grants (95, .ldc2_w 452, 3) (pgm 58 rfl)) ?_
          refine so_lcmp X (dkX12_grants (98, .lcmp, 1) (pgm 59 rfl)) ?_
          refine so_join (jf := fun (h19 : PH) => lt x12 (fun (x20 : Int64) => j114 x20 h19)) (fun (j : PH → Option (Int32 × PH)) => ∀  (h19 : PH), SWo (QM mkI below args s D cA ad A) p l e (rmd 4) s m args below meth c 0 0 9 D cA ad A 110 [(0, .ref this), (1, .int a1), (2, .int a2), (3, .int a3), (6, .int s33.2), (7, .long x12)] [] h19 (j h19)) ?_ (fun j110 hj110 => ?_)
          · intro h19
            refine so_lload (i := 7) X 5 (dkX12_grants (110, .lload 7, 2) (pgm 65 rfl)) rfl ?_
            refine so_lstore (i := 4) X (dkX12_grants (112, .lstore 4, 2) (pgm 66 rfl)) (by decide) (Lf := fun x20 => [(4, .long x20), (0, .ref this), (1, .int a1), (2, .int a2), (3, .int a3), (6, .int s33.2), (7, .long x12)]) (fun _ => rfl) (fun x20 => ?_)
            exact so_pick X [1, 2, 3, 4, 0, 5] rfl (hj114 x20 h19)
          refine so_if_eq (tgt := 110) X (dkX12_grants (99, .ifCond .eq 11, 3) (pgm 60 rfl)) rfl (fun _ => ?_) (fun _ => ?_)
          · exact so_pick X [1, 2, 3, 4, 6, 0] rfl (hj110 h14)
          · refine so_lload (i := 7) X 0 (dkX12_grants (102, .lload 7, 2) (pgm 61 rfl)) rfl ?_
            refine so_lload (i := 4) X 5 (dkX12_grants (104, .lload 4, 2) (pgm 62 rfl)) rfl ?_
            refine so_lcmp X (dkX12_grants (106, .lcmp, 1) (pgm 63 rfl)) ?_
            refine so_if_ge (tgt := 114) X (dkX12_grants (107, .ifCond .ge 7, 3) (pgm 64 rfl)) rfl (fun _ => ?_) (fun _ => ?_)
            · exact so_pick X [1, 2, 3, 4, 5, 6] rfl (hj114 s33.1 h14)
            · exact so_pick X [1, 2, 3, 4, 6, 0] rfl (hj110 h14)
        · refine so_goto (tgt := 114) X (dkX12_grants (90, .goto 24, 3) (pgm 56 rfl)) rfl ?_
          exact so_pick X [1, 2, 3, 4, 5, 6] rfl (hj114 s33.1 h14)
  · refine so_iconst (v := (0 : Int32)) X (dkX12_grants (18, .iconst 0, 1) (pgm 10 rfl)) ic_0 ?_
    exact so_iret X hr hlk (dkX12_grants (19, .ireturn, 1) (pgm 11 rfl))
def pgX12_write : List (Nat × Instr × Nat) := [(0, .aload_n 0, 1), (1, .aload_n 0, 1), (2, .iload_n 1, 1), (3, .invokevirtual 385, 3), (6, .putfield 92, 3), (9, .aload_n 0, 1), (10, .getfield 92, 3), (13, .ifCond .le 5, 3), (16, .lconst 0, 1), (17, .lreturn, 1), (18, .iload_n 2, 1), (19, .i2l, 1), (20, .lconst 0, 1), (21, .aload_n 0, 1), (22, .getfield 83, 3), (25, .iload_n 1, 1), (26, .iaload, 1), (27, .iconst 1, 1), (28, .isub, 1), (29, .i2l, 1), (30, .invokestatic 156, 3), (33, .ifCond .eq 13, 3), (36, .aload_n 0, 1), (37, .iload_n 1, 1), (38, .iload_n 2, 1), (39, .lload_n 3, 1), (40, .invokevirtual 454, 3), (43, .goto 9, 3), (46, .aload_n 0, 1), (47, .iconst 3, 1), (48, .invokevirtual 233, 3), (51, .i2l, 1), (52, .lreturn, 1)]
theorem dkX12_write : ∀ q ∈ pgX12_write, decode cX12_write q.1 = .ok q.2 := by decide +kernel
def f_X12_write (this : Nat) (a1 : Int32) (a2 : Int32) (a3 : Int64) (h0 : PH) : Option (Int64 × PH) :=
  cb (f_X12_trayFault this a1 h0) (fun (r1 : Int32) (h2 : PH) => lt (pI h2 this 5 r1) (fun (h3 : PH) => if (h3.1 this 5) ≤ 0 then (ldI h3 (rt this 37) 4 a1 (fun (x4 : Int32) => cb (f_X12_within a2.toInt64 (0 : Int64) ((x4 - (1 : Int32)).toInt64) h3) (fun (r5 : Int32) (h6 : PH) => lt (fun (t7 : Int64) (h8 : PH) => some (t7, h8)) (fun (j52 : Int64 → PH → Option (Int64 × PH)) => if r5 = 0 then (cb (f_X12_fails this (3 : Int32) h6) (fun (r9 : Int32) (h10 : PH) => j52 r9.toInt64 h10)) else (cb (f_X12_cut this a1 a2 a3 h6) (fun (r11 : Int64) (h12 : PH) => j52 r11 h12)))))) else (some ((0 : Int64), h3))))
set_option maxRecDepth 100000 in
set_option maxHeartbeats 4000000 in
theorem ct_X12_write (l : Launch) (this : Nat) (a1 : Int32) (a2 : Int32) (a3 : Int64) (h0 : PH) (hk : (kd this).1 = 12) : CT mkL l yX12_write cX12_write 5 (some .long) (rmd 3) [.ref this, .int a1, .int a2, .long a3] h0 (f_X12_write this a1 a2 a3 h0) := by
  refine ct_of (by decide) (Nat.le_of_ble_eq_true rfl) ?_
  intro p e s m args below meth c D cA ad A X hr hlk
  have X : Cx p s m args c RX12 cX12_write 5 D cA ad A := X
  unfold f_X12_write
  refine so_pick (L' := [(0, .ref this), (1, .int a1), (2, .int a2), (3, .long a3)]) X [0, 1, 2, 3] rfl ?_
  refine so_aload_n (i := 0) X 0 (dkX12_write (0, .aload_n 0, 1) (pgm 0 rfl)) rfl rfl ?_
  refine so_aload_n (i := 0) X 0 (dkX12_write (1, .aload_n 0, 1) (pgm 1 rfl)) rfl rfl ?_
  refine so_iload_n (i := 1) X 1 (dkX12_write (2, .iload_n 1, 1) (pgm 2 rfl)) rfl rfl ?_
  refine so_callV (n := 1) (As := [.int a1]) X (ct_X12_trayFault l this a1 h0 hk) hk (by decide) rfl lk_2130 lk_2132 lk_103 lk_134 lk_2133 (by decide +kernel) rfl rfl rfl (rm_ok (by omega) (by decide)) ⟨Nat.zero_le _, Nat.zero_le _⟩ (Nat.le_of_ble_eq_true rfl) (dkX12_write (3, .invokevirtual 385, 3) (pgm 3 rfl)) (fun r1 h2 => ?_) rfl
  refine sf_putI X ff_12_5 ft_12 rfl lk_1707 hk rfl rfl (dkX12_write (6, .putfield 92, 3) (pgm 4 rfl)) (fun h3 => ?_)
  refine so_aload_n (i := 0) X 0 (dkX12_write (9, .aload_n 0, 1) (pgm 5 rfl)) rfl rfl ?_
  refine sf_getI X ff_12_5 lk_1707 hk (dkX12_write (10, .getfield 92, 3) (pgm 6 rfl)) ?_
  refine so_if_le (tgt := 18) X (dkX12_write (13, .ifCond .le 5, 3) (pgm 7 rfl)) rfl (fun _ => ?_) (fun _ => ?_)
  · refine so_iload_n (i := 2) X 2 (dkX12_write (18, .iload_n 2, 1) (pgm 10 rfl)) rfl rfl ?_
    refine so_i2l X (dkX12_write (19, .i2l, 1) (pgm 11 rfl)) ?_
    refine so_lconst (v := (0 : Int64)) X (dkX12_write (20, .lconst 0, 1) (pgm 12 rfl)) lc_0 ?_
    refine so_aload_n (i := 0) X 0 (dkX12_write (21, .aload_n 0, 1) (pgm 13 rfl)) rfl rfl ?_
    refine sf_getR X ff_12_37 lk_1739 hk (dkX12_write (22, .getfield 83, 3) (pgm 14 rfl)) ?_
    refine so_iload_n (i := 1) X 1 (dkX12_write (25, .iload_n 1, 1) (pgm 15 rfl)) rfl rfl ?_
    refine so_iald X (rk_12_37 this hk) (dkX12_write (26, .iaload, 1) (pgm 16 rfl)) (fun x4 => ?_)
    refine so_iconst (v := (1 : Int32)) X (dkX12_write (27, .iconst 1, 1) (pgm 17 rfl)) ic_1 ?_
    refine so_isub X (dkX12_write (28, .isub, 1) (pgm 18 rfl)) ?_
    refine so_i2l X (dkX12_write (29, .i2l, 1) (pgm 19 rfl)) ?_
    refine so_callS (n := 3) (As := [.long a2.toInt64, .long (0 : Int64), .long ((x4 - (1 : Int32)).toInt64)]) X (ct_X12_within l a2.toInt64 (0 : Int64) ((x4 - (1 : Int32)).toInt64) h3 ) lk_1832 lk_1833 lk_134 lk_1834 (by decide +kernel) rfl rfl rfl (rm_ok (by omega) (by decide)) ⟨Nat.zero_le _, Nat.zero_le _⟩ (Nat.le_of_ble_eq_true rfl) (dkX12_write (30, .invokestatic 156, 3) (pgm 20 rfl)) (fun r5 h6 => ?_) rfl
    refine so_join (jf := fun (t7 : Int64) (h8 : PH) => some (t7, h8)) (fun (j : Int64 → PH → Option (Int64 × PH)) => ∀ (t7 : Int64) (h8 : PH), SWo (QM mkL below args s D cA ad A) p l e (rmd 3) s m args below meth c 0 0 5 D cA ad A 52 [] [.long t7] h8 (j t7 h8)) ?_ (fun j52 hj52 => ?_)
    · intro t7 h8
      exact so_lret X hr hlk (dkX12_write (52, .lreturn, 1) (pgm 32 rfl))
    refine so_if_eq (tgt := 46) X (dkX12_write (33, .ifCond .eq 13, 3) (pgm 21 rfl)) rfl (fun _ => ?_) (fun _ => ?_)
    · refine so_aload_n (i := 0) X 0 (dkX12_write (46, .aload_n 0, 1) (pgm 28 rfl)) rfl rfl ?_
      refine so_iconst (v := (3 : Int32)) X (dkX12_write (47, .iconst 3, 1) (pgm 29 rfl)) ic_3 ?_
      refine so_callV (n := 1) (As := [.int (3 : Int32)]) X (ct_X12_fails l this (3 : Int32) h6 hk) hk (by decide) rfl lk_1835 lk_1837 lk_61 lk_134 lk_1838 (by decide +kernel) rfl rfl rfl (rm_ok (by omega) (by decide)) ⟨Nat.zero_le _, Nat.zero_le _⟩ (Nat.le_of_ble_eq_true rfl) (dkX12_write (48, .invokevirtual 233, 3) (pgm 30 rfl)) (fun r9 h10 => ?_) rfl
      refine so_i2l X (dkX12_write (51, .i2l, 1) (pgm 31 rfl)) ?_
      exact so_pick X [] rfl (hj52 r9.toInt64 h10)
    · refine so_aload_n (i := 0) X 0 (dkX12_write (36, .aload_n 0, 1) (pgm 22 rfl)) rfl rfl ?_
      refine so_iload_n (i := 1) X 1 (dkX12_write (37, .iload_n 1, 1) (pgm 23 rfl)) rfl rfl ?_
      refine so_iload_n (i := 2) X 2 (dkX12_write (38, .iload_n 2, 1) (pgm 24 rfl)) rfl rfl ?_
      refine so_lload_n (i := 3) X 3 (dkX12_write (39, .lload_n 3, 1) (pgm 25 rfl)) rfl rfl ?_
      refine so_callV (n := 3) (As := [.int a1, .int a2, .long a3]) X (ct_X12_cut l this a1 a2 a3 h6 hk) hk (by decide) rfl lk_2264 lk_2266 lk_119 lk_134 lk_2267 (by decide +kernel) rfl rfl rfl (rm_ok (by omega) (by decide)) ⟨Nat.zero_le _, Nat.zero_le _⟩ (Nat.le_of_ble_eq_true rfl) (dkX12_write (40, .invokevirtual 454, 3) (pgm 26 rfl)) (fun r11 h12 => ?_) rfl
      refine so_goto (tgt := 52) X (dkX12_write (43, .goto 9, 3) (pgm 27 rfl)) rfl ?_
      exact so_pick X [] rfl (hj52 r11 h12)
  · refine so_lconst (v := (0 : Int64)) X (dkX12_write (16, .lconst 0, 1) (pgm 8 rfl)) lc_0 ?_
    exact so_lret X hr hlk (dkX12_write (17, .lreturn, 1) (pgm 9 rfl))
def pgX12_pour : List (Nat × Instr × Nat) := [(0, .aload_n 0, 1), (1, .aload_n 0, 1), (2, .iload_n 1, 1), (3, .invokevirtual 385, 3), (6, .putfield 92, 3), (9, .aload_n 0, 1), (10, .getfield 92, 3), (13, .ifCond .le 5, 3), (16, .iconst 0, 1), (17, .ireturn, 1), (18, .iconst 0, 1), (19, .istore_n 2, 1), (20, .iconst 0, 1), (21, .istore_n 3, 1), (22, .iload_n 3, 1), (23, .aload_n 0, 1), (24, .invokevirtual 252, 3), (27, .if_icmp .gt 43, 3), (30, .iload_n 2, 1), (31, .aload_n 0, 1), (32, .getfield 83, 3), (35, .iload_n 1, 1), (36, .iaload, 1), (37, .if_icmp .ge 33, 3), (40, .aload_n 0, 1), (41, .iload_n 3, 1), (42, .i2l, 1), (43, .invokevirtual 310, 3), (46, .ifCond .eq 6, 3), (49, .goto 15, 3), (52, .aload_n 0, 1), (53, .iload_n 1, 1), (54, .iload_n 2, 1), (55, .iload_n 3, 1), (56, .i2l, 1), (57, .invokevirtual 454, 3), (60, .pop2, 1), (61, .iinc 2 1, 3), (64, .iinc 3 1, 3), (67, .goto (-45), 3), (70, .iload_n 2, 1), (71, .ireturn, 1)]
theorem dkX12_pour : ∀ q ∈ pgX12_pour, decode cX12_pour q.1 = .ok q.2 := by decide +kernel
def b_X12_pour_22 (this : Nat) (a1 : Int32) (j70 : Int32 → PH → Option (Int32 × PH)) (rec22 : (Int32 × Int32) → PH → Option (Int32 × PH)) (s22 : Int32 × Int32) (hh22 : PH) : Option (Int32 × PH) :=
  cb (f_X12_everywhere this hh22) (fun (r8 : Int32) (h9 : PH) => if r8 < s22.2 then (j70 s22.1 h9) else (ldI h9 (rt this 37) 4 a1 (fun (x10 : Int32) => if x10 ≤ s22.1 then (j70 s22.1 h9) else (cb (f_X12_whyNot this s22.2.toInt64 h9) (fun (r11 : Int32) (h12 : PH) => lt (fun (y13 : Int32) (h14 : PH) => lt (s22.2 + Int32.ofInt 1) (fun (x15 : Int32) => rec22 (y13, x15) h14)) (fun (j64 : Int32 → PH → Option (Int32 × PH)) => if r11 = 0 then (cb (f_X12_cut this a1 s22.1 s22.2.toInt64 h12) (fun (r16 : Int64) (h17 : PH) => lt (s22.1 + Int32.ofInt 1) (fun (x18 : Int32) => j64 x18 h17))) else (j64 s22.1 h12)))))))
def f_X12_pour (this : Nat) (a1 : Int32) (h0 : PH) : Option (Int32 × PH) :=
  cb (f_X12_trayFault this a1 h0) (fun (r1 : Int32) (h2 : PH) => lt (pI h2 this 5 r1) (fun (h3 : PH) => if (h3.1 this 5) ≤ 0 then (lt (0 : Int32) (fun (x4 : Int32) => lt (0 : Int32) (fun (x5 : Int32) => lt (fun (y6 : Int32) (h7 : PH) => some (y6, h7)) (fun (j70 : Int32 → PH → Option (Int32 × PH)) => lp (b_X12_pour_22 this a1 j70) FU (x4, x5) h3)))) else (some ((0 : Int32), h3))))
set_option maxRecDepth 100000 in
set_option maxHeartbeats 4000000 in
theorem ct_X12_pour (l : Launch) (this : Nat) (a1 : Int32) (h0 : PH) (hk : (kd this).1 = 12) : CT mkI l yX12_pour cX12_pour 4 (some .int) (rmd 4) [.ref this, .int a1] h0 (f_X12_pour this a1 h0) := by
  refine ct_of (by decide) (Nat.le_of_ble_eq_true rfl) ?_
  intro p e s m args below meth c D cA ad A X hr hlk
  have X : Cx p s m args c RX12 cX12_pour 4 D cA ad A := X
  unfold f_X12_pour
  refine so_pick (L' := [(0, .ref this), (1, .int a1)]) X [0, 1] rfl ?_
  refine so_aload_n (i := 0) X 0 (dkX12_pour (0, .aload_n 0, 1) (pgm 0 rfl)) rfl rfl ?_
  refine so_aload_n (i := 0) X 0 (dkX12_pour (1, .aload_n 0, 1) (pgm 1 rfl)) rfl rfl ?_
  refine so_iload_n (i := 1) X 1 (dkX12_pour (2, .iload_n 1, 1) (pgm 2 rfl)) rfl rfl ?_
  refine so_callV (n := 1) (As := [.int a1]) X (ct_X12_trayFault l this a1 h0 hk) hk (by decide) rfl lk_2130 lk_2132 lk_103 lk_134 lk_2133 (by decide +kernel) rfl rfl rfl (rm_ok (by omega) (by decide)) ⟨Nat.zero_le _, Nat.zero_le _⟩ (Nat.le_of_ble_eq_true rfl) (dkX12_pour (3, .invokevirtual 385, 3) (pgm 3 rfl)) (fun r1 h2 => ?_) rfl
  refine sf_putI X ff_12_5 ft_12 rfl lk_1707 hk rfl rfl (dkX12_pour (6, .putfield 92, 3) (pgm 4 rfl)) (fun h3 => ?_)
  refine so_aload_n (i := 0) X 0 (dkX12_pour (9, .aload_n 0, 1) (pgm 5 rfl)) rfl rfl ?_
  refine sf_getI X ff_12_5 lk_1707 hk (dkX12_pour (10, .getfield 92, 3) (pgm 6 rfl)) ?_
  refine so_if_le (tgt := 18) X (dkX12_pour (13, .ifCond .le 5, 3) (pgm 7 rfl)) rfl (fun _ => ?_) (fun _ => ?_)
  · refine so_iconst (v := (0 : Int32)) X (dkX12_pour (18, .iconst 0, 1) (pgm 10 rfl)) ic_0 ?_
    refine so_istore_n (i := 2) X (dkX12_pour (19, .istore_n 2, 1) (pgm 11 rfl)) rfl (by decide) (Lf := fun x4 => [(2, .int x4), (0, .ref this), (1, .int a1)]) (fun _ => rfl) (fun x4 => ?_)
    refine so_iconst (v := (0 : Int32)) X (dkX12_pour (20, .iconst 0, 1) (pgm 12 rfl)) ic_0 ?_
    refine so_istore_n (i := 3) X (dkX12_pour (21, .istore_n 3, 1) (pgm 13 rfl)) rfl (by decide) (Lf := fun x5 => [(3, .int x5), (2, .int x4), (0, .ref this), (1, .int a1)]) (fun _ => rfl) (fun x5 => ?_)
    refine so_join (jf := fun (y6 : Int32) (h7 : PH) => some (y6, h7)) (fun (j : Int32 → PH → Option (Int32 × PH)) => ∀ (y6 : Int32) (h7 : PH), SWo (QM mkI below args s D cA ad A) p l e (rmd 4) s m args below meth c 0 0 4 D cA ad A 70 [(2, .int y6)] [] h7 (j y6 h7)) ?_ (fun j70 hj70 => ?_)
    · intro y6 h7
      refine so_iload_n (i := 2) X 0 (dkX12_pour (70, .iload_n 2, 1) (pgm 40 rfl)) rfl rfl ?_
      exact so_iret X hr hlk (dkX12_pour (71, .ireturn, 1) (pgm 41 rfl))
    refine so_pick (L' := [(0, .ref this), (1, .int a1), (2, .int x4), (3, .int x5)]) X [2, 3, 1, 0] rfl ?_
    refine so_loop (body := b_X12_pour_22 this a1 j70) (fun (s22 : Int32 × Int32) => [(0, .ref this), (1, .int a1), (2, .int s22.1), (3, .int s22.2)]) (fun rec22 hrec22 s22 hh22 => ?_) FU (x4, x5) h3
    unfold b_X12_pour_22
    refine so_iload_n (i := 3) X 3 (dkX12_pour (22, .iload_n 3, 1) (pgm 14 rfl)) rfl rfl ?_
    refine so_aload_n (i := 0) X 0 (dkX12_pour (23, .aload_n 0, 1) (pgm 15 rfl)) rfl rfl ?_
    refine so_callV (n := 0) (As := []) X (ct_X12_everywhere l this hh22 hk) hk (by decide) rfl lk_1664 lk_1666 lk_56 lk_134 lk_1667 (by decide +kernel) rfl rfl rfl (rm_ok (by omega) (by decide)) ⟨Nat.zero_le _, Nat.zero_le _⟩ (Nat.le_of_ble_eq_true rfl) (dkX12_pour (24, .invokevirtual 252, 3) (pgm 16 rfl)) (fun r8 h9 => ?_) rfl
    refine so_icmp_gt (tgt := 70) X (dkX12_pour (27, .if_icmp .gt 43, 3) (pgm 17 rfl)) rfl (fun _ => ?_) (fun _ => ?_)
    · exact so_pick X [2] rfl (hj70 s22.1 h9)
    · refine so_iload_n (i := 2) X 2 (dkX12_pour (30, .iload_n 2, 1) (pgm 18 rfl)) rfl rfl ?_
      refine so_aload_n (i := 0) X 0 (dkX12_pour (31, .aload_n 0, 1) (pgm 19 rfl)) rfl rfl ?_
      refine sf_getR X ff_12_37 lk_1739 hk (dkX12_pour (32, .getfield 83, 3) (pgm 20 rfl)) ?_
      refine so_iload_n (i := 1) X 1 (dkX12_pour (35, .iload_n 1, 1) (pgm 21 rfl)) rfl rfl ?_
      refine so_iald X (rk_12_37 this hk) (dkX12_pour (36, .iaload, 1) (pgm 22 rfl)) (fun x10 => ?_)
      refine so_icmp_ge (tgt := 70) X (dkX12_pour (37, .if_icmp .ge 33, 3) (pgm 23 rfl)) rfl (fun _ => ?_) (fun _ => ?_)
      · exact so_pick X [2] rfl (hj70 s22.1 h9)
      · refine so_aload_n (i := 0) X 0 (dkX12_pour (40, .aload_n 0, 1) (pgm 24 rfl)) rfl rfl ?_
        refine so_iload_n (i := 3) X 3 (dkX12_pour (41, .iload_n 3, 1) (pgm 25 rfl)) rfl rfl ?_
        refine so_i2l X (dkX12_pour (42, .i2l, 1) (pgm 26 rfl)) ?_
        refine so_callV (n := 1) (As := [.long s22.2.toInt64]) X (ct_X12_whyNot l this s22.2.toInt64 h9 hk) hk (by decide) rfl lk_1982 lk_1984 lk_86 lk_134 lk_1985 (by decide +kernel) rfl rfl rfl (rm_ok (by omega) (by decide)) ⟨Nat.zero_le _, Nat.zero_le _⟩ (Nat.le_of_ble_eq_true rfl) (dkX12_pour (43, .invokevirtual 310, 3) (pgm 27 rfl)) (fun r11 h12 => ?_) rfl
        refine so_join (jf := fun (y13 : Int32) (h14 : PH) => lt (s22.2 + Int32.ofInt 1) (fun (x15 : Int32) => rec22 (y13, x15) h14)) (fun (j : Int32 → PH → Option (Int32 × PH)) => ∀ (y13 : Int32) (h14 : PH), SWo (QM mkI below args s D cA ad A) p l e (rmd 4) s m args below meth c 0 0 4 D cA ad A 64 [(0, .ref this), (1, .int a1), (2, .int y13), (3, .int s22.2)] [] h14 (j y13 h14)) ?_ (fun j64 hj64 => ?_)
        · intro y13 h14
          refine so_iinc (i := 3) X 3 (dkX12_pour (64, .iinc 3 1, 3) (pgm 38 rfl)) rfl rfl (by decide) (Lf := fun x15 => [(3, .int x15), (0, .ref this), (1, .int a1), (2, .int y13)]) (fun _ => rfl) (fun x15 => ?_)
          refine so_goto (tgt := 22) X (dkX12_pour (67, .goto (-45), 3) (pgm 39 rfl)) rfl ?_
          exact so_pick X [1, 2, 3, 0] rfl (hrec22 (y13, x15) h14)
        refine so_if_eq (tgt := 52) X (dkX12_pour (46, .ifCond .eq 6, 3) (pgm 28 rfl)) rfl (fun _ => ?_) (fun _ => ?_)
        · refine so_aload_n (i := 0) X 0 (dkX12_pour (52, .aload_n 0, 1) (pgm 30 rfl)) rfl rfl ?_
          refine so_iload_n (i := 1) X 1 (dkX12_pour (53, .iload_n 1, 1) (pgm 31 rfl)) rfl rfl ?_
          refine so_iload_n (i := 2) X 2 (dkX12_pour (54, .iload_n 2, 1) (pgm 32 rfl)) rfl rfl ?_
          refine so_iload_n (i := 3) X 3 (dkX12_pour (55, .iload_n 3, 1) (pgm 33 rfl)) rfl rfl ?_
          refine so_i2l X (dkX12_pour (56, .i2l, 1) (pgm 34 rfl)) ?_
          refine so_callV (n := 3) (As := [.int a1, .int s22.1, .long s22.2.toInt64]) X (ct_X12_cut l this a1 s22.1 s22.2.toInt64 h12 hk) hk (by decide) rfl lk_2264 lk_2266 lk_119 lk_134 lk_2267 (by decide +kernel) rfl rfl rfl (rm_ok (by omega) (by decide)) ⟨Nat.zero_le _, Nat.zero_le _⟩ (Nat.le_of_ble_eq_true rfl) (dkX12_pour (57, .invokevirtual 454, 3) (pgm 35 rfl)) (fun r16 h17 => ?_) rfl
          refine so_pop2 X (dkX12_pour (60, .pop2, 1) (pgm 36 rfl)) rfl ?_
          refine so_iinc (i := 2) X 2 (dkX12_pour (61, .iinc 2 1, 3) (pgm 37 rfl)) rfl rfl (by decide) (Lf := fun x18 => [(2, .int x18), (0, .ref this), (1, .int a1), (3, .int s22.2)]) (fun _ => rfl) (fun x18 => ?_)
          exact so_pick X [1, 2, 0, 3] rfl (hj64 x18 h17)
        · refine so_goto (tgt := 64) X (dkX12_pour (49, .goto 15, 3) (pgm 29 rfl)) rfl ?_
          exact so_pick X [0, 1, 2, 3] rfl (hj64 s22.1 h12)
  · refine so_iconst (v := (0 : Int32)) X (dkX12_pour (16, .iconst 0, 1) (pgm 8 rfl)) ic_0 ?_
    exact so_iret X hr hlk (dkX12_pour (17, .ireturn, 1) (pgm 9 rfl))
def pgX1_take : List (Nat × Instr × Nat) := [(0, .aload_n 1, 1), (1, .getfield 35, 3), (4, .iconst 2, 1), (5, .irem, 1), (6, .ifCond .eq 12, 3), (9, .aload_n 1, 1), (10, .getfield 35, 3), (13, .bipush 9, 2), (15, .if_icmp .le 5, 3), (18, .iconst 0, 1), (19, .ireturn, 1), (20, .aload_n 0, 1), (21, .aload_n 1, 1), (22, .getfield 35, 3), (25, .iconst 1, 1), (26, .iadd, 1), (27, .iconst 2, 1), (28, .idiv, 1), (29, .putfield 41, 3), (32, .aload_n 0, 1), (33, .iconst 0, 1), (34, .putfield 44, 3), (37, .iconst 0, 1), (38, .istore_n 2, 1), (39, .iload_n 2, 1), (40, .aload_n 1, 1), (41, .getfield 35, 3), (44, .if_icmp .ge 89, 3), (47, .aload_n 1, 1), (48, .getfield 47, 3), (51, .iload_n 2, 1), (52, .laload, 1), (53, .lstore_n 3, 1), (54, .iload_n 2, 1), (55, .iconst 2, 1), (56, .irem, 1), (57, .iconst 1, 1), (58, .if_icmp .ne 7, 3), (61, .iconst 1, 1), (62, .goto 4, 3), (65, .iconst 0, 1), (66, .istore 5, 2), (68, .lload_n 3, 1), (69, .lconst 0, 1), (70, .lcmp, 1), (71, .ifCond .lt 27, 3), (74, .lload_n 3, 1), (75, .iload 5, 2), (77, .ifCond .eq 7, 3), (80, .iconst 2, 1), (81, .goto 12, 3), (84, .iconst 2, 1), (85, .aload_n 0, 1), (86, .getfield 27, 3), (89, .getfield 51, 3), (92, .imul, 1), (93, .i2l, 1), (94, .lcmp, 1), (95, .ifCond .lt 5, 3), (98, .iconst 0, 1), (99, .ireturn, 1), (100, .iload 5, 2), (102, .ifCond .eq 16, 3), (105, .aload_n 0, 1), (106, .getfield 9, 3), (109, .iload_n 2, 1), (110, .iconst 2, 1), (111, .idiv, 1), (112, .lload_n 3, 1), (113, .l2i, 1), (114, .iastore, 1), (115, .goto 12, 3), (118, .aload_n 0, 1), (119, .iload_n 2, 1), (120, .iconst 2, 1), (121, .idiv, 1), (122, .lload_n 3, 1), (123, .l2i, 1), (124, .invokevirtual 56, 3), (127, .iinc 2 1, 3), (130, .goto (-91), 3), (133, .iconst 1, 1), (134, .ireturn, 1)]
theorem dkX1_take : ∀ q ∈ pgX1_take, decode cX1_take q.1 = .ok q.2 := by decide +kernel
def b_X1_take_39 (this : Nat) (a1 : Nat) (j98 : PH → Option (Int32 × PH)) (rec39 : (Int32) → PH → Option (Int32 × PH)) (s39 : Int32) (hh39 : PH) : Option (Int32 × PH) :=
  if (hh39.1 a1 1) ≤ s39 then (zr (1 : Int32) hh39) else (ldL hh39 (rt a1 2) 30 s39 (fun (x6 : Int64) => lt x6 (fun (x7 : Int64) => nz (2 : Int32) (lt (fun (t8 : Int32) (h9 : PH) => lt t8 (fun (x10 : Int32) => if (lg_cmp x7 (0 : Int64)) < 0 then (j98 h9) else (lt (fun (t11 : Int32) (h12 : PH) => if (lg_cmp x7 t11.toInt64) < 0 then (lt (fun (h13 : PH) => lt (s39 + Int32.ofInt 1) (fun (x14 : Int32) => rec39 x14 h13)) (fun (j127 : PH → Option (Int32 × PH)) => if x10 = 0 then (nz (2 : Int32) (cb (f_X1_takePart this (s39 / (2 : Int32)) x7.toInt32 h12) (fun (r15 : Unit) (h16 : PH) => j127 h16))) else (nz (2 : Int32) (stI h12 (rt this 2) 5 (s39 / (2 : Int32)) x7.toInt32 (fun (h17 : PH) => j127 h17))))) else (j98 h12)) (fun (j93 : Int32 → PH → Option (Int32 × PH)) => if x10 = 0 then (j93 ((2 : Int32) * (h9.1 (rt this 0) 7)) h9) else (j93 (2 : Int32) h9))))) (fun (j66 : Int32 → PH → Option (Int32 × PH)) => if (s39 - s39 / (2 : Int32) * (2 : Int32)) = (1 : Int32) then (j66 (1 : Int32) hh39) else (j66 (0 : Int32) hh39))))))
def f_X1_take (this : Nat) (a1 : Nat) (h0 : PH) : Option (Int32 × PH) :=
  nz (2 : Int32) (lt (fun (h1 : PH) => zr (0 : Int32) h1) (fun (j18 : PH → Option (Int32 × PH)) => if ((h0.1 a1 1) - (h0.1 a1 1) / (2 : Int32) * (2 : Int32)) = 0 then (j18 h0) else (if (h0.1 a1 1) ≤ (9 : Int32) then (nz (2 : Int32) (lt (pI h0 this 7 (((h0.1 a1 1) + (1 : Int32)) / (2 : Int32))) (fun (h2 : PH) => lt (pI h2 this 8 (0 : Int32)) (fun (h3 : PH) => lt (0 : Int32) (fun (x4 : Int32) => lt (fun (h5 : PH) => zr (0 : Int32) h5) (fun (j98 : PH → Option (Int32 × PH)) => lp (b_X1_take_39 this a1 j98) FU x4 h3)))))) else (j18 h0))))
set_option maxRecDepth 100000 in
set_option maxHeartbeats 4000000 in
theorem ct_X1_take (l : Launch) (this : Nat) (a1 : Nat) (h0 : PH) (hk : (kd this).1 = 1) (hk1 : (kd a1).1 = 10) : CT mkI l yX1_take cX1_take 6 (some .boolean) (rmd 2) [.ref this, .ref a1] h0 (f_X1_take this a1 h0) := by
  refine ct_of (by decide) (Nat.le_of_ble_eq_true rfl) ?_
  intro p e s m args below meth c D cA ad A X hr hlk
  have X : Cx p s m args c RX1 cX1_take 6 D cA ad A := X
  unfold f_X1_take
  refine so_pick (L' := [(0, .ref this), (1, .ref a1)]) X [0, 1] rfl ?_
  refine so_aload_n (i := 1) X 1 (dkX1_take (0, .aload_n 1, 1) (pgm 0 rfl)) rfl rfl ?_
  refine sf_getI X ff_10_1 lk_547 hk1 (dkX1_take (1, .getfield 35, 3) (pgm 1 rfl)) ?_
  refine so_iconst (v := (2 : Int32)) X (dkX1_take (4, .iconst 2, 1) (pgm 2 rfl)) ic_2 ?_
  refine so_irem X (dkX1_take (5, .irem, 1) (pgm 3 rfl)) (fun _ => ?_)
  refine so_join (jf := fun (h1 : PH) => zr (0 : Int32) h1) (fun (j : PH → Option (Int32 × PH)) => ∀  (h1 : PH), SWo (QM mkI below args s D cA ad A) p l e (rmd 2) s m args below meth c 0 0 6 D cA ad A 18 [] [] h1 (j h1)) ?_ (fun j18 hj18 => ?_)
  · intro h1
    refine so_iconst (v := (0 : Int32)) X (dkX1_take (18, .iconst 0, 1) (pgm 9 rfl)) ic_0 ?_
    exact so_zret X hr hlk (dkX1_take (19, .ireturn, 1) (pgm 10 rfl))
  refine so_if_eq (tgt := 18) X (dkX1_take (6, .ifCond .eq 12, 3) (pgm 4 rfl)) rfl (fun _ => ?_) (fun _ => ?_)
  · exact so_pick X [] rfl (hj18 h0)
  · refine so_aload_n (i := 1) X 1 (dkX1_take (9, .aload_n 1, 1) (pgm 5 rfl)) rfl rfl ?_
    refine sf_getI X ff_10_1 lk_547 hk1 (dkX1_take (10, .getfield 35, 3) (pgm 6 rfl)) ?_
    refine so_bipush (v := (9 : Int32)) X (dkX1_take (13, .bipush 9, 2) (pgm 7 rfl)) bp_9 ?_
    refine so_icmp_le (tgt := 20) X (dkX1_take (15, .if_icmp .le 5, 3) (pgm 8 rfl)) rfl (fun _ => ?_) (fun _ => ?_)
    · refine so_aload_n (i := 0) X 0 (dkX1_take (20, .aload_n 0, 1) (pgm 11 rfl)) rfl rfl ?_
      refine so_aload_n (i := 1) X 1 (dkX1_take (21, .aload_n 1, 1) (pgm 12 rfl)) rfl rfl ?_
      refine sf_getI X ff_10_1 lk_547 hk1 (dkX1_take (22, .getfield 35, 3) (pgm 13 rfl)) ?_
      refine so_iconst (v := (1 : Int32)) X (dkX1_take (25, .iconst 1, 1) (pgm 14 rfl)) ic_1 ?_
      refine so_iadd X (dkX1_take (26, .iadd, 1) (pgm 15 rfl)) ?_
      refine so_iconst (v := (2 : Int32)) X (dkX1_take (27, .iconst 2, 1) (pgm 16 rfl)) ic_2 ?_
      refine so_idiv X (dkX1_take (28, .idiv, 1) (pgm 17 rfl)) (fun _ => ?_)
      refine sf_putI X ff_1_7 ft_1 rfl lk_495 hk rfl rfl (dkX1_take (29, .putfield 41, 3) (pgm 18 rfl)) (fun h2 => ?_)
      refine so_aload_n (i := 0) X 0 (dkX1_take (32, .aload_n 0, 1) (pgm 19 rfl)) rfl rfl ?_
      refine so_iconst (v := (0 : Int32)) X (dkX1_take (33, .iconst 0, 1) (pgm 20 rfl)) ic_0 ?_
      refine sf_putI X ff_1_8 ft_1 rfl lk_496 hk rfl rfl (dkX1_take (34, .putfield 44, 3) (pgm 21 rfl)) (fun h3 => ?_)
      refine so_iconst (v := (0 : Int32)) X (dkX1_take (37, .iconst 0, 1) (pgm 22 rfl)) ic_0 ?_
      refine so_istore_n (i := 2) X (dkX1_take (38, .istore_n 2, 1) (pgm 23 rfl)) rfl (by decide) (Lf := fun x4 => [(2, .int x4), (0, .ref this), (1, .ref a1)]) (fun _ => rfl) (fun x4 => ?_)
      refine so_join (jf := fun (h5 : PH) => zr (0 : Int32) h5) (fun (j : PH → Option (Int32 × PH)) => ∀  (h5 : PH), SWo (QM mkI below args s D cA ad A) p l e (rmd 2) s m args below meth c 0 0 6 D cA ad A 98 [] [] h5 (j h5)) ?_ (fun j98 hj98 => ?_)
      · intro h5
        refine so_iconst (v := (0 : Int32)) X (dkX1_take (98, .iconst 0, 1) (pgm 59 rfl)) ic_0 ?_
        exact so_zret X hr hlk (dkX1_take (99, .ireturn, 1) (pgm 60 rfl))
      refine so_pick (L' := [(0, .ref this), (1, .ref a1), (2, .int x4)]) X [1, 2, 0] rfl ?_
      refine so_loop (body := b_X1_take_39 this a1 j98) (fun (s39 : Int32) => [(0, .ref this), (1, .ref a1), (2, .int s39)]) (fun rec39 hrec39 s39 hh39 => ?_) FU x4 h3
      unfold b_X1_take_39
      refine so_iload_n (i := 2) X 2 (dkX1_take (39, .iload_n 2, 1) (pgm 24 rfl)) rfl rfl ?_
      refine so_aload_n (i := 1) X 1 (dkX1_take (40, .aload_n 1, 1) (pgm 25 rfl)) rfl rfl ?_
      refine sf_getI X ff_10_1 lk_547 hk1 (dkX1_take (41, .getfield 35, 3) (pgm 26 rfl)) ?_
      refine so_icmp_ge (tgt := 133) X (dkX1_take (44, .if_icmp .ge 89, 3) (pgm 27 rfl)) rfl (fun _ => ?_) (fun _ => ?_)
      · refine so_iconst (v := (1 : Int32)) X (dkX1_take (133, .iconst 1, 1) (pgm 81 rfl)) ic_1 ?_
        exact so_zret X hr hlk (dkX1_take (134, .ireturn, 1) (pgm 82 rfl))
      · refine so_aload_n (i := 1) X 1 (dkX1_take (47, .aload_n 1, 1) (pgm 28 rfl)) rfl rfl ?_
        refine sf_getR X ff_10_2 lk_554 hk1 (dkX1_take (48, .getfield 47, 3) (pgm 29 rfl)) ?_
        refine so_iload_n (i := 2) X 2 (dkX1_take (51, .iload_n 2, 1) (pgm 30 rfl)) rfl rfl ?_
        refine so_lald X (rk_10_2 a1 hk1) (dkX1_take (52, .laload, 1) (pgm 31 rfl)) (fun x6 => ?_)
        refine so_lstore_n (i := 3) X (dkX1_take (53, .lstore_n 3, 1) (pgm 32 rfl)) rfl (by decide) (Lf := fun x7 => [(3, .long x7), (0, .ref this), (1, .ref a1), (2, .int s39)]) (fun _ => rfl) (fun x7 => ?_)
        refine so_iload_n (i := 2) X 3 (dkX1_take (54, .iload_n 2, 1) (pgm 33 rfl)) rfl rfl ?_
        refine so_iconst (v := (2 : Int32)) X (dkX1_take (55, .iconst 2, 1) (pgm 34 rfl)) ic_2 ?_
        refine so_irem X (dkX1_take (56, .irem, 1) (pgm 35 rfl)) (fun _ => ?_)
        refine so_iconst (v := (1 : Int32)) X (dkX1_take (57, .iconst 1, 1) (pgm 36 rfl)) ic_1 ?_
        refine so_join (jf := fun (t8 : Int32) (h9 : PH) => lt t8 (fun (x10 : Int32) => if (lg_cmp x7 (0 : Int64)) < 0 then (j98 h9) else (lt (fun (t11 : Int32) (h12 : PH) => if (lg_cmp x7 t11.toInt64) < 0 then (lt (fun (h13 : PH) => lt (s39 + Int32.ofInt 1) (fun (x14 : Int32) => rec39 x14 h13)) (fun (j127 : PH → Option (Int32 × PH)) => if x10 = 0 then (nz (2 : Int32) (cb (f_X1_takePart this (s39 / (2 : Int32)) x7.toInt32 h12) (fun (r15 : Unit) (h16 : PH) => j127 h16))) else (nz (2 : Int32) (stI h12 (rt this 2) 5 (s39 / (2 : Int32)) x7.toInt32 (fun (h17 : PH) => j127 h17))))) else (j98 h12)) (fun (j93 : Int32 → PH → Option (Int32 × PH)) => if x10 = 0 then (j93 ((2 : Int32) * (h9.1 (rt this 0) 7)) h9) else (j93 (2 : Int32) h9))))) (fun (j : Int32 → PH → Option (Int32 × PH)) => ∀ (t8 : Int32) (h9 : PH), SWo (QM mkI below args s D cA ad A) p l e (rmd 2) s m args below meth c 0 0 6 D cA ad A 66 [(0, .ref this), (1, .ref a1), (2, .int s39), (3, .long x7)] [.int t8] h9 (j t8 h9)) ?_ (fun j66 hj66 => ?_)
        · intro t8 h9
          refine so_istore (i := 5) X (dkX1_take (66, .istore 5, 2) (pgm 41 rfl)) (by decide) (Lf := fun x10 => [(5, .int x10), (0, .ref this), (1, .ref a1), (2, .int s39), (3, .long x7)]) (fun _ => rfl) (fun x10 => ?_)
          refine so_lload_n (i := 3) X 4 (dkX1_take (68, .lload_n 3, 1) (pgm 42 rfl)) rfl rfl ?_
          refine so_lconst (v := (0 : Int64)) X (dkX1_take (69, .lconst 0, 1) (pgm 43 rfl)) lc_0 ?_
          refine so_lcmp X (dkX1_take (70, .lcmp, 1) (pgm 44 rfl)) ?_
          refine so_if_lt (tgt := 98) X (dkX1_take (71, .ifCond .lt 27, 3) (pgm 45 rfl)) rfl (fun _ => ?_) (fun _ => ?_)
          · exact so_pick X [] rfl (hj98 h9)
          · refine so_lload_n (i := 3) X 4 (dkX1_take (74, .lload_n 3, 1) (pgm 46 rfl)) rfl rfl ?_
            refine so_iload (i := 5) X 0 (dkX1_take (75, .iload 5, 2) (pgm 47 rfl)) rfl ?_
            refine so_join (jf := fun (t11 : Int32) (h12 : PH) => if (lg_cmp x7 t11.toInt64) < 0 then (lt (fun (h13 : PH) => lt (s39 + Int32.ofInt 1) (fun (x14 : Int32) => rec39 x14 h13)) (fun (j127 : PH → Option (Int32 × PH)) => if x10 = 0 then (nz (2 : Int32) (cb (f_X1_takePart this (s39 / (2 : Int32)) x7.toInt32 h12) (fun (r15 : Unit) (h16 : PH) => j127 h16))) else (nz (2 : Int32) (stI h12 (rt this 2) 5 (s39 / (2 : Int32)) x7.toInt32 (fun (h17 : PH) => j127 h17))))) else (j98 h12)) (fun (j : Int32 → PH → Option (Int32 × PH)) => ∀ (t11 : Int32) (h12 : PH), SWo (QM mkI below args s D cA ad A) p l e (rmd 2) s m args below meth c 0 0 6 D cA ad A 93 [(0, .ref this), (1, .ref a1), (2, .int s39), (3, .long x7), (5, .int x10)] [.int t11, .long x7] h12 (j t11 h12)) ?_ (fun j93 hj93 => ?_)
            · intro t11 h12
              refine so_i2l X (dkX1_take (93, .i2l, 1) (pgm 56 rfl)) ?_
              refine so_lcmp X (dkX1_take (94, .lcmp, 1) (pgm 57 rfl)) ?_
              refine so_if_lt (tgt := 100) X (dkX1_take (95, .ifCond .lt 5, 3) (pgm 58 rfl)) rfl (fun _ => ?_) (fun _ => ?_)
              · refine so_iload (i := 5) X 4 (dkX1_take (100, .iload 5, 2) (pgm 61 rfl)) rfl ?_
                refine so_join (jf := fun (h13 : PH) => lt (s39 + Int32.ofInt 1) (fun (x14 : Int32) => rec39 x14 h13)) (fun (j : PH → Option (Int32 × PH)) => ∀  (h13 : PH), SWo (QM mkI below args s D cA ad A) p l e (rmd 2) s m args below meth c 0 0 6 D cA ad A 127 [(0, .ref this), (1, .ref a1), (2, .int s39)] [] h13 (j h13)) ?_ (fun j127 hj127 => ?_)
                · intro h13
                  refine so_iinc (i := 2) X 2 (dkX1_take (127, .iinc 2 1, 3) (pgm 79 rfl)) rfl rfl (by decide) (Lf := fun x14 => [(2, .int x14), (0, .ref this), (1, .ref a1)]) (fun _ => rfl) (fun x14 => ?_)
                  refine so_goto (tgt := 39) X (dkX1_take (130, .goto (-91), 3) (pgm 80 rfl)) rfl ?_
                  exact so_pick X [1, 2, 0] rfl (hrec39 x14 h13)
                refine so_if_eq (tgt := 118) X (dkX1_take (102, .ifCond .eq 16, 3) (pgm 62 rfl)) rfl (fun _ => ?_) (fun _ => ?_)
                · refine so_aload_n (i := 0) X 0 (dkX1_take (118, .aload_n 0, 1) (pgm 72 rfl)) rfl rfl ?_
                  refine so_iload_n (i := 2) X 2 (dkX1_take (119, .iload_n 2, 1) (pgm 73 rfl)) rfl rfl ?_
                  refine so_iconst (v := (2 : Int32)) X (dkX1_take (120, .iconst 2, 1) (pgm 74 rfl)) ic_2 ?_
                  refine so_idiv X (dkX1_take (121, .idiv, 1) (pgm 75 rfl)) (fun _ => ?_)
                  refine so_lload_n (i := 3) X 3 (dkX1_take (122, .lload_n 3, 1) (pgm 76 rfl)) rfl rfl ?_
                  refine so_l2i X (dkX1_take (123, .l2i, 1) (pgm 77 rfl)) ?_
                  refine so_callV (n := 2) (As := [.int (s39 / (2 : Int32)), .int x7.toInt32]) X (ct_X1_takePart l this (s39 / (2 : Int32)) x7.toInt32 h12 hk) hk (by decide) rfl lk_1420 lk_1422 lk_46 lk_131 lk_1423 (by decide +kernel) rfl rfl rfl (rm_ok (by omega) (by decide)) ⟨Nat.zero_le _, Nat.zero_le _⟩ (Nat.le_of_ble_eq_true rfl) (dkX1_take (124, .invokevirtual 56, 3) (pgm 78 rfl)) (fun r15 h16 => ?_) rfl
                  exact so_pick X [0, 1, 2] rfl (hj127 h16)
                · refine so_aload_n (i := 0) X 0 (dkX1_take (105, .aload_n 0, 1) (pgm 63 rfl)) rfl rfl ?_
                  refine sf_getR X ff_1_2 lk_490 hk (dkX1_take (106, .getfield 9, 3) (pgm 64 rfl)) ?_
                  refine so_iload_n (i := 2) X 2 (dkX1_take (109, .iload_n 2, 1) (pgm 65 rfl)) rfl rfl ?_
                  refine so_iconst (v := (2 : Int32)) X (dkX1_take (110, .iconst 2, 1) (pgm 66 rfl)) ic_2 ?_
                  refine so_idiv X (dkX1_take (111, .idiv, 1) (pgm 67 rfl)) (fun _ => ?_)
                  refine so_lload_n (i := 3) X 3 (dkX1_take (112, .lload_n 3, 1) (pgm 68 rfl)) rfl rfl ?_
                  refine so_l2i X (dkX1_take (113, .l2i, 1) (pgm 69 rfl)) ?_
                  refine so_iast X (rk_1_2 this hk) (dkX1_take (114, .iastore, 1) (pgm 70 rfl)) (fun h17 => ?_)
                  refine so_goto (tgt := 127) X (dkX1_take (115, .goto 12, 3) (pgm 71 rfl)) rfl ?_
                  exact so_pick X [0, 1, 2] rfl (hj127 h17)
              · exact so_pick X [] rfl (hj98 h12)
            refine so_if_eq (tgt := 84) X (dkX1_take (77, .ifCond .eq 7, 3) (pgm 48 rfl)) rfl (fun _ => ?_) (fun _ => ?_)
            · refine so_iconst (v := (2 : Int32)) X (dkX1_take (84, .iconst 2, 1) (pgm 51 rfl)) ic_2 ?_
              refine so_aload_n (i := 0) X 1 (dkX1_take (85, .aload_n 0, 1) (pgm 52 rfl)) rfl rfl ?_
              refine sf_getR X ff_1_0 lk_488 hk (dkX1_take (86, .getfield 27, 3) (pgm 53 rfl)) ?_
              refine sf_getI X ff_8_7 lk_193 (fo (rk_1_0 this hk)) (dkX1_take (89, .getfield 51, 3) (pgm 54 rfl)) ?_
              refine so_imul X (dkX1_take (92, .imul, 1) (pgm 55 rfl)) ?_
              exact so_pick X [1, 2, 3, 4, 0] rfl (hj93 ((2 : Int32) * (h9.1 (rt this 0) 7)) h9)
            · refine so_iconst (v := (2 : Int32)) X (dkX1_take (80, .iconst 2, 1) (pgm 49 rfl)) ic_2 ?_
              refine so_goto (tgt := 93) X (dkX1_take (81, .goto 12, 3) (pgm 50 rfl)) rfl ?_
              exact so_pick X [1, 2, 3, 4, 0] rfl (hj93 (2 : Int32) h9)
        refine so_icmp_ne (tgt := 65) X (dkX1_take (58, .if_icmp .ne 7, 3) (pgm 37 rfl)) rfl (fun _ => ?_) (fun _ => ?_)
        · refine so_iconst (v := (0 : Int32)) X (dkX1_take (65, .iconst 0, 1) (pgm 40 rfl)) ic_0 ?_
          exact so_pick X [1, 2, 3, 0] rfl (hj66 (0 : Int32) hh39)
        · refine so_iconst (v := (1 : Int32)) X (dkX1_take (61, .iconst 1, 1) (pgm 38 rfl)) ic_1 ?_
          refine so_goto (tgt := 66) X (dkX1_take (62, .goto 4, 3) (pgm 39 rfl)) rfl ?_
          exact so_pick X [1, 2, 3, 0] rfl (hj66 (1 : Int32) hh39)
    · exact so_pick X [] rfl (hj18 h0)
def pgX1_heldIn : List (Nat × Instr × Nat) := [(0, .aload_n 0, 1), (1, .invokevirtual 76, 3), (4, .aload_n 0, 1), (5, .iconst 0, 1), (6, .invokevirtual 79, 3), (9, .istore_n 2, 1), (10, .iconst 1, 1), (11, .istore_n 3, 1), (12, .iload_n 3, 1), (13, .aload_n 0, 1), (14, .invokevirtual 68, 3), (17, .if_icmp .ge 36, 3), (20, .aload_n 0, 1), (21, .iload_n 3, 1), (22, .invokevirtual 79, 3), (25, .istore 4, 2), (27, .iload_n 1, 1), (28, .ifCond .eq 12, 3), (31, .iload_n 2, 1), (32, .iload 4, 2), (34, .invokestatic 82, 3), (37, .goto 9, 3), (40, .iload_n 2, 1), (41, .iload 4, 2), (43, .invokestatic 88, 3), (46, .istore_n 2, 1), (47, .iinc 3 1, 3), (50, .goto (-38), 3), (53, .iload_n 2, 1), (54, .ireturn, 1)]
theorem dkX1_heldIn : ∀ q ∈ pgX1_heldIn, decode cX1_heldIn q.1 = .ok q.2 := by decide +kernel
def b_X1_heldIn_12 (this : Nat) (a1 : Int32) (rec12 : (Int32 × Int32) → PH → Option (Int32 × PH)) (s12 : Int32 × Int32) (hh12 : PH) : Option (Int32 × PH) :=
  cb (f_X1_all this hh12) (fun (r7 : Int32) (h8 : PH) => if r7 ≤ s12.2 then (some (s12.1, h8)) else (cb (f_X1_plansOf this s12.2 h8) (fun (r9 : Int32) (h10 : PH) => lt r9 (fun (x11 : Int32) => lt (fun (t12 : Int32) (h13 : PH) => lt t12 (fun (x14 : Int32) => lt (s12.2 + Int32.ofInt 1) (fun (x15 : Int32) => rec12 (x14, x15) h13))) (fun (j46 : Int32 → PH → Option (Int32 × PH)) => if a1 = 0 then (j46 (if x11 < s12.1 then x11 else s12.1) h10) else (j46 (if s12.1 < x11 then x11 else s12.1) h10))))))
def f_X1_heldIn (this : Nat) (a1 : Int32) (h0 : PH) : Option (Int32 × PH) :=
  cb (f_X1_sortPlans this h0) (fun (r1 : Unit) (h2 : PH) => cb (f_X1_plansOf this (0 : Int32) h2) (fun (r3 : Int32) (h4 : PH) => lt r3 (fun (x5 : Int32) => lt (1 : Int32) (fun (x6 : Int32) => lp (b_X1_heldIn_12 this a1) FU (x5, x6) h4))))
set_option maxRecDepth 100000 in
set_option maxHeartbeats 4000000 in
theorem ct_X1_heldIn (l : Launch) (this : Nat) (a1 : Int32) (h0 : PH) (hk : (kd this).1 = 1) : CT mkI l yX1_heldIn cX1_heldIn 5 (some .int) (rmd 2) [.ref this, .int a1] h0 (f_X1_heldIn this a1 h0) := by
  refine ct_of (by decide) (Nat.le_of_ble_eq_true rfl) ?_
  intro p e s m args below meth c D cA ad A X hr hlk
  have X : Cx p s m args c RX1 cX1_heldIn 5 D cA ad A := X
  unfold f_X1_heldIn
  refine so_pick (L' := [(0, .ref this), (1, .int a1)]) X [0, 1] rfl ?_
  refine so_aload_n (i := 0) X 0 (dkX1_heldIn (0, .aload_n 0, 1) (pgm 0 rfl)) rfl rfl ?_
  refine so_callV (n := 0) (As := []) X (ct_X1_sortPlans l this h0 hk) hk (by decide) rfl lk_1454 lk_1456 lk_50 lk_131 lk_1457 (by decide +kernel) rfl rfl rfl (rm_ok (by omega) (by decide)) ⟨Nat.zero_le _, Nat.zero_le _⟩ (Nat.le_of_ble_eq_true rfl) (dkX1_heldIn (1, .invokevirtual 76, 3) (pgm 1 rfl)) (fun r1 h2 => ?_) rfl
  refine so_aload_n (i := 0) X 0 (dkX1_heldIn (4, .aload_n 0, 1) (pgm 2 rfl)) rfl rfl ?_
  refine so_iconst (v := (0 : Int32)) X (dkX1_heldIn (5, .iconst 0, 1) (pgm 3 rfl)) ic_0 ?_
  refine so_callV (n := 1) (As := [.int (0 : Int32)]) X (ct_X1_plansOf l this (0 : Int32) h2 hk) hk (by decide) rfl lk_1460 lk_1462 lk_51 lk_131 lk_1463 (by decide +kernel) rfl rfl rfl (rm_ok (by omega) (by decide)) ⟨Nat.zero_le _, Nat.zero_le _⟩ (Nat.le_of_ble_eq_true rfl) (dkX1_heldIn (6, .invokevirtual 79, 3) (pgm 4 rfl)) (fun r3 h4 => ?_) rfl
  refine so_istore_n (i := 2) X (dkX1_heldIn (9, .istore_n 2, 1) (pgm 5 rfl)) rfl (by decide) (Lf := fun x5 => [(2, .int x5), (0, .ref this), (1, .int a1)]) (fun _ => rfl) (fun x5 => ?_)
  refine so_iconst (v := (1 : Int32)) X (dkX1_heldIn (10, .iconst 1, 1) (pgm 6 rfl)) ic_1 ?_
  refine so_istore_n (i := 3) X (dkX1_heldIn (11, .istore_n 3, 1) (pgm 7 rfl)) rfl (by decide) (Lf := fun x6 => [(3, .int x6), (2, .int x5), (0, .ref this), (1, .int a1)]) (fun _ => rfl) (fun x6 => ?_)
  refine so_pick (L' := [(0, .ref this), (1, .int a1), (2, .int x5), (3, .int x6)]) X [2, 3, 1, 0] rfl ?_
  refine so_loop (body := b_X1_heldIn_12 this a1) (fun (s12 : Int32 × Int32) => [(0, .ref this), (1, .int a1), (2, .int s12.1), (3, .int s12.2)]) (fun rec12 hrec12 s12 hh12 => ?_) FU (x5, x6) h4
  unfold b_X1_heldIn_12
  refine so_iload_n (i := 3) X 3 (dkX1_heldIn (12, .iload_n 3, 1) (pgm 8 rfl)) rfl rfl ?_
  refine so_aload_n (i := 0) X 0 (dkX1_heldIn (13, .aload_n 0, 1) (pgm 9 rfl)) rfl rfl ?_
  refine so_callV (n := 0) (As := []) X (ct_X1_all l this hh12 hk) hk (by decide) rfl lk_1445 lk_1438 lk_1439 lk_131 lk_1440 (by decide +kernel) rfl rfl rfl (rm_ok (by omega) (by decide)) ⟨Nat.zero_le _, Nat.zero_le _⟩ (Nat.le_of_ble_eq_true rfl) (dkX1_heldIn (14, .invokevirtual 68, 3) (pgm 10 rfl)) (fun r7 h8 => ?_) rfl
  refine so_icmp_ge (tgt := 53) X (dkX1_heldIn (17, .if_icmp .ge 36, 3) (pgm 11 rfl)) rfl (fun _ => ?_) (fun _ => ?_)
  · refine so_iload_n (i := 2) X 2 (dkX1_heldIn (53, .iload_n 2, 1) (pgm 28 rfl)) rfl rfl ?_
    exact so_iret X hr hlk (dkX1_heldIn (54, .ireturn, 1) (pgm 29 rfl))
  · refine so_aload_n (i := 0) X 0 (dkX1_heldIn (20, .aload_n 0, 1) (pgm 12 rfl)) rfl rfl ?_
    refine so_iload_n (i := 3) X 3 (dkX1_heldIn (21, .iload_n 3, 1) (pgm 13 rfl)) rfl rfl ?_
    refine so_callV (n := 1) (As := [.int s12.2]) X (ct_X1_plansOf l this s12.2 h8 hk) hk (by decide) rfl lk_1460 lk_1462 lk_51 lk_131 lk_1463 (by decide +kernel) rfl rfl rfl (rm_ok (by omega) (by decide)) ⟨Nat.zero_le _, Nat.zero_le _⟩ (Nat.le_of_ble_eq_true rfl) (dkX1_heldIn (22, .invokevirtual 79, 3) (pgm 14 rfl)) (fun r9 h10 => ?_) rfl
    refine so_istore (i := 4) X (dkX1_heldIn (25, .istore 4, 2) (pgm 15 rfl)) (by decide) (Lf := fun x11 => [(4, .int x11), (0, .ref this), (1, .int a1), (2, .int s12.1), (3, .int s12.2)]) (fun _ => rfl) (fun x11 => ?_)
    refine so_iload_n (i := 1) X 2 (dkX1_heldIn (27, .iload_n 1, 1) (pgm 16 rfl)) rfl rfl ?_
    refine so_join (jf := fun (t12 : Int32) (h13 : PH) => lt t12 (fun (x14 : Int32) => lt (s12.2 + Int32.ofInt 1) (fun (x15 : Int32) => rec12 (x14, x15) h13))) (fun (j : Int32 → PH → Option (Int32 × PH)) => ∀ (t12 : Int32) (h13 : PH), SWo (QM mkI below args s D cA ad A) p l e (rmd 2) s m args below meth c 0 0 5 D cA ad A 46 [(0, .ref this), (1, .int a1), (3, .int s12.2)] [.int t12] h13 (j t12 h13)) ?_ (fun j46 hj46 => ?_)
    · intro t12 h13
      refine so_istore_n (i := 2) X (dkX1_heldIn (46, .istore_n 2, 1) (pgm 25 rfl)) rfl (by decide) (Lf := fun x14 => [(2, .int x14), (0, .ref this), (1, .int a1), (3, .int s12.2)]) (fun _ => rfl) (fun x14 => ?_)
      refine so_iinc (i := 3) X 3 (dkX1_heldIn (47, .iinc 3 1, 3) (pgm 26 rfl)) rfl rfl (by decide) (Lf := fun x15 => [(3, .int x15), (2, .int x14), (0, .ref this), (1, .int a1)]) (fun _ => rfl) (fun x15 => ?_)
      refine so_goto (tgt := 12) X (dkX1_heldIn (50, .goto (-38), 3) (pgm 27 rfl)) rfl ?_
      exact so_pick X [2, 3, 1, 0] rfl (hrec12 (x14, x15) h13)
    refine so_if_eq (tgt := 40) X (dkX1_heldIn (28, .ifCond .eq 12, 3) (pgm 17 rfl)) rfl (fun _ => ?_) (fun _ => ?_)
    · refine so_iload_n (i := 2) X 3 (dkX1_heldIn (40, .iload_n 2, 1) (pgm 22 rfl)) rfl rfl ?_
      refine so_iload (i := 4) X 0 (dkX1_heldIn (41, .iload 4, 2) (pgm 23 rfl)) rfl ?_
      refine so_mmin X lk_1465 lk_904 lk_135 lk_905 (Nat.le_of_ble_eq_true rfl) (Nat.le_of_ble_eq_true rfl) ⟨Nat.zero_le _, Nat.zero_le _⟩ (dkX1_heldIn (43, .invokestatic 88, 3) (pgm 24 rfl)) ?_
      exact so_pick X [1, 2, 4] rfl (hj46 (if x11 < s12.1 then x11 else s12.1) h10)
    · refine so_iload_n (i := 2) X 3 (dkX1_heldIn (31, .iload_n 2, 1) (pgm 18 rfl)) rfl rfl ?_
      refine so_iload (i := 4) X 0 (dkX1_heldIn (32, .iload 4, 2) (pgm 19 rfl)) rfl ?_
      refine so_mmax X lk_1464 lk_901 lk_135 lk_902 (Nat.le_of_ble_eq_true rfl) (Nat.le_of_ble_eq_true rfl) ⟨Nat.zero_le _, Nat.zero_le _⟩ (dkX1_heldIn (34, .invokestatic 82, 3) (pgm 20 rfl)) ?_
      refine so_goto (tgt := 46) X (dkX1_heldIn (37, .goto 9, 3) (pgm 21 rfl)) rfl ?_
      exact so_pick X [1, 2, 4] rfl (hj46 (if s12.1 < x11 then x11 else s12.1) h10)
def pgX3_at : List (Nat × Instr × Nat) := [(0, .aload_n 0, 1), (1, .getfield 9, 3), (4, .iload_n 1, 1), (5, .iaload, 1), (6, .iconst (-1), 1), (7, .if_icmp .ne 42, 3), (10, .iconst 0, 1), (11, .istore_n 2, 1), (12, .iconst 0, 1), (13, .istore_n 3, 1), (14, .iload_n 3, 1), (15, .aload_n 0, 1), (16, .getfield 18, 3), (19, .getfield 28, 3), (22, .if_icmp .ge 20, 3), (25, .iload_n 2, 1), (26, .aload_n 0, 1), (27, .iload_n 3, 1), (28, .iload_n 1, 1), (29, .invokevirtual 34, 3), (32, .iload_n 3, 1), (33, .ishl, 1), (34, .ior, 1), (35, .istore_n 2, 1), (36, .iinc 3 1, 3), (39, .goto (-25), 3), (42, .aload_n 0, 1), (43, .getfield 9, 3), (46, .iload_n 1, 1), (47, .iload_n 2, 1), (48, .iastore, 1), (49, .aload_n 0, 1), (50, .getfield 9, 3), (53, .iload_n 1, 1), (54, .iaload, 1), (55, .ireturn, 1)]
theorem dkX3_at : ∀ q ∈ pgX3_at, decode cX3_at q.1 = .ok q.2 := by decide +kernel
def b_X3_at_14 (this : Nat) (a1 : Int32) (j42 : Int32 → PH → Option (Int32 × PH)) (rec14 : (Int32 × Int32) → PH → Option (Int32 × PH)) (s14 : Int32 × Int32) (hh14 : PH) : Option (Int32 × PH) :=
  if (hh14.1 (rt this 0) 5) ≤ s14.2 then (j42 s14.1 hh14) else (cb (f_X3_truthOf this s14.2 a1 hh14) (fun (r9 : Int32) (h10 : PH) => lt (s14.1 ||| (r9 <<< (s14.2 &&& 31))) (fun (x11 : Int32) => lt (s14.2 + Int32.ofInt 1) (fun (x12 : Int32) => rec14 (x11, x12) h10))))
def f_X3_at (this : Nat) (a1 : Int32) (h0 : PH) : Option (Int32 × PH) :=
  ldI h0 (rt this 1) 4096 a1 (fun (x1 : Int32) => lt (fun (h2 : PH) => ldI h2 (rt this 1) 4096 a1 (fun (x3 : Int32) => some (x3, h2))) (fun (j49 : PH → Option (Int32 × PH)) => if x1 = (-1 : Int32) then (lt (0 : Int32) (fun (x4 : Int32) => lt (0 : Int32) (fun (x5 : Int32) => lt (fun (y6 : Int32) (h7 : PH) => stI h7 (rt this 1) 4096 a1 y6 (fun (h8 : PH) => j49 h8)) (fun (j42 : Int32 → PH → Option (Int32 × PH)) => lp (b_X3_at_14 this a1 j42) FU (x4, x5) h0)))) else (j49 h0)))
set_option maxRecDepth 100000 in
set_option maxHeartbeats 4000000 in
theorem ct_X3_at (l : Launch) (this : Nat) (a1 : Int32) (h0 : PH) (hk : (kd this).1 = 3) : CT mkI l yX3_at cX3_at 4 (some .int) (rmd 2) [.ref this, .int a1] h0 (f_X3_at this a1 h0) := by
  refine ct_of (by decide) (Nat.le_of_ble_eq_true rfl) ?_
  intro p e s m args below meth c D cA ad A X hr hlk
  have X : Cx p s m args c RX3 cX3_at 4 D cA ad A := X
  unfold f_X3_at
  refine so_pick (L' := [(0, .ref this), (1, .int a1)]) X [0, 1] rfl ?_
  refine so_aload_n (i := 0) X 0 (dkX3_at (0, .aload_n 0, 1) (pgm 0 rfl)) rfl rfl ?_
  refine sf_getR X ff_3_1 lk_371 hk (dkX3_at (1, .getfield 9, 3) (pgm 1 rfl)) ?_
  refine so_iload_n (i := 1) X 1 (dkX3_at (4, .iload_n 1, 1) (pgm 2 rfl)) rfl rfl ?_
  refine so_iald X (rk_3_1 this hk) (dkX3_at (5, .iaload, 1) (pgm 3 rfl)) (fun x1 => ?_)
  refine so_iconst (v := (-1 : Int32)) X (dkX3_at (6, .iconst (-1), 1) (pgm 4 rfl)) ic_m1 ?_
  refine so_join (jf := fun (h2 : PH) => ldI h2 (rt this 1) 4096 a1 (fun (x3 : Int32) => some (x3, h2))) (fun (j : PH → Option (Int32 × PH)) => ∀  (h2 : PH), SWo (QM mkI below args s D cA ad A) p l e (rmd 2) s m args below meth c 0 0 4 D cA ad A 49 [(0, .ref this), (1, .int a1)] [] h2 (j h2)) ?_ (fun j49 hj49 => ?_)
  · intro h2
    refine so_aload_n (i := 0) X 0 (dkX3_at (49, .aload_n 0, 1) (pgm 31 rfl)) rfl rfl ?_
    refine sf_getR X ff_3_1 lk_371 hk (dkX3_at (50, .getfield 9, 3) (pgm 32 rfl)) ?_
    refine so_iload_n (i := 1) X 1 (dkX3_at (53, .iload_n 1, 1) (pgm 33 rfl)) rfl rfl ?_
    refine so_iald X (rk_3_1 this hk) (dkX3_at (54, .iaload, 1) (pgm 34 rfl)) (fun x3 => ?_)
    exact so_iret X hr hlk (dkX3_at (55, .ireturn, 1) (pgm 35 rfl))
  refine so_icmp_ne (tgt := 49) X (dkX3_at (7, .if_icmp .ne 42, 3) (pgm 5 rfl)) rfl (fun _ => ?_) (fun _ => ?_)
  · exact so_pick X [0, 1] rfl (hj49 h0)
  · refine so_iconst (v := (0 : Int32)) X (dkX3_at (10, .iconst 0, 1) (pgm 6 rfl)) ic_0 ?_
    refine so_istore_n (i := 2) X (dkX3_at (11, .istore_n 2, 1) (pgm 7 rfl)) rfl (by decide) (Lf := fun x4 => [(2, .int x4), (0, .ref this), (1, .int a1)]) (fun _ => rfl) (fun x4 => ?_)
    refine so_iconst (v := (0 : Int32)) X (dkX3_at (12, .iconst 0, 1) (pgm 8 rfl)) ic_0 ?_
    refine so_istore_n (i := 3) X (dkX3_at (13, .istore_n 3, 1) (pgm 9 rfl)) rfl (by decide) (Lf := fun x5 => [(3, .int x5), (2, .int x4), (0, .ref this), (1, .int a1)]) (fun _ => rfl) (fun x5 => ?_)
    refine so_join (jf := fun (y6 : Int32) (h7 : PH) => stI h7 (rt this 1) 4096 a1 y6 (fun (h8 : PH) => j49 h8)) (fun (j : Int32 → PH → Option (Int32 × PH)) => ∀ (y6 : Int32) (h7 : PH), SWo (QM mkI below args s D cA ad A) p l e (rmd 2) s m args below meth c 0 0 4 D cA ad A 42 [(0, .ref this), (1, .int a1), (2, .int y6)] [] h7 (j y6 h7)) ?_ (fun j42 hj42 => ?_)
    · intro y6 h7
      refine so_aload_n (i := 0) X 0 (dkX3_at (42, .aload_n 0, 1) (pgm 26 rfl)) rfl rfl ?_
      refine sf_getR X ff_3_1 lk_371 hk (dkX3_at (43, .getfield 9, 3) (pgm 27 rfl)) ?_
      refine so_iload_n (i := 1) X 1 (dkX3_at (46, .iload_n 1, 1) (pgm 28 rfl)) rfl rfl ?_
      refine so_iload_n (i := 2) X 2 (dkX3_at (47, .iload_n 2, 1) (pgm 29 rfl)) rfl rfl ?_
      refine so_iast X (rk_3_1 this hk) (dkX3_at (48, .iastore, 1) (pgm 30 rfl)) (fun h8 => ?_)
      exact so_pick X [0, 1] rfl (hj49 h8)
    refine so_pick (L' := [(0, .ref this), (1, .int a1), (2, .int x4), (3, .int x5)]) X [2, 3, 1, 0] rfl ?_
    refine so_loop (body := b_X3_at_14 this a1 j42) (fun (s14 : Int32 × Int32) => [(0, .ref this), (1, .int a1), (2, .int s14.1), (3, .int s14.2)]) (fun rec14 hrec14 s14 hh14 => ?_) FU (x4, x5) h0
    unfold b_X3_at_14
    refine so_iload_n (i := 3) X 3 (dkX3_at (14, .iload_n 3, 1) (pgm 10 rfl)) rfl rfl ?_
    refine so_aload_n (i := 0) X 0 (dkX3_at (15, .aload_n 0, 1) (pgm 11 rfl)) rfl rfl ?_
    refine sf_getR X ff_3_0 lk_370 hk (dkX3_at (16, .getfield 18, 3) (pgm 12 rfl)) ?_
    refine sf_getI X ff_8_5 lk_181 (fo (rk_3_0 this hk)) (dkX3_at (19, .getfield 28, 3) (pgm 13 rfl)) ?_
    refine so_icmp_ge (tgt := 42) X (dkX3_at (22, .if_icmp .ge 20, 3) (pgm 14 rfl)) rfl (fun _ => ?_) (fun _ => ?_)
    · exact so_pick X [0, 1, 2] rfl (hj42 s14.1 hh14)
    · refine so_iload_n (i := 2) X 2 (dkX3_at (25, .iload_n 2, 1) (pgm 15 rfl)) rfl rfl ?_
      refine so_aload_n (i := 0) X 0 (dkX3_at (26, .aload_n 0, 1) (pgm 16 rfl)) rfl rfl ?_
      refine so_iload_n (i := 3) X 3 (dkX3_at (27, .iload_n 3, 1) (pgm 17 rfl)) rfl rfl ?_
      refine so_iload_n (i := 1) X 1 (dkX3_at (28, .iload_n 1, 1) (pgm 18 rfl)) rfl rfl ?_
      refine so_callV (n := 2) (As := [.int s14.2, .int a1]) X (ct_X3_truthOf l this s14.2 a1 hh14 hk) hk (by decide) rfl lk_648 lk_650 lk_1 lk_126 lk_651 (by decide +kernel) rfl rfl rfl (rm_ok (by omega) (by decide)) ⟨Nat.zero_le _, Nat.zero_le _⟩ (Nat.le_of_ble_eq_true rfl) (dkX3_at (29, .invokevirtual 34, 3) (pgm 19 rfl)) (fun r9 h10 => ?_) rfl
      refine so_iload_n (i := 3) X 3 (dkX3_at (32, .iload_n 3, 1) (pgm 20 rfl)) rfl rfl ?_
      refine so_ishl X (dkX3_at (33, .ishl, 1) (pgm 21 rfl)) ?_
      refine so_ior X (dkX3_at (34, .ior, 1) (pgm 22 rfl)) ?_
      refine so_istore_n (i := 2) X (dkX3_at (35, .istore_n 2, 1) (pgm 23 rfl)) rfl (by decide) (Lf := fun x11 => [(2, .int x11), (0, .ref this), (1, .int a1), (3, .int s14.2)]) (fun _ => rfl) (fun x11 => ?_)
      refine so_iinc (i := 3) X 3 (dkX3_at (36, .iinc 3 1, 3) (pgm 24 rfl)) rfl rfl (by decide) (Lf := fun x12 => [(3, .int x12), (2, .int x11), (0, .ref this), (1, .int a1)]) (fun _ => rfl) (fun x12 => ?_)
      refine so_goto (tgt := 14) X (dkX3_at (39, .goto (-25), 3) (pgm 25 rfl)) rfl ?_
      exact so_pick X [2, 3, 1, 0] rfl (hrec14 (x11, x12) h10)

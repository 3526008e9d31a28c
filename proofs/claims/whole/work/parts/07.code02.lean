def pgX12_manyOf : List (Nat × Instr × Nat) := [(0, .iconst 0, 1), (1, .istore_n 3, 1), (2, .iconst 0, 1), (3, .istore 4, 2), (5, .iload 4, 2), (7, .aload_n 0, 1), (8, .getfield 9, 3), (11, .iconst 5, 1), (12, .iaload, 1), (13, .if_icmp .ge 48, 3), (16, .iload_n 3, 1), (17, .iload_n 2, 1), (18, .iload 4, 2), (20, .invokestatic 279, 3), (23, .ifCond .eq 29, 3), (26, .aload_n 0, 1), (27, .getfield 9, 3), (30, .bipush 24, 2), (32, .iload 4, 2), (34, .iadd, 1), (35, .iaload, 1), (36, .aload_n 0, 1), (37, .getfield 9, 3), (40, .bipush 24, 2), (42, .iload_n 1, 1), (43, .iadd, 1), (44, .iaload, 1), (45, .if_icmp .ne 7, 3), (48, .iconst 1, 1), (49, .goto 4, 3), (52, .iconst 0, 1), (53, .iadd, 1), (54, .istore_n 3, 1), (55, .iinc 4 1, 3), (58, .goto (-53), 3), (61, .iload_n 3, 1), (62, .ireturn, 1)]
theorem dkX12_manyOf : ∀ q ∈ pgX12_manyOf, decode cX12_manyOf q.1 = .ok q.2 := by decide +kernel
def b_X12_manyOf_5 (this : Nat) (a1 : Int32) (a2 : Int32) (rec5 : (Int32 × Int32) → PH → Option (Int32 × PH)) (s5 : Int32 × Int32) (hh5 : PH) : Option (Int32 × PH) :=
  ldI hh5 (rt this 0) 1200 (5 : Int32) (fun (x3 : Int32) => if x3 ≤ s5.2 then (some (s5.1, hh5)) else (cb (f_X12_has a2 s5.2 hh5) (fun (r4 : Int32) (h5 : PH) => lt (fun (t6 : Int32) (h7 : PH) => lt (s5.1 + t6) (fun (x8 : Int32) => lt (s5.2 + Int32.ofInt 1) (fun (x9 : Int32) => rec5 (x8, x9) h7))) (fun (j53 : Int32 → PH → Option (Int32 × PH)) => lt (fun (h10 : PH) => j53 (0 : Int32) h10) (fun (j52 : PH → Option (Int32 × PH)) => if r4 = 0 then (j52 h5) else (ldI h5 (rt this 0) 1200 ((24 : Int32) + s5.2) (fun (x11 : Int32) => ldI h5 (rt this 0) 1200 ((24 : Int32) + a1) (fun (x12 : Int32) => if x11 = x12 then (j53 (1 : Int32) h5) else (j52 h5)))))))))
def f_X12_manyOf (this : Nat) (a1 : Int32) (a2 : Int32) (h0 : PH) : Option (Int32 × PH) :=
  lt (0 : Int32) (fun (x1 : Int32) => lt (0 : Int32) (fun (x2 : Int32) => lp (b_X12_manyOf_5 this a1 a2) FU (x1, x2) h0))
set_option maxRecDepth 100000 in
set_option maxHeartbeats 4000000 in
theorem ct_X12_manyOf (l : Launch) (this : Nat) (a1 : Int32) (a2 : Int32) (h0 : PH) (hk : (kd this).1 = 12) : CT mkI l yX12_manyOf cX12_manyOf 5 (some .int) (rmd 1) [.ref this, .int a1, .int a2] h0 (f_X12_manyOf this a1 a2 h0) := by
  refine ct_of (by decide) (Nat.le_of_ble_eq_true rfl) ?_
  intro p e s m args below meth c D cA ad A X hr hlk
  have X : Cx p s m args c RX12 cX12_manyOf 5 D cA ad A := X
  unfold f_X12_manyOf
  refine so_pick (L' := [(0, .ref this), (1, .int a1), (2, .int a2)]) X [0, 1, 2] rfl ?_
  refine so_iconst (v := (0 : Int32)) X (dkX12_manyOf (0, .iconst 0, 1) (pgm 0 rfl)) ic_0 ?_
  refine so_istore_n (i := 3) X (dkX12_manyOf (1, .istore_n 3, 1) (pgm 1 rfl)) rfl (by decide) (Lf := fun x1 => [(3, .int x1), (0, .ref this), (1, .int a1), (2, .int a2)]) (fun _ => rfl) (fun x1 => ?_)
  refine so_iconst (v := (0 : Int32)) X (dkX12_manyOf (2, .iconst 0, 1) (pgm 2 rfl)) ic_0 ?_
  refine so_istore (i := 4) X (dkX12_manyOf (3, .istore 4, 2) (pgm 3 rfl)) (by decide) (Lf := fun x2 => [(4, .int x2), (3, .int x1), (0, .ref this), (1, .int a1), (2, .int a2)]) (fun _ => rfl) (fun x2 => ?_)
  refine so_pick (L' := [(0, .ref this), (1, .int a1), (2, .int a2), (3, .int x1), (4, .int x2)]) X [2, 3, 4, 1, 0] rfl ?_
  refine so_loop (body := b_X12_manyOf_5 this a1 a2) (fun (s5 : Int32 × Int32) => [(0, .ref this), (1, .int a1), (2, .int a2), (3, .int s5.1), (4, .int s5.2)]) (fun rec5 hrec5 s5 hh5 => ?_) FU (x1, x2) h0
  unfold b_X12_manyOf_5
  refine so_iload (i := 4) X 4 (dkX12_manyOf (5, .iload 4, 2) (pgm 4 rfl)) rfl ?_
  refine so_aload_n (i := 0) X 0 (dkX12_manyOf (7, .aload_n 0, 1) (pgm 5 rfl)) rfl rfl ?_
  refine sf_getR X ff_12_0 lk_1702 hk (dkX12_manyOf (8, .getfield 9, 3) (pgm 6 rfl)) ?_
  refine so_iconst (v := (5 : Int32)) X (dkX12_manyOf (11, .iconst 5, 1) (pgm 7 rfl)) ic_5 ?_
  refine so_iald X (rk_12_0 this hk) (dkX12_manyOf (12, .iaload, 1) (pgm 8 rfl)) (fun x3 => ?_)
  refine so_icmp_ge (tgt := 61) X (dkX12_manyOf (13, .if_icmp .ge 48, 3) (pgm 9 rfl)) rfl (fun _ => ?_) (fun _ => ?_)
  · refine so_iload_n (i := 3) X 3 (dkX12_manyOf (61, .iload_n 3, 1) (pgm 35 rfl)) rfl rfl ?_
    exact so_iret X hr hlk (dkX12_manyOf (62, .ireturn, 1) (pgm 36 rfl))
  · refine so_iload_n (i := 3) X 3 (dkX12_manyOf (16, .iload_n 3, 1) (pgm 10 rfl)) rfl rfl ?_
    refine so_iload_n (i := 2) X 2 (dkX12_manyOf (17, .iload_n 2, 1) (pgm 11 rfl)) rfl rfl ?_
    refine so_iload (i := 4) X 4 (dkX12_manyOf (18, .iload 4, 2) (pgm 12 rfl)) rfl ?_
    refine so_callS (n := 2) (As := [.int a2, .int s5.2]) X (ct_X12_has l a2 s5.2 hh5 ) lk_1676 lk_1677 lk_134 lk_1678 (by decide +kernel) rfl rfl rfl (rm_ok (by omega) (by decide)) ⟨Nat.zero_le _, Nat.zero_le _⟩ (Nat.le_of_ble_eq_true rfl) (dkX12_manyOf (20, .invokestatic 279, 3) (pgm 13 rfl)) (fun r4 h5 => ?_) rfl
    refine so_join (jf := fun (t6 : Int32) (h7 : PH) => lt (s5.1 + t6) (fun (x8 : Int32) => lt (s5.2 + Int32.ofInt 1) (fun (x9 : Int32) => rec5 (x8, x9) h7))) (fun (j : Int32 → PH → Option (Int32 × PH)) => ∀ (t6 : Int32) (h7 : PH), SWo (QM mkI below args s D cA ad A) p l e (rmd 1) s m args below meth c 0 0 5 D cA ad A 53 [(0, .ref this), (1, .int a1), (2, .int a2), (4, .int s5.2)] [.int t6, .int s5.1] h7 (j t6 h7)) ?_ (fun j53 hj53 => ?_)
    · intro t6 h7
      refine so_iadd X (dkX12_manyOf (53, .iadd, 1) (pgm 31 rfl)) ?_
      refine so_istore_n (i := 3) X (dkX12_manyOf (54, .istore_n 3, 1) (pgm 32 rfl)) rfl (by decide) (Lf := fun x8 => [(3, .int x8), (0, .ref this), (1, .int a1), (2, .int a2), (4, .int s5.2)]) (fun _ => rfl) (fun x8 => ?_)
      refine so_iinc (i := 4) X 4 (dkX12_manyOf (55, .iinc 4 1, 3) (pgm 33 rfl)) rfl rfl (by decide) (Lf := fun x9 => [(4, .int x9), (3, .int x8), (0, .ref this), (1, .int a1), (2, .int a2)]) (fun _ => rfl) (fun x9 => ?_)
      refine so_goto (tgt := 5) X (dkX12_manyOf (58, .goto (-53), 3) (pgm 34 rfl)) rfl ?_
      exact so_pick X [2, 3, 4, 1, 0] rfl (hrec5 (x8, x9) h7)
    refine so_join (jf := fun (h10 : PH) => j53 (0 : Int32) h10) (fun (j : PH → Option (Int32 × PH)) => ∀  (h10 : PH), SWo (QM mkI below args s D cA ad A) p l e (rmd 1) s m args below meth c 0 0 5 D cA ad A 52 [(0, .ref this), (1, .int a1), (2, .int a2), (4, .int s5.2)] [.int s5.1] h10 (j h10)) ?_ (fun j52 hj52 => ?_)
    · intro h10
      refine so_iconst (v := (0 : Int32)) X (dkX12_manyOf (52, .iconst 0, 1) (pgm 30 rfl)) ic_0 ?_
      exact so_pick X [0, 1, 2, 3] rfl (hj53 (0 : Int32) h10)
    refine so_if_eq (tgt := 52) X (dkX12_manyOf (23, .ifCond .eq 29, 3) (pgm 14 rfl)) rfl (fun _ => ?_) (fun _ => ?_)
    · exact so_pick X [0, 1, 2, 4] rfl (hj52 h5)
    · refine so_aload_n (i := 0) X 0 (dkX12_manyOf (26, .aload_n 0, 1) (pgm 15 rfl)) rfl rfl ?_
      refine sf_getR X ff_12_0 lk_1702 hk (dkX12_manyOf (27, .getfield 9, 3) (pgm 16 rfl)) ?_
      refine so_bipush (v := (24 : Int32)) X (dkX12_manyOf (30, .bipush 24, 2) (pgm 17 rfl)) bp_24 ?_
      refine so_iload (i := 4) X 4 (dkX12_manyOf (32, .iload 4, 2) (pgm 18 rfl)) rfl ?_
      refine so_iadd X (dkX12_manyOf (34, .iadd, 1) (pgm 19 rfl)) ?_
      refine so_iald X (rk_12_0 this hk) (dkX12_manyOf (35, .iaload, 1) (pgm 20 rfl)) (fun x11 => ?_)
      refine so_aload_n (i := 0) X 0 (dkX12_manyOf (36, .aload_n 0, 1) (pgm 21 rfl)) rfl rfl ?_
      refine sf_getR X ff_12_0 lk_1702 hk (dkX12_manyOf (37, .getfield 9, 3) (pgm 22 rfl)) ?_
      refine so_bipush (v := (24 : Int32)) X (dkX12_manyOf (40, .bipush 24, 2) (pgm 23 rfl)) bp_24 ?_
      refine so_iload_n (i := 1) X 1 (dkX12_manyOf (42, .iload_n 1, 1) (pgm 24 rfl)) rfl rfl ?_
      refine so_iadd X (dkX12_manyOf (43, .iadd, 1) (pgm 25 rfl)) ?_
      refine so_iald X (rk_12_0 this hk) (dkX12_manyOf (44, .iaload, 1) (pgm 26 rfl)) (fun x12 => ?_)
      refine so_icmp_ne (tgt := 52) X (dkX12_manyOf (45, .if_icmp .ne 7, 3) (pgm 27 rfl)) rfl (fun _ => ?_) (fun _ => ?_)
      · exact so_pick X [0, 1, 2, 4] rfl (hj52 h5)
      · refine so_iconst (v := (1 : Int32)) X (dkX12_manyOf (48, .iconst 1, 1) (pgm 28 rfl)) ic_1 ?_
        refine so_goto (tgt := 53) X (dkX12_manyOf (49, .goto 4, 3) (pgm 29 rfl)) rfl ?_
        exact so_pick X [0, 1, 2, 4] rfl (hj53 (1 : Int32) h5)
def pgX12_key : List (Nat × Instr × Nat) := [(0, .iload_n 2, 1), (1, .ifCond .ne 11, 3), (4, .aload_n 0, 1), (5, .getfield 55, 3), (8, .iload_n 1, 1), (9, .iaload, 1), (10, .ineg, 1), (11, .ireturn, 1), (12, .iload_n 2, 1), (13, .iconst 1, 1), (14, .if_icmp .ne 11, 3), (17, .aload_n 0, 1), (18, .getfield 58, 3), (21, .iload_n 1, 1), (22, .iaload, 1), (23, .ineg, 1), (24, .ireturn, 1), (25, .iload_n 2, 1), (26, .iconst 2, 1), (27, .if_icmp .ne 10, 3), (30, .aload_n 0, 1), (31, .iload_n 1, 1), (32, .iload_n 3, 1), (33, .invokevirtual 342, 3), (36, .ireturn, 1), (37, .aload_n 0, 1), (38, .iconst 1, 1), (39, .iload_n 1, 1), (40, .ishl, 1), (41, .invokevirtual 319, 3), (44, .istore 4, 2), (46, .iload 4, 2), (48, .iconst (-1), 1), (49, .if_icmp .ne 8, 3), (52, .bipush 99, 2), (54, .goto 8, 3), (57, .iload 4, 2), (59, .invokestatic 269, 3), (62, .ireturn, 1)]
theorem dkX12_key : ∀ q ∈ pgX12_key, decode cX12_key q.1 = .ok q.2 := by decide +kernel
def f_X12_key (this : Nat) (a1 : Int32) (a2 : Int32) (a3 : Int32) (h0 : PH) : Option (Int32 × PH) :=
  if a2 = 0 then (ldI h0 (rt this 25) 10 a1 (fun (x11 : Int32) => some ((-x11), h0))) else (if a2 = (1 : Int32) then (ldI h0 (rt this 26) 10 a1 (fun (x10 : Int32) => some ((-x10), h0))) else (if a2 = (2 : Int32) then (cb (f_X12_manyOf this a1 a3 h0) (fun (r8 : Int32) (h9 : PH) => some (r8, h9))) else (cb (f_X12_planFor this ((1 : Int32) <<< (a1 &&& 31)) h0) (fun (r1 : Int32) (h2 : PH) => lt r1 (fun (x3 : Int32) => lt (fun (t4 : Int32) (h5 : PH) => some (t4, h5)) (fun (j62 : Int32 → PH → Option (Int32 × PH)) => if x3 = (-1 : Int32) then (j62 (99 : Int32) h2) else (cb (f_X12_size x3 h2) (fun (r6 : Int32) (h7 : PH) => j62 r6 h7))))))))
set_option maxRecDepth 100000 in
set_option maxHeartbeats 4000000 in
theorem ct_X12_key (l : Launch) (this : Nat) (a1 : Int32) (a2 : Int32) (a3 : Int32) (h0 : PH) (hk : (kd this).1 = 12) : CT mkI l yX12_key cX12_key 5 (some .int) (rmd 3) [.ref this, .int a1, .int a2, .int a3] h0 (f_X12_key this a1 a2 a3 h0) := by
  refine ct_of (by decide) (Nat.le_of_ble_eq_true rfl) ?_
  intro p e s m args below meth c D cA ad A X hr hlk
  have X : Cx p s m args c RX12 cX12_key 5 D cA ad A := X
  unfold f_X12_key
  refine so_pick (L' := [(0, .ref this), (1, .int a1), (2, .int a2), (3, .int a3)]) X [0, 1, 2, 3] rfl ?_
  refine so_iload_n (i := 2) X 2 (dkX12_key (0, .iload_n 2, 1) (pgm 0 rfl)) rfl rfl ?_
  refine so_if_ne (tgt := 12) X (dkX12_key (1, .ifCond .ne 11, 3) (pgm 1 rfl)) rfl (fun _ => ?_) (fun _ => ?_)
  · refine so_iload_n (i := 2) X 2 (dkX12_key (12, .iload_n 2, 1) (pgm 8 rfl)) rfl rfl ?_
    refine so_iconst (v := (1 : Int32)) X (dkX12_key (13, .iconst 1, 1) (pgm 9 rfl)) ic_1 ?_
    refine so_icmp_ne (tgt := 25) X (dkX12_key (14, .if_icmp .ne 11, 3) (pgm 10 rfl)) rfl (fun _ => ?_) (fun _ => ?_)
    · refine so_iload_n (i := 2) X 2 (dkX12_key (25, .iload_n 2, 1) (pgm 17 rfl)) rfl rfl ?_
      refine so_iconst (v := (2 : Int32)) X (dkX12_key (26, .iconst 2, 1) (pgm 18 rfl)) ic_2 ?_
      refine so_icmp_ne (tgt := 37) X (dkX12_key (27, .if_icmp .ne 10, 3) (pgm 19 rfl)) rfl (fun _ => ?_) (fun _ => ?_)
      · refine so_aload_n (i := 0) X 0 (dkX12_key (37, .aload_n 0, 1) (pgm 25 rfl)) rfl rfl ?_
        refine so_iconst (v := (1 : Int32)) X (dkX12_key (38, .iconst 1, 1) (pgm 26 rfl)) ic_1 ?_
        refine so_iload_n (i := 1) X 1 (dkX12_key (39, .iload_n 1, 1) (pgm 27 rfl)) rfl rfl ?_
        refine so_ishl X (dkX12_key (40, .ishl, 1) (pgm 28 rfl)) ?_
        refine so_callV (n := 1) (As := [.int ((1 : Int32) <<< (a1 &&& 31))]) X (ct_X12_planFor l this ((1 : Int32) <<< (a1 &&& 31)) h0 hk) hk (by decide) rfl lk_2014 lk_2016 lk_91 lk_134 lk_2017 (by decide +kernel) rfl rfl rfl (rm_ok (by omega) (by decide)) ⟨Nat.zero_le _, Nat.zero_le _⟩ (Nat.le_of_ble_eq_true rfl) (dkX12_key (41, .invokevirtual 319, 3) (pgm 29 rfl)) (fun r1 h2 => ?_) rfl
        refine so_istore (i := 4) X (dkX12_key (44, .istore 4, 2) (pgm 30 rfl)) (by decide) (Lf := fun x3 => [(4, .int x3), (0, .ref this), (1, .int a1), (2, .int a2), (3, .int a3)]) (fun _ => rfl) (fun x3 => ?_)
        refine so_iload (i := 4) X 0 (dkX12_key (46, .iload 4, 2) (pgm 31 rfl)) rfl ?_
        refine so_iconst (v := (-1 : Int32)) X (dkX12_key (48, .iconst (-1), 1) (pgm 32 rfl)) ic_m1 ?_
        refine so_join (jf := fun (t4 : Int32) (h5 : PH) => some (t4, h5)) (fun (j : Int32 → PH → Option (Int32 × PH)) => ∀ (t4 : Int32) (h5 : PH), SWo (QM mkI below args s D cA ad A) p l e (rmd 3) s m args below meth c 0 0 5 D cA ad A 62 [] [.int t4] h5 (j t4 h5)) ?_ (fun j62 hj62 => ?_)
        · intro t4 h5
          exact so_iret X hr hlk (dkX12_key (62, .ireturn, 1) (pgm 38 rfl))
        refine so_icmp_ne (tgt := 57) X (dkX12_key (49, .if_icmp .ne 8, 3) (pgm 33 rfl)) rfl (fun _ => ?_) (fun _ => ?_)
        · refine so_iload (i := 4) X 0 (dkX12_key (57, .iload 4, 2) (pgm 36 rfl)) rfl ?_
          refine so_callS (n := 1) (As := [.int x3]) X (ct_X12_size l x3 h2 ) lk_1687 lk_1688 lk_134 lk_1689 (by decide +kernel) rfl rfl rfl (rm_ok (by omega) (by decide)) ⟨Nat.zero_le _, Nat.zero_le _⟩ (Nat.le_of_ble_eq_true rfl) (dkX12_key (59, .invokestatic 269, 3) (pgm 37 rfl)) (fun r6 h7 => ?_) rfl
          exact so_pick X [] rfl (hj62 r6 h7)
        · refine so_bipush (v := (99 : Int32)) X (dkX12_key (52, .bipush 99, 2) (pgm 34 rfl)) bp_99 ?_
          refine so_goto (tgt := 62) X (dkX12_key (54, .goto 8, 3) (pgm 35 rfl)) rfl ?_
          exact so_pick X [] rfl (hj62 (99 : Int32) h2)
      · refine so_aload_n (i := 0) X 0 (dkX12_key (30, .aload_n 0, 1) (pgm 20 rfl)) rfl rfl ?_
        refine so_iload_n (i := 1) X 1 (dkX12_key (31, .iload_n 1, 1) (pgm 21 rfl)) rfl rfl ?_
        refine so_iload_n (i := 3) X 3 (dkX12_key (32, .iload_n 3, 1) (pgm 22 rfl)) rfl rfl ?_
        refine so_callV (n := 2) (As := [.int a1, .int a3]) X (ct_X12_manyOf l this a1 a3 h0 hk) hk (by decide) rfl lk_2095 lk_2097 lk_99 lk_134 lk_2098 (by decide +kernel) rfl rfl rfl (rm_ok (by omega) (by decide)) ⟨Nat.zero_le _, Nat.zero_le _⟩ (Nat.le_of_ble_eq_true rfl) (dkX12_key (33, .invokevirtual 342, 3) (pgm 23 rfl)) (fun r8 h9 => ?_) rfl
        exact so_iret X hr hlk (dkX12_key (36, .ireturn, 1) (pgm 24 rfl))
    · refine so_aload_n (i := 0) X 0 (dkX12_key (17, .aload_n 0, 1) (pgm 11 rfl)) rfl rfl ?_
      refine sf_getR X ff_12_26 lk_1728 hk (dkX12_key (18, .getfield 58, 3) (pgm 12 rfl)) ?_
      refine so_iload_n (i := 1) X 1 (dkX12_key (21, .iload_n 1, 1) (pgm 13 rfl)) rfl rfl ?_
      refine so_iald X (rk_12_26 this hk) (dkX12_key (22, .iaload, 1) (pgm 14 rfl)) (fun x10 => ?_)
      refine so_ineg X (dkX12_key (23, .ineg, 1) (pgm 15 rfl)) ?_
      exact so_iret X hr hlk (dkX12_key (24, .ireturn, 1) (pgm 16 rfl))
  · refine so_aload_n (i := 0) X 0 (dkX12_key (4, .aload_n 0, 1) (pgm 2 rfl)) rfl rfl ?_
    refine sf_getR X ff_12_25 lk_1727 hk (dkX12_key (5, .getfield 55, 3) (pgm 3 rfl)) ?_
    refine so_iload_n (i := 1) X 1 (dkX12_key (8, .iload_n 1, 1) (pgm 4 rfl)) rfl rfl ?_
    refine so_iald X (rk_12_25 this hk) (dkX12_key (9, .iaload, 1) (pgm 5 rfl)) (fun x11 => ?_)
    refine so_ineg X (dkX12_key (10, .ineg, 1) (pgm 6 rfl)) ?_
    exact so_iret X hr hlk (dkX12_key (11, .ireturn, 1) (pgm 7 rfl))
def pgX12_asksAsItIs : List (Nat × Instr × Nat) := [(0, .iconst 0, 1), (1, .istore_n 1, 1), (2, .iload_n 1, 1), (3, .bipush 10, 2), (5, .if_icmp .ge 39, 3), (8, .aload_n 0, 1), (9, .getfield 55, 3), (12, .iload_n 1, 1), (13, .aload_n 0, 1), (14, .getfield 9, 3), (17, .bipush 8, 2), (19, .iload_n 1, 1), (20, .iadd, 1), (21, .iaload, 1), (22, .iastore, 1), (23, .aload_n 0, 1), (24, .getfield 58, 3), (27, .iload_n 1, 1), (28, .aload_n 0, 1), (29, .getfield 9, 3), (32, .bipush 34, 2), (34, .iload_n 1, 1), (35, .iadd, 1), (36, .iaload, 1), (37, .iastore, 1), (38, .iinc 1 1, 3), (41, .goto (-39), 3), (44, .return_, 1)]
theorem dkX12_asksAsItIs : ∀ q ∈ pgX12_asksAsItIs, decode cX12_asksAsItIs q.1 = .ok q.2 := by decide +kernel
def b_X12_asksAsItIs_2 (this : Nat) (rec2 : (Int32) → PH → Option (Unit × PH)) (s2 : Int32) (hh2 : PH) : Option (Unit × PH) :=
  if (10 : Int32) ≤ s2 then (some ((), hh2)) else (ldI hh2 (rt this 0) 1200 ((8 : Int32) + s2) (fun (x2 : Int32) => stI hh2 (rt this 25) 10 s2 x2 (fun (h3 : PH) => ldI h3 (rt this 0) 1200 ((34 : Int32) + s2) (fun (x4 : Int32) => stI h3 (rt this 26) 10 s2 x4 (fun (h5 : PH) => lt (s2 + Int32.ofInt 1) (fun (x6 : Int32) => rec2 x6 h5))))))
def f_X12_asksAsItIs (this : Nat) (h0 : PH) : Option (Unit × PH) :=
  lt (0 : Int32) (fun (x1 : Int32) => lp (b_X12_asksAsItIs_2 this) FU x1 h0)
set_option maxRecDepth 100000 in
set_option maxHeartbeats 4000000 in
theorem ct_X12_asksAsItIs (l : Launch) (this : Nat) (h0 : PH) (hk : (kd this).1 = 12) : CT mkV l yX12_asksAsItIs cX12_asksAsItIs 2 none (rmd 0) [.ref this] h0 (f_X12_asksAsItIs this h0) := by
  refine ct_of (by decide) (Nat.le_of_ble_eq_true rfl) ?_
  intro p e s m args below meth c D cA ad A X hr hlk
  have X : Cx p s m args c RX12 cX12_asksAsItIs 2 D cA ad A := X
  unfold f_X12_asksAsItIs
  refine so_pick (L' := [(0, .ref this)]) X [0] rfl ?_
  refine so_iconst (v := (0 : Int32)) X (dkX12_asksAsItIs (0, .iconst 0, 1) (pgm 0 rfl)) ic_0 ?_
  refine so_istore_n (i := 1) X (dkX12_asksAsItIs (1, .istore_n 1, 1) (pgm 1 rfl)) rfl (by decide) (Lf := fun x1 => [(1, .int x1), (0, .ref this)]) (fun _ => rfl) (fun x1 => ?_)
  refine so_pick (L' := [(0, .ref this), (1, .int x1)]) X [1, 0] rfl ?_
  refine so_loop (body := b_X12_asksAsItIs_2 this) (fun (s2 : Int32) => [(0, .ref this), (1, .int s2)]) (fun rec2 hrec2 s2 hh2 => ?_) FU x1 h0
  unfold b_X12_asksAsItIs_2
  refine so_iload_n (i := 1) X 1 (dkX12_asksAsItIs (2, .iload_n 1, 1) (pgm 2 rfl)) rfl rfl ?_
  refine so_bipush (v := (10 : Int32)) X (dkX12_asksAsItIs (3, .bipush 10, 2) (pgm 3 rfl)) bp_10 ?_
  refine so_icmp_ge (tgt := 44) X (dkX12_asksAsItIs (5, .if_icmp .ge 39, 3) (pgm 4 rfl)) rfl (fun _ => ?_) (fun _ => ?_)
  · exact so_vret X hr hlk (dkX12_asksAsItIs (44, .return_, 1) (pgm 27 rfl))
  · refine so_aload_n (i := 0) X 0 (dkX12_asksAsItIs (8, .aload_n 0, 1) (pgm 5 rfl)) rfl rfl ?_
    refine sf_getR X ff_12_25 lk_1727 hk (dkX12_asksAsItIs (9, .getfield 55, 3) (pgm 6 rfl)) ?_
    refine so_iload_n (i := 1) X 1 (dkX12_asksAsItIs (12, .iload_n 1, 1) (pgm 7 rfl)) rfl rfl ?_
    refine so_aload_n (i := 0) X 0 (dkX12_asksAsItIs (13, .aload_n 0, 1) (pgm 8 rfl)) rfl rfl ?_
    refine sf_getR X ff_12_0 lk_1702 hk (dkX12_asksAsItIs (14, .getfield 9, 3) (pgm 9 rfl)) ?_
    refine so_bipush (v := (8 : Int32)) X (dkX12_asksAsItIs (17, .bipush 8, 2) (pgm 10 rfl)) bp_8 ?_
    refine so_iload_n (i := 1) X 1 (dkX12_asksAsItIs (19, .iload_n 1, 1) (pgm 11 rfl)) rfl rfl ?_
    refine so_iadd X (dkX12_asksAsItIs (20, .iadd, 1) (pgm 12 rfl)) ?_
    refine so_iald X (rk_12_0 this hk) (dkX12_asksAsItIs (21, .iaload, 1) (pgm 13 rfl)) (fun x2 => ?_)
    refine so_iast X (rk_12_25 this hk) (dkX12_asksAsItIs (22, .iastore, 1) (pgm 14 rfl)) (fun h3 => ?_)
    refine so_aload_n (i := 0) X 0 (dkX12_asksAsItIs (23, .aload_n 0, 1) (pgm 15 rfl)) rfl rfl ?_
    refine sf_getR X ff_12_26 lk_1728 hk (dkX12_asksAsItIs (24, .getfield 58, 3) (pgm 16 rfl)) ?_
    refine so_iload_n (i := 1) X 1 (dkX12_asksAsItIs (27, .iload_n 1, 1) (pgm 17 rfl)) rfl rfl ?_
    refine so_aload_n (i := 0) X 0 (dkX12_asksAsItIs (28, .aload_n 0, 1) (pgm 18 rfl)) rfl rfl ?_
    refine sf_getR X ff_12_0 lk_1702 hk (dkX12_asksAsItIs (29, .getfield 9, 3) (pgm 19 rfl)) ?_
    refine so_bipush (v := (34 : Int32)) X (dkX12_asksAsItIs (32, .bipush 34, 2) (pgm 20 rfl)) bp_34 ?_
    refine so_iload_n (i := 1) X 1 (dkX12_asksAsItIs (34, .iload_n 1, 1) (pgm 21 rfl)) rfl rfl ?_
    refine so_iadd X (dkX12_asksAsItIs (35, .iadd, 1) (pgm 22 rfl)) ?_
    refine so_iald X (rk_12_0 this hk) (dkX12_asksAsItIs (36, .iaload, 1) (pgm 23 rfl)) (fun x4 => ?_)
    refine so_iast X (rk_12_26 this hk) (dkX12_asksAsItIs (37, .iastore, 1) (pgm 24 rfl)) (fun h5 => ?_)
    refine so_iinc (i := 1) X 1 (dkX12_asksAsItIs (38, .iinc 1 1, 3) (pgm 25 rfl)) rfl rfl (by decide) (Lf := fun x6 => [(1, .int x6), (0, .ref this)]) (fun _ => rfl) (fun x6 => ?_)
    refine so_goto (tgt := 2) X (dkX12_asksAsItIs (41, .goto (-39), 3) (pgm 26 rfl)) rfl ?_
    exact so_pick X [1, 0] rfl (hrec2 x6 h5)
def pgX12_serves : List (Nat × Instr × Nat) := [(0, .iconst 0, 1), (1, .istore_n 3, 1), (2, .iload_n 2, 1), (3, .istore 4, 2), (5, .iconst 0, 1), (6, .istore 5, 2), (8, .iload 5, 2), (10, .aload_n 0, 1), (11, .getfield 9, 3), (14, .iconst 5, 1), (15, .iaload, 1), (16, .if_icmp .ge 37, 3), (19, .aload_n 0, 1), (20, .getfield 52, 3), (23, .iload 5, 2), (25, .iload_n 2, 1), (26, .iload 5, 2), (28, .invokestatic 279, 3), (31, .ifCond .eq 14, 3), (34, .aload_n 0, 1), (35, .iload 5, 2), (37, .iload_n 1, 1), (38, .iload_n 2, 1), (39, .invokevirtual 345, 3), (42, .goto 4, 3), (45, .iconst 0, 1), (46, .iastore, 1), (47, .iinc 5 1, 3), (50, .goto (-42), 3), (53, .iload 4, 2), (55, .ifCond .eq 98, 3), (58, .iconst (-1), 1), (59, .istore 5, 2), (61, .iconst 0, 1), (62, .istore 6, 2), (64, .iload 6, 2), (66, .aload_n 0, 1), (67, .getfield 9, 3), (70, .iconst 5, 1), (71, .iaload, 1), (72, .if_icmp .ge 46, 3), (75, .iload 4, 2), (77, .iload 6, 2), (79, .invokestatic 279, 3), (82, .ifCond .eq 30, 3), (85, .iload 5, 2), (87, .iconst (-1), 1), (88, .if_icmp .eq 20, 3), (91, .aload_n 0, 1), (92, .getfield 52, 3), (95, .iload 6, 2), (97, .iaload, 1), (98, .aload_n 0, 1), (99, .getfield 52, 3), (102, .iload 5, 2), (104, .iaload, 1), (105, .if_icmp .ge 7, 3), (108, .iload 6, 2), (110, .istore 5, 2), (112, .iinc 6 1, 3), (115, .goto (-51), 3), (118, .iload 4, 2), (120, .iconst 1, 1), (121, .iload 5, 2), (123, .ishl, 1), (124, .iconst (-1), 1), (125, .ixor, 1), (126, .iand, 1), (127, .istore 4, 2), (129, .aload_n 0, 1), (130, .getfield 46, 3), (133, .iload_n 3, 1), (134, .iconst 1, 1), (135, .iload 5, 2), (137, .ishl, 1), (138, .ior, 1), (139, .baload, 1), (140, .ifCond .eq 10, 3), (143, .iload_n 3, 1), (144, .iconst 1, 1), (145, .iload 5, 2), (147, .ishl, 1), (148, .ior, 1), (149, .istore_n 3, 1), (150, .goto (-97), 3), (153, .iload_n 3, 1), (154, .ireturn, 1)]
theorem dkX12_serves : ∀ q ∈ pgX12_serves, decode cX12_serves q.1 = .ok q.2 := by decide +kernel
def b_X12_serves_64 (this : Nat) (s53 : Int32 × Int32) (j118 : Int32 → PH → Option (Int32 × PH)) (rec64 : (Int32 × Int32) → PH → Option (Int32 × PH)) (s64 : Int32 × Int32) (hh64 : PH) : Option (Int32 × PH) :=
  ldI hh64 (rt this 0) 1200 (5 : Int32) (fun (x14 : Int32) => if x14 ≤ s64.2 then (j118 s64.1 hh64) else (cb (f_X12_has s53.2 s64.2 hh64) (fun (r15 : Int32) (h16 : PH) => lt (fun (y17 : Int32) (h18 : PH) => lt (s64.2 + Int32.ofInt 1) (fun (x19 : Int32) => rec64 (y17, x19) h18)) (fun (j112 : Int32 → PH → Option (Int32 × PH)) => if r15 = 0 then (j112 s64.1 h16) else (lt (fun (h20 : PH) => lt s64.2 (fun (x21 : Int32) => j112 x21 h20)) (fun (j108 : PH → Option (Int32 × PH)) => if s64.1 = (-1 : Int32) then (j108 h16) else (ldI h16 (rt this 24) 10 s64.2 (fun (x22 : Int32) => ldI h16 (rt this 24) 10 s64.1 (fun (x23 : Int32) => if x23 ≤ x22 then (j112 s64.1 h16) else (j108 h16))))))))))
def b_X12_serves_53 (this : Nat) (rec53 : (Int32 × Int32) → PH → Option (Int32 × PH)) (s53 : Int32 × Int32) (hh53 : PH) : Option (Int32 × PH) :=
  if s53.2 = 0 then (some (s53.1, hh53)) else (lt (-1 : Int32) (fun (x5 : Int32) => lt (0 : Int32) (fun (x6 : Int32) => lt (fun (y7 : Int32) (h8 : PH) => lt (s53.2 &&& (((1 : Int32) <<< (y7 &&& 31)) ^^^ (-1 : Int32))) (fun (x9 : Int32) => ldI h8 (rt this 22) 1024 (s53.1 ||| ((1 : Int32) <<< (y7 &&& 31))) (fun (x10 : Int32) => lt (fun (y11 : Int32) (h12 : PH) => rec53 (y11, x9) h12) (fun (j150 : Int32 → PH → Option (Int32 × PH)) => if x10 = 0 then (j150 s53.1 h8) else (lt (s53.1 ||| ((1 : Int32) <<< (y7 &&& 31))) (fun (x13 : Int32) => j150 x13 h8)))))) (fun (j118 : Int32 → PH → Option (Int32 × PH)) => lp (b_X12_serves_64 this s53 j118) FU (x5, x6) hh53))))
def b_X12_serves_8 (this : Nat) (a1 : Int32) (a2 : Int32) (j53 : PH → Option (Int32 × PH)) (rec8 : (Int32) → PH → Option (Int32 × PH)) (s8 : Int32) (hh8 : PH) : Option (Int32 × PH) :=
  ldI hh8 (rt this 0) 1200 (5 : Int32) (fun (x24 : Int32) => if x24 ≤ s8 then (j53 hh8) else (cb (f_X12_has a2 s8 hh8) (fun (r25 : Int32) (h26 : PH) => lt (fun (t27 : Int32) (h28 : PH) => stI h28 (rt this 24) 10 s8 t27 (fun (h29 : PH) => lt (s8 + Int32.ofInt 1) (fun (x30 : Int32) => rec8 x30 h29))) (fun (j46 : Int32 → PH → Option (Int32 × PH)) => if r25 = 0 then (j46 (0 : Int32) h26) else (cb (f_X12_key this s8 a1 a2 h26) (fun (r31 : Int32) (h32 : PH) => j46 r31 h32))))))
def f_X12_serves (this : Nat) (a1 : Int32) (a2 : Int32) (h0 : PH) : Option (Int32 × PH) :=
  lt (0 : Int32) (fun (x1 : Int32) => lt a2 (fun (x2 : Int32) => lt (0 : Int32) (fun (x3 : Int32) => lt (fun (h4 : PH) => lp (b_X12_serves_53 this) FU (x1, x2) h4) (fun (j53 : PH → Option (Int32 × PH)) => lp (b_X12_serves_8 this a1 a2 j53) FU x3 h0))))
set_option maxRecDepth 100000 in
set_option maxHeartbeats 4000000 in
theorem ct_X12_serves (l : Launch) (this : Nat) (a1 : Int32) (a2 : Int32) (h0 : PH) (hk : (kd this).1 = 12) : CT mkI l yX12_serves cX12_serves 7 (some .int) (rmd 4) [.ref this, .int a1, .int a2] h0 (f_X12_serves this a1 a2 h0) := by
  refine ct_of (by decide) (Nat.le_of_ble_eq_true rfl) ?_
  intro p e s m args below meth c D cA ad A X hr hlk
  have X : Cx p s m args c RX12 cX12_serves 7 D cA ad A := X
  unfold f_X12_serves
  refine so_pick (L' := [(0, .ref this), (1, .int a1), (2, .int a2)]) X [0, 1, 2] rfl ?_
  refine so_iconst (v := (0 : Int32)) X (dkX12_serves (0, .iconst 0, 1) (pgm 0 rfl)) ic_0 ?_
  refine so_istore_n (i := 3) X (dkX12_serves (1, .istore_n 3, 1) (pgm 1 rfl)) rfl (by decide) (Lf := fun x1 => [(3, .int x1), (0, .ref this), (1, .int a1), (2, .int a2)]) (fun _ => rfl) (fun x1 => ?_)
  refine so_iload_n (i := 2) X 3 (dkX12_serves (2, .iload_n 2, 1) (pgm 2 rfl)) rfl rfl ?_
  refine so_istore (i := 4) X (dkX12_serves (3, .istore 4, 2) (pgm 3 rfl)) (by decide) (Lf := fun x2 => [(4, .int x2), (3, .int x1), (0, .ref this), (1, .int a1), (2, .int a2)]) (fun _ => rfl) (fun x2 => ?_)
  refine so_iconst (v := (0 : Int32)) X (dkX12_serves (5, .iconst 0, 1) (pgm 4 rfl)) ic_0 ?_
  refine so_istore (i := 5) X (dkX12_serves (6, .istore 5, 2) (pgm 5 rfl)) (by decide) (Lf := fun x3 => [(5, .int x3), (4, .int x2), (3, .int x1), (0, .ref this), (1, .int a1), (2, .int a2)]) (fun _ => rfl) (fun x3 => ?_)
  refine so_join (jf := fun (h4 : PH) => lp (b_X12_serves_53 this) FU (x1, x2) h4) (fun (j : PH → Option (Int32 × PH)) => ∀  (h4 : PH), SWo (QM mkI below args s D cA ad A) p l e (rmd 4) s m args below meth c 0 0 7 D cA ad A 53 [(0, .ref this), (3, .int x1), (4, .int x2)] [] h4 (j h4)) ?_ (fun j53 hj53 => ?_)
  · intro h4
    refine so_pick (L' := [(0, .ref this), (3, .int x1), (4, .int x2)]) X [0, 1, 2] rfl ?_
    refine so_loop (body := b_X12_serves_53 this) (fun (s53 : Int32 × Int32) => [(0, .ref this), (3, .int s53.1), (4, .int s53.2)]) (fun rec53 hrec53 s53 hh53 => ?_) FU (x1, x2) h4
    unfold b_X12_serves_53
    refine so_iload (i := 4) X 2 (dkX12_serves (53, .iload 4, 2) (pgm 29 rfl)) rfl ?_
    refine so_if_eq (tgt := 153) X (dkX12_serves (55, .ifCond .eq 98, 3) (pgm 30 rfl)) rfl (fun _ => ?_) (fun _ => ?_)
    · refine so_iload_n (i := 3) X 1 (dkX12_serves (153, .iload_n 3, 1) (pgm 85 rfl)) rfl rfl ?_
      exact so_iret X hr hlk (dkX12_serves (154, .ireturn, 1) (pgm 86 rfl))
    · refine so_iconst (v := (-1 : Int32)) X (dkX12_serves (58, .iconst (-1), 1) (pgm 31 rfl)) ic_m1 ?_
      refine so_istore (i := 5) X (dkX12_serves (59, .istore 5, 2) (pgm 32 rfl)) (by decide) (Lf := fun x5 => [(5, .int x5), (0, .ref this), (3, .int s53.1), (4, .int s53.2)]) (fun _ => rfl) (fun x5 => ?_)
      refine so_iconst (v := (0 : Int32)) X (dkX12_serves (61, .iconst 0, 1) (pgm 33 rfl)) ic_0 ?_
      refine so_istore (i := 6) X (dkX12_serves (62, .istore 6, 2) (pgm 34 rfl)) (by decide) (Lf := fun x6 => [(6, .int x6), (5, .int x5), (0, .ref this), (3, .int s53.1), (4, .int s53.2)]) (fun _ => rfl) (fun x6 => ?_)
      refine so_join (jf := fun (y7 : Int32) (h8 : PH) => lt (s53.2 &&& (((1 : Int32) <<< (y7 &&& 31)) ^^^ (-1 : Int32))) (fun (x9 : Int32) => ldI h8 (rt this 22) 1024 (s53.1 ||| ((1 : Int32) <<< (y7 &&& 31))) (fun (x10 : Int32) => lt (fun (y11 : Int32) (h12 : PH) => rec53 (y11, x9) h12) (fun (j150 : Int32 → PH → Option (Int32 × PH)) => if x10 = 0 then (j150 s53.1 h8) else (lt (s53.1 ||| ((1 : Int32) <<< (y7 &&& 31))) (fun (x13 : Int32) => j150 x13 h8)))))) (fun (j : Int32 → PH → Option (Int32 × PH)) => ∀ (y7 : Int32) (h8 : PH), SWo (QM mkI below args s D cA ad A) p l e (rmd 4) s m args below meth c 0 0 7 D cA ad A 118 [(0, .ref this), (3, .int s53.1), (4, .int s53.2), (5, .int y7)] [] h8 (j y7 h8)) ?_ (fun j118 hj118 => ?_)
      · intro y7 h8
        refine so_iload (i := 4) X 2 (dkX12_serves (118, .iload 4, 2) (pgm 61 rfl)) rfl ?_
        refine so_iconst (v := (1 : Int32)) X (dkX12_serves (120, .iconst 1, 1) (pgm 62 rfl)) ic_1 ?_
        refine so_iload (i := 5) X 3 (dkX12_serves (121, .iload 5, 2) (pgm 63 rfl)) rfl ?_
        refine so_ishl X (dkX12_serves (123, .ishl, 1) (pgm 64 rfl)) ?_
        refine so_iconst (v := (-1 : Int32)) X (dkX12_serves (124, .iconst (-1), 1) (pgm 65 rfl)) ic_m1 ?_
        refine so_ixor X (dkX12_serves (125, .ixor, 1) (pgm 66 rfl)) ?_
        refine so_iand X (dkX12_serves (126, .iand, 1) (pgm 67 rfl)) ?_
        refine so_istore (i := 4) X (dkX12_serves (127, .istore 4, 2) (pgm 68 rfl)) (by decide) (Lf := fun x9 => [(4, .int x9), (0, .ref this), (3, .int s53.1), (5, .int y7)]) (fun _ => rfl) (fun x9 => ?_)
        refine so_aload_n (i := 0) X 1 (dkX12_serves (129, .aload_n 0, 1) (pgm 69 rfl)) rfl rfl ?_
        refine sf_getR X ff_12_22 lk_1724 hk (dkX12_serves (130, .getfield 46, 3) (pgm 70 rfl)) ?_
        refine so_iload_n (i := 3) X 2 (dkX12_serves (133, .iload_n 3, 1) (pgm 71 rfl)) rfl rfl ?_
        refine so_iconst (v := (1 : Int32)) X (dkX12_serves (134, .iconst 1, 1) (pgm 72 rfl)) ic_1 ?_
        refine so_iload (i := 5) X 3 (dkX12_serves (135, .iload 5, 2) (pgm 73 rfl)) rfl ?_
        refine so_ishl X (dkX12_serves (137, .ishl, 1) (pgm 74 rfl)) ?_
        refine so_ior X (dkX12_serves (138, .ior, 1) (pgm 75 rfl)) ?_
        refine so_zald X (rk_12_22 this hk) (dkX12_serves (139, .baload, 1) (pgm 76 rfl)) (fun x10 => ?_)
        refine so_join (jf := fun (y11 : Int32) (h12 : PH) => rec53 (y11, x9) h12) (fun (j : Int32 → PH → Option (Int32 × PH)) => ∀ (y11 : Int32) (h12 : PH), SWo (QM mkI below args s D cA ad A) p l e (rmd 4) s m args below meth c 0 0 7 D cA ad A 150 [(0, .ref this), (3, .int y11), (4, .int x9)] [] h12 (j y11 h12)) ?_ (fun j150 hj150 => ?_)
        · intro y11 h12
          refine so_goto (tgt := 53) X (dkX12_serves (150, .goto (-97), 3) (pgm 84 rfl)) rfl ?_
          exact so_pick X [0, 1, 2] rfl (hrec53 (y11, x9) h12)
        refine so_if_eq (tgt := 150) X (dkX12_serves (140, .ifCond .eq 10, 3) (pgm 77 rfl)) rfl (fun _ => ?_) (fun _ => ?_)
        · exact so_pick X [1, 2, 0] rfl (hj150 s53.1 h8)
        · refine so_iload_n (i := 3) X 2 (dkX12_serves (143, .iload_n 3, 1) (pgm 78 rfl)) rfl rfl ?_
          refine so_iconst (v := (1 : Int32)) X (dkX12_serves (144, .iconst 1, 1) (pgm 79 rfl)) ic_1 ?_
          refine so_iload (i := 5) X 3 (dkX12_serves (145, .iload 5, 2) (pgm 80 rfl)) rfl ?_
          refine so_ishl X (dkX12_serves (147, .ishl, 1) (pgm 81 rfl)) ?_
          refine so_ior X (dkX12_serves (148, .ior, 1) (pgm 82 rfl)) ?_
          refine so_istore_n (i := 3) X (dkX12_serves (149, .istore_n 3, 1) (pgm 83 rfl)) rfl (by decide) (Lf := fun x13 => [(3, .int x13), (4, .int x9), (0, .ref this), (5, .int y7)]) (fun _ => rfl) (fun x13 => ?_)
          exact so_pick X [2, 0, 1] rfl (hj150 x13 h8)
      refine so_pick (L' := [(0, .ref this), (3, .int s53.1), (4, .int s53.2), (5, .int x5), (6, .int x6)]) X [2, 3, 4, 1, 0] rfl ?_
      refine so_loop (body := b_X12_serves_64 this s53 j118) (fun (s64 : Int32 × Int32) => [(0, .ref this), (3, .int s53.1), (4, .int s53.2), (5, .int s64.1), (6, .int s64.2)]) (fun rec64 hrec64 s64 hh64 => ?_) FU (x5, x6) hh53
      unfold b_X12_serves_64
      refine so_iload (i := 6) X 4 (dkX12_serves (64, .iload 6, 2) (pgm 35 rfl)) rfl ?_
      refine so_aload_n (i := 0) X 0 (dkX12_serves (66, .aload_n 0, 1) (pgm 36 rfl)) rfl rfl ?_
      refine sf_getR X ff_12_0 lk_1702 hk (dkX12_serves (67, .getfield 9, 3) (pgm 37 rfl)) ?_
      refine so_iconst (v := (5 : Int32)) X (dkX12_serves (70, .iconst 5, 1) (pgm 38 rfl)) ic_5 ?_
      refine so_iald X (rk_12_0 this hk) (dkX12_serves (71, .iaload, 1) (pgm 39 rfl)) (fun x14 => ?_)
      refine so_icmp_ge (tgt := 118) X (dkX12_serves (72, .if_icmp .ge 46, 3) (pgm 40 rfl)) rfl (fun _ => ?_) (fun _ => ?_)
      · exact so_pick X [0, 1, 2, 3] rfl (hj118 s64.1 hh64)
      · refine so_iload (i := 4) X 2 (dkX12_serves (75, .iload 4, 2) (pgm 41 rfl)) rfl ?_
        refine so_iload (i := 6) X 4 (dkX12_serves (77, .iload 6, 2) (pgm 42 rfl)) rfl ?_
        refine so_callS (n := 2) (As := [.int s53.2, .int s64.2]) X (ct_X12_has l s53.2 s64.2 hh64 ) lk_1676 lk_1677 lk_134 lk_1678 (by decide +kernel) rfl rfl rfl (rm_ok (by omega) (by decide)) ⟨Nat.zero_le _, Nat.zero_le _⟩ (Nat.le_of_ble_eq_true rfl) (dkX12_serves (79, .invokestatic 279, 3) (pgm 43 rfl)) (fun r15 h16 => ?_) rfl
        refine so_join (jf := fun (y17 : Int32) (h18 : PH) => lt (s64.2 + Int32.ofInt 1) (fun (x19 : Int32) => rec64 (y17, x19) h18)) (fun (j : Int32 → PH → Option (Int32 × PH)) => ∀ (y17 : Int32) (h18 : PH), SWo (QM mkI below args s D cA ad A) p l e (rmd 4) s m args below meth c 0 0 7 D cA ad A 112 [(0, .ref this), (3, .int s53.1), (4, .int s53.2), (5, .int y17), (6, .int s64.2)] [] h18 (j y17 h18)) ?_ (fun j112 hj112 => ?_)
        · intro y17 h18
          refine so_iinc (i := 6) X 4 (dkX12_serves (112, .iinc 6 1, 3) (pgm 59 rfl)) rfl rfl (by decide) (Lf := fun x19 => [(6, .int x19), (0, .ref this), (3, .int s53.1), (4, .int s53.2), (5, .int y17)]) (fun _ => rfl) (fun x19 => ?_)
          refine so_goto (tgt := 64) X (dkX12_serves (115, .goto (-51), 3) (pgm 60 rfl)) rfl ?_
          exact so_pick X [1, 2, 3, 4, 0] rfl (hrec64 (y17, x19) h18)
        refine so_if_eq (tgt := 112) X (dkX12_serves (82, .ifCond .eq 30, 3) (pgm 44 rfl)) rfl (fun _ => ?_) (fun _ => ?_)
        · exact so_pick X [0, 1, 2, 3, 4] rfl (hj112 s64.1 h16)
        · refine so_iload (i := 5) X 3 (dkX12_serves (85, .iload 5, 2) (pgm 45 rfl)) rfl ?_
          refine so_iconst (v := (-1 : Int32)) X (dkX12_serves (87, .iconst (-1), 1) (pgm 46 rfl)) ic_m1 ?_
          refine so_join (jf := fun (h20 : PH) => lt s64.2 (fun (x21 : Int32) => j112 x21 h20)) (fun (j : PH → Option (Int32 × PH)) => ∀  (h20 : PH), SWo (QM mkI below args s D cA ad A) p l e (rmd 4) s m args below meth c 0 0 7 D cA ad A 108 [(0, .ref this), (3, .int s53.1), (4, .int s53.2), (6, .int s64.2)] [] h20 (j h20)) ?_ (fun j108 hj108 => ?_)
          · intro h20
            refine so_iload (i := 6) X 3 (dkX12_serves (108, .iload 6, 2) (pgm 57 rfl)) rfl ?_
            refine so_istore (i := 5) X (dkX12_serves (110, .istore 5, 2) (pgm 58 rfl)) (by decide) (Lf := fun x21 => [(5, .int x21), (0, .ref this), (3, .int s53.1), (4, .int s53.2), (6, .int s64.2)]) (fun _ => rfl) (fun x21 => ?_)
            exact so_pick X [1, 2, 3, 0, 4] rfl (hj112 x21 h20)
          refine so_icmp_eq (tgt := 108) X (dkX12_serves (88, .if_icmp .eq 20, 3) (pgm 47 rfl)) rfl (fun _ => ?_) (fun _ => ?_)
          · exact so_pick X [0, 1, 2, 4] rfl (hj108 h16)
          · refine so_aload_n (i := 0) X 0 (dkX12_serves (91, .aload_n 0, 1) (pgm 48 rfl)) rfl rfl ?_
            refine sf_getR X ff_12_24 lk_1726 hk (dkX12_serves (92, .getfield 52, 3) (pgm 49 rfl)) ?_
            refine so_iload (i := 6) X 4 (dkX12_serves (95, .iload 6, 2) (pgm 50 rfl)) rfl ?_
            refine so_iald X (rk_12_24 this hk) (dkX12_serves (97, .iaload, 1) (pgm 51 rfl)) (fun x22 => ?_)
            refine so_aload_n (i := 0) X 0 (dkX12_serves (98, .aload_n 0, 1) (pgm 52 rfl)) rfl rfl ?_
            refine sf_getR X ff_12_24 lk_1726 hk (dkX12_serves (99, .getfield 52, 3) (pgm 53 rfl)) ?_
            refine so_iload (i := 5) X 3 (dkX12_serves (102, .iload 5, 2) (pgm 54 rfl)) rfl ?_
            refine so_iald X (rk_12_24 this hk) (dkX12_serves (104, .iaload, 1) (pgm 55 rfl)) (fun x23 => ?_)
            refine so_icmp_ge (tgt := 112) X (dkX12_serves (105, .if_icmp .ge 7, 3) (pgm 56 rfl)) rfl (fun _ => ?_) (fun _ => ?_)
            · exact so_pick X [0, 1, 2, 3, 4] rfl (hj112 s64.1 h16)
            · exact so_pick X [0, 1, 2, 4] rfl (hj108 h16)
  refine so_pick (L' := [(0, .ref this), (1, .int a1), (2, .int a2), (3, .int x1), (4, .int x2), (5, .int x3)]) X [3, 4, 5, 2, 1, 0] rfl ?_
  refine so_loop (body := b_X12_serves_8 this a1 a2 j53) (fun (s8 : Int32) => [(0, .ref this), (1, .int a1), (2, .int a2), (3, .int x1), (4, .int x2), (5, .int s8)]) (fun rec8 hrec8 s8 hh8 => ?_) FU x3 h0
  unfold b_X12_serves_8
  refine so_iload (i := 5) X 5 (dkX12_serves (8, .iload 5, 2) (pgm 6 rfl)) rfl ?_
  refine so_aload_n (i := 0) X 0 (dkX12_serves (10, .aload_n 0, 1) (pgm 7 rfl)) rfl rfl ?_
  refine sf_getR X ff_12_0 lk_1702 hk (dkX12_serves (11, .getfield 9, 3) (pgm 8 rfl)) ?_
  refine so_iconst (v := (5 : Int32)) X (dkX12_serves (14, .iconst 5, 1) (pgm 9 rfl)) ic_5 ?_
  refine so_iald X (rk_12_0 this hk) (dkX12_serves (15, .iaload, 1) (pgm 10 rfl)) (fun x24 => ?_)
  refine so_icmp_ge (tgt := 53) X (dkX12_serves (16, .if_icmp .ge 37, 3) (pgm 11 rfl)) rfl (fun _ => ?_) (fun _ => ?_)
  · exact so_pick X [0, 3, 4] rfl (hj53 hh8)
  · refine so_aload_n (i := 0) X 0 (dkX12_serves (19, .aload_n 0, 1) (pgm 12 rfl)) rfl rfl ?_
    refine sf_getR X ff_12_24 lk_1726 hk (dkX12_serves (20, .getfield 52, 3) (pgm 13 rfl)) ?_
    refine so_iload (i := 5) X 5 (dkX12_serves (23, .iload 5, 2) (pgm 14 rfl)) rfl ?_
    refine so_iload_n (i := 2) X 2 (dkX12_serves (25, .iload_n 2, 1) (pgm 15 rfl)) rfl rfl ?_
    refine so_iload (i := 5) X 5 (dkX12_serves (26, .iload 5, 2) (pgm 16 rfl)) rfl ?_
    refine so_callS (n := 2) (As := [.int a2, .int s8]) X (ct_X12_has l a2 s8 hh8 ) lk_1676 lk_1677 lk_134 lk_1678 (by decide +kernel) rfl rfl rfl (rm_ok (by omega) (by decide)) ⟨Nat.zero_le _, Nat.zero_le _⟩ (Nat.le_of_ble_eq_true rfl) (dkX12_serves (28, .invokestatic 279, 3) (pgm 17 rfl)) (fun r25 h26 => ?_) rfl
    refine so_join (jf := fun (t27 : Int32) (h28 : PH) => stI h28 (rt this 24) 10 s8 t27 (fun (h29 : PH) => lt (s8 + Int32.ofInt 1) (fun (x30 : Int32) => rec8 x30 h29))) (fun (j : Int32 → PH → Option (Int32 × PH)) => ∀ (t27 : Int32) (h28 : PH), SWo (QM mkI below args s D cA ad A) p l e (rmd 4) s m args below meth c 0 0 7 D cA ad A 46 [(0, .ref this), (1, .int a1), (2, .int a2), (3, .int x1), (4, .int x2), (5, .int s8)] [.int t27, .int s8, .ref (rt this 24)] h28 (j t27 h28)) ?_ (fun j46 hj46 => ?_)
    · intro t27 h28
      refine so_iast X (rk_12_24 this hk) (dkX12_serves (46, .iastore, 1) (pgm 26 rfl)) (fun h29 => ?_)
      refine so_iinc (i := 5) X 5 (dkX12_serves (47, .iinc 5 1, 3) (pgm 27 rfl)) rfl rfl (by decide) (Lf := fun x30 => [(5, .int x30), (0, .ref this), (1, .int a1), (2, .int a2), (3, .int x1), (4, .int x2)]) (fun _ => rfl) (fun x30 => ?_)
      refine so_goto (tgt := 8) X (dkX12_serves (50, .goto (-42), 3) (pgm 28 rfl)) rfl ?_
      exact so_pick X [1, 2, 3, 4, 5, 0] rfl (hrec8 x30 h29)
    refine so_if_eq (tgt := 45) X (dkX12_serves (31, .ifCond .eq 14, 3) (pgm 18 rfl)) rfl (fun _ => ?_) (fun _ => ?_)
    · refine so_iconst (v := (0 : Int32)) X (dkX12_serves (45, .iconst 0, 1) (pgm 25 rfl)) ic_0 ?_
      exact so_pick X [0, 1, 2, 3, 4, 5] rfl (hj46 (0 : Int32) h26)
    · refine so_aload_n (i := 0) X 0 (dkX12_serves (34, .aload_n 0, 1) (pgm 19 rfl)) rfl rfl ?_
      refine so_iload (i := 5) X 5 (dkX12_serves (35, .iload 5, 2) (pgm 20 rfl)) rfl ?_
      refine so_iload_n (i := 1) X 1 (dkX12_serves (37, .iload_n 1, 1) (pgm 21 rfl)) rfl rfl ?_
      refine so_iload_n (i := 2) X 2 (dkX12_serves (38, .iload_n 2, 1) (pgm 22 rfl)) rfl rfl ?_
      refine so_callV (n := 3) (As := [.int s8, .int a1, .int a2]) X (ct_X12_key l this s8 a1 a2 h26 hk) hk (by decide) rfl lk_2091 lk_2093 lk_98 lk_134 lk_2094 (by decide +kernel) rfl rfl rfl (rm_ok (by omega) (by decide)) ⟨Nat.zero_le _, Nat.zero_le _⟩ (Nat.le_of_ble_eq_true rfl) (dkX12_serves (39, .invokevirtual 345, 3) (pgm 23 rfl)) (fun r31 h32 => ?_) rfl
      refine so_goto (tgt := 46) X (dkX12_serves (42, .goto 4, 3) (pgm 24 rfl)) rfl ?_
      exact so_pick X [0, 1, 2, 3, 4, 5] rfl (hj46 r31 h32)
def pgX12_isRule : List (Nat × Instr × Nat) := [(0, .iload_n 0, 1), (1, .i2l, 1), (2, .lconst 0, 1), (3, .ldc2_w 349, 3), (6, .invokestatic 156, 3), (9, .ireturn, 1)]
theorem dkX12_isRule : ∀ q ∈ pgX12_isRule, decode cX12_isRule q.1 = .ok q.2 := by decide +kernel
def f_X12_isRule (a1 : Int32) (h0 : PH) : Option (Int32 × PH) :=
  cb (f_X12_within a1.toInt64 (0 : Int64) (3 : Int64) h0) (fun (r1 : Int32) (h2 : PH) => zr r1 h2)
set_option maxRecDepth 100000 in
set_option maxHeartbeats 4000000 in
theorem ct_X12_isRule (l : Launch) (a1 : Int32) (h0 : PH)  : CT mkI l yX12_isRule cX12_isRule 1 (some .boolean) (rmd 1) [.int a1] h0 (f_X12_isRule a1 h0) := by
  refine ct_of (by decide) (Nat.le_of_ble_eq_true rfl) ?_
  intro p e s m args below meth c D cA ad A X hr hlk
  have X : Cx p s m args c RX12 cX12_isRule 1 D cA ad A := X
  unfold f_X12_isRule
  refine so_pick (L' := [(0, .int a1)]) X [0] rfl ?_
  refine so_iload_n (i := 0) X 0 (dkX12_isRule (0, .iload_n 0, 1) (pgm 0 rfl)) rfl rfl ?_
  refine so_i2l X (dkX12_isRule (1, .i2l, 1) (pgm 1 rfl)) ?_
  refine so_lconst (v := (0 : Int64)) X (dkX12_isRule (2, .lconst 0, 1) (pgm 2 rfl)) lc_0 ?_
  refine so_ldc2 X lk_2082 (dkX12_isRule (3, .ldc2_w 349, 3) (pgm 3 rfl)) ?_
  refine so_callS (n := 3) (As := [.long a1.toInt64, .long (0 : Int64), .long (3 : Int64)]) X (ct_X12_within l a1.toInt64 (0 : Int64) (3 : Int64) h0 ) lk_1832 lk_1833 lk_134 lk_1834 (by decide +kernel) rfl rfl rfl (rm_ok (by omega) (by decide)) ⟨Nat.zero_le _, Nat.zero_le _⟩ (Nat.le_of_ble_eq_true rfl) (dkX12_isRule (6, .invokestatic 156, 3) (pgm 4 rfl)) (fun r1 h2 => ?_) rfl
  exact so_zret X hr hlk (dkX12_isRule (9, .ireturn, 1) (pgm 5 rfl))
def pgX12_isBody : List (Nat × Instr × Nat) := [(0, .iload_n 0, 1), (1, .i2l, 1), (2, .lconst 0, 1), (3, .ldc2_w 308, 3), (6, .invokestatic 156, 3), (9, .ireturn, 1)]
theorem dkX12_isBody : ∀ q ∈ pgX12_isBody, decode cX12_isBody q.1 = .ok q.2 := by decide +kernel
def f_X12_isBody (a1 : Int32) (h0 : PH) : Option (Int32 × PH) :=
  cb (f_X12_within a1.toInt64 (0 : Int64) (5 : Int64) h0) (fun (r1 : Int32) (h2 : PH) => zr r1 h2)
set_option maxRecDepth 100000 in
set_option maxHeartbeats 4000000 in
theorem ct_X12_isBody (l : Launch) (a1 : Int32) (h0 : PH)  : CT mkI l yX12_isBody cX12_isBody 1 (some .boolean) (rmd 1) [.int a1] h0 (f_X12_isBody a1 h0) := by
  refine ct_of (by decide) (Nat.le_of_ble_eq_true rfl) ?_
  intro p e s m args below meth c D cA ad A X hr hlk
  have X : Cx p s m args c RX12 cX12_isBody 1 D cA ad A := X
  unfold f_X12_isBody
  refine so_pick (L' := [(0, .int a1)]) X [0] rfl ?_
  refine so_iload_n (i := 0) X 0 (dkX12_isBody (0, .iload_n 0, 1) (pgm 0 rfl)) rfl rfl ?_
  refine so_i2l X (dkX12_isBody (1, .i2l, 1) (pgm 1 rfl)) ?_
  refine so_lconst (v := (0 : Int64)) X (dkX12_isBody (2, .lconst 0, 1) (pgm 2 rfl)) lc_0 ?_
  refine so_ldc2 X lk_1957 (dkX12_isBody (3, .ldc2_w 308, 3) (pgm 3 rfl)) ?_
  refine so_callS (n := 3) (As := [.long a1.toInt64, .long (0 : Int64), .long (5 : Int64)]) X (ct_X12_within l a1.toInt64 (0 : Int64) (5 : Int64) h0 ) lk_1832 lk_1833 lk_134 lk_1834 (by decide +kernel) rfl rfl rfl (rm_ok (by omega) (by decide)) ⟨Nat.zero_le _, Nat.zero_le _⟩ (Nat.le_of_ble_eq_true rfl) (dkX12_isBody (6, .invokestatic 156, 3) (pgm 4 rfl)) (fun r1 h2 => ?_) rfl
  exact so_zret X hr hlk (dkX12_isBody (9, .ireturn, 1) (pgm 5 rfl))
def pgX12_served : List (Nat × Instr × Nat) := [(0, .aload_n 0, 1), (1, .iconst 0, 1), (2, .putfield 92, 3), (5, .iload_n 1, 1), (6, .invokestatic 351, 3), (9, .ifCond .ne 9, 3), (12, .aload_n 0, 1), (13, .iconst 1, 1), (14, .invokevirtual 233, 3), (17, .ireturn, 1), (18, .aload_n 0, 1), (19, .invokevirtual 316, 3), (22, .aload_n 0, 1), (23, .invokevirtual 354, 3), (26, .aload_n 0, 1), (27, .iload_n 1, 1), (28, .aload_n 0, 1), (29, .getfield 9, 3), (32, .bipush 7, 2), (34, .iaload, 1), (35, .invokevirtual 357, 3), (38, .ireturn, 1)]
theorem dkX12_served : ∀ q ∈ pgX12_served, decode cX12_served q.1 = .ok q.2 := by decide +kernel
def f_X12_served (this : Nat) (a1 : Int32) (h0 : PH) : Option (Int32 × PH) :=
  lt (pI h0 this 5 (0 : Int32)) (fun (h1 : PH) => cb (f_X12_isRule a1 h1) (fun (r2 : Int32) (h3 : PH) => if r2 = 0 then (cb (f_X12_fails this (1 : Int32) h3) (fun (r11 : Int32) (h12 : PH) => some (r11, h12))) else (cb (f_X12_laysPlans this h3) (fun (r4 : Unit) (h5 : PH) => cb (f_X12_asksAsItIs this h5) (fun (r6 : Unit) (h7 : PH) => ldI h7 (rt this 0) 1200 (7 : Int32) (fun (x8 : Int32) => cb (f_X12_serves this a1 x8 h7) (fun (r9 : Int32) (h10 : PH) => some (r9, h10))))))))
set_option maxRecDepth 100000 in
set_option maxHeartbeats 4000000 in
theorem ct_X12_served (l : Launch) (this : Nat) (a1 : Int32) (h0 : PH) (hk : (kd this).1 = 12) : CT mkI l yX12_served cX12_served 2 (some .int) (rmd 5) [.ref this, .int a1] h0 (f_X12_served this a1 h0) := by
  refine ct_of (by decide) (Nat.le_of_ble_eq_true rfl) ?_
  intro p e s m args below meth c D cA ad A X hr hlk
  have X : Cx p s m args c RX12 cX12_served 2 D cA ad A := X
  unfold f_X12_served
  refine so_pick (L' := [(0, .ref this), (1, .int a1)]) X [0, 1] rfl ?_
  refine so_aload_n (i := 0) X 0 (dkX12_served (0, .aload_n 0, 1) (pgm 0 rfl)) rfl rfl ?_
  refine so_iconst (v := (0 : Int32)) X (dkX12_served (1, .iconst 0, 1) (pgm 1 rfl)) ic_0 ?_
  refine sf_putI X ff_12_5 ft_12 rfl lk_1707 hk rfl rfl (dkX12_served (2, .putfield 92, 3) (pgm 2 rfl)) (fun h1 => ?_)
  refine so_iload_n (i := 1) X 1 (dkX12_served (5, .iload_n 1, 1) (pgm 3 rfl)) rfl rfl ?_
  refine so_callS (n := 1) (As := [.int a1]) X (ct_X12_isRule l a1 h1 ) lk_2079 lk_2080 lk_134 lk_2081 (by decide +kernel) rfl rfl rfl (rm_ok (by omega) (by decide)) ⟨Nat.zero_le _, Nat.zero_le _⟩ (Nat.le_of_ble_eq_true rfl) (dkX12_served (6, .invokestatic 351, 3) (pgm 4 rfl)) (fun r2 h3 => ?_) rfl
  refine so_if_ne (tgt := 18) X (dkX12_served (9, .ifCond .ne 9, 3) (pgm 5 rfl)) rfl (fun _ => ?_) (fun _ => ?_)
  · refine so_aload_n (i := 0) X 0 (dkX12_served (18, .aload_n 0, 1) (pgm 10 rfl)) rfl rfl ?_
    refine so_callV (n := 0) (As := []) X (ct_X12_laysPlans l this h3 hk) hk (by decide) rfl lk_2010 lk_2012 lk_90 lk_134 lk_2013 (by decide +kernel) rfl rfl rfl (rm_ok (by omega) (by decide)) ⟨Nat.zero_le _, Nat.zero_le _⟩ (Nat.le_of_ble_eq_true rfl) (dkX12_served (19, .invokevirtual 316, 3) (pgm 11 rfl)) (fun r4 h5 => ?_) rfl
    refine so_aload_n (i := 0) X 0 (dkX12_served (22, .aload_n 0, 1) (pgm 12 rfl)) rfl rfl ?_
    refine so_callV (n := 0) (As := []) X (ct_X12_asksAsItIs l this h5 hk) hk (by decide) rfl lk_2083 lk_2085 lk_96 lk_134 lk_2086 (by decide +kernel) rfl rfl rfl (rm_ok (by omega) (by decide)) ⟨Nat.zero_le _, Nat.zero_le _⟩ (Nat.le_of_ble_eq_true rfl) (dkX12_served (23, .invokevirtual 354, 3) (pgm 13 rfl)) (fun r6 h7 => ?_) rfl
    refine so_aload_n (i := 0) X 0 (dkX12_served (26, .aload_n 0, 1) (pgm 14 rfl)) rfl rfl ?_
    refine so_iload_n (i := 1) X 1 (dkX12_served (27, .iload_n 1, 1) (pgm 15 rfl)) rfl rfl ?_
    refine so_aload_n (i := 0) X 0 (dkX12_served (28, .aload_n 0, 1) (pgm 16 rfl)) rfl rfl ?_
    refine sf_getR X ff_12_0 lk_1702 hk (dkX12_served (29, .getfield 9, 3) (pgm 17 rfl)) ?_
    refine so_bipush (v := (7 : Int32)) X (dkX12_served (32, .bipush 7, 2) (pgm 18 rfl)) bp_7 ?_
    refine so_iald X (rk_12_0 this hk) (dkX12_served (34, .iaload, 1) (pgm 19 rfl)) (fun x8 => ?_)
    refine so_callV (n := 2) (As := [.int a1, .int x8]) X (ct_X12_serves l this a1 x8 h7 hk) hk (by decide) rfl lk_2087 lk_2089 lk_97 lk_134 lk_2090 (by decide +kernel) rfl rfl rfl (rm_ok (by omega) (by decide)) ⟨Nat.zero_le _, Nat.zero_le _⟩ (Nat.le_of_ble_eq_true rfl) (dkX12_served (35, .invokevirtual 357, 3) (pgm 20 rfl)) (fun r9 h10 => ?_) rfl
    exact so_iret X hr hlk (dkX12_served (38, .ireturn, 1) (pgm 21 rfl))
  · refine so_aload_n (i := 0) X 0 (dkX12_served (12, .aload_n 0, 1) (pgm 6 rfl)) rfl rfl ?_
    refine so_iconst (v := (1 : Int32)) X (dkX12_served (13, .iconst 1, 1) (pgm 7 rfl)) ic_1 ?_
    refine so_callV (n := 1) (As := [.int (1 : Int32)]) X (ct_X12_fails l this (1 : Int32) h3 hk) hk (by decide) rfl lk_1835 lk_1837 lk_61 lk_134 lk_1838 (by decide +kernel) rfl rfl rfl (rm_ok (by omega) (by decide)) ⟨Nat.zero_le _, Nat.zero_le _⟩ (Nat.le_of_ble_eq_true rfl) (dkX12_served (14, .invokevirtual 233, 3) (pgm 8 rfl)) (fun r11 h12 => ?_) rfl
    exact so_iret X hr hlk (dkX12_served (17, .ireturn, 1) (pgm 9 rfl))
def pgX12_shareOf : List (Nat × Instr × Nat) := [(0, .iconst 0, 1), (1, .istore_n 3, 1), (2, .iconst 0, 1), (3, .istore 4, 2), (5, .iload 4, 2), (7, .aload_n 0, 1), (8, .getfield 9, 3), (11, .iconst 5, 1), (12, .iaload, 1), (13, .if_icmp .ge 49, 3), (16, .iload_n 3, 1), (17, .iload_n 2, 1), (18, .iload 4, 2), (20, .invokestatic 279, 3), (23, .ifCond .eq 30, 3), (26, .aload_n 0, 1), (27, .getfield 9, 3), (30, .bipush 24, 2), (32, .iload 4, 2), (34, .iadd, 1), (35, .iaload, 1), (36, .iload_n 1, 1), (37, .if_icmp .ne 16, 3), (40, .aload_n 0, 1), (41, .getfield 9, 3), (44, .bipush 34, 2), (46, .iload 4, 2), (48, .iadd, 1), (49, .iaload, 1), (50, .goto 4, 3), (53, .iconst 0, 1), (54, .iadd, 1), (55, .istore_n 3, 1), (56, .iinc 4 1, 3), (59, .goto (-54), 3), (62, .iload_n 3, 1), (63, .ireturn, 1)]
theorem dkX12_shareOf : ∀ q ∈ pgX12_shareOf, decode cX12_shareOf q.1 = .ok q.2 := by decide +kernel
def b_X12_shareOf_5 (this : Nat) (a1 : Int32) (a2 : Int32) (rec5 : (Int32 × Int32) → PH → Option (Int32 × PH)) (s5 : Int32 × Int32) (hh5 : PH) : Option (Int32 × PH) :=
  ldI hh5 (rt this 0) 1200 (5 : Int32) (fun (x3 : Int32) => if x3 ≤ s5.2 then (some (s5.1, hh5)) else (cb (f_X12_has a2 s5.2 hh5) (fun (r4 : Int32) (h5 : PH) => lt (fun (t6 : Int32) (h7 : PH) => lt (s5.1 + t6) (fun (x8 : Int32) => lt (s5.2 + Int32.ofInt 1) (fun (x9 : Int32) => rec5 (x8, x9) h7))) (fun (j54 : Int32 → PH → Option (Int32 × PH)) => lt (fun (h10 : PH) => j54 (0 : Int32) h10) (fun (j53 : PH → Option (Int32 × PH)) => if r4 = 0 then (j53 h5) else (ldI h5 (rt this 0) 1200 ((24 : Int32) + s5.2) (fun (x11 : Int32) => if x11 = a1 then (ldI h5 (rt this 0) 1200 ((34 : Int32) + s5.2) (fun (x12 : Int32) => j54 x12 h5)) else (j53 h5))))))))
def f_X12_shareOf (this : Nat) (a1 : Int32) (a2 : Int32) (h0 : PH) : Option (Int32 × PH) :=
  lt (0 : Int32) (fun (x1 : Int32) => lt (0 : Int32) (fun (x2 : Int32) => lp (b_X12_shareOf_5 this a1 a2) FU (x1, x2) h0))
set_option maxRecDepth 100000 in
set_option maxHeartbeats 4000000 in
theorem ct_X12_shareOf (l : Launch) (this : Nat) (a1 : Int32) (a2 : Int32) (h0 : PH) (hk : (kd this).1 = 12) : CT mkI l yX12_shareOf cX12_shareOf 5 (some .int) (rmd 1) [.ref this, .int a1, .int a2] h0 (f_X12_shareOf this a1 a2 h0) := by
  refine ct_of (by decide) (Nat.le_of_ble_eq_true rfl) ?_
  intro p e s m args below meth c D cA ad A X hr hlk
  have X : Cx p s m args c RX12 cX12_shareOf 5 D cA ad A := X
  unfold f_X12_shareOf
  refine so_pick (L' := [(0, .ref this), (1, .int a1), (2, .int a2)]) X [0, 1, 2] rfl ?_
  refine so_iconst (v := (0 : Int32)) X (dkX12_shareOf (0, .iconst 0, 1) (pgm 0 rfl)) ic_0 ?_
  refine so_istore_n (i := 3) X (dkX12_shareOf (1, .istore_n 3, 1) (pgm 1 rfl)) rfl (by decide) (Lf := fun x1 => [(3, .int x1), (0, .ref this), (1, .int a1), (2, .int a2)]) (fun _ => rfl) (fun x1 => ?_)
  refine so_iconst (v := (0 : Int32)) X (dkX12_shareOf (2, .iconst 0, 1) (pgm 2 rfl)) ic_0 ?_
  refine so_istore (i := 4) X (dkX12_shareOf (3, .istore 4, 2) (pgm 3 rfl)) (by decide) (Lf := fun x2 => [(4, .int x2), (3, .int x1), (0, .ref this), (1, .int a1), (2, .int a2)]) (fun _ => rfl) (fun x2 => ?_)
  refine so_pick (L' := [(0, .ref this), (1, .int a1), (2, .int a2), (3, .int x1), (4, .int x2)]) X [2, 3, 4, 1, 0] rfl ?_
  refine so_loop (body := b_X12_shareOf_5 this a1 a2) (fun (s5 : Int32 × Int32) => [(0, .ref this), (1, .int a1), (2, .int a2), (3, .int s5.1), (4, .int s5.2)]) (fun rec5 hrec5 s5 hh5 => ?_) FU (x1, x2) h0
  unfold b_X12_shareOf_5
  refine so_iload (i := 4) X 4 (dkX12_shareOf (5, .iload 4, 2) (pgm 4 rfl)) rfl ?_
  refine so_aload_n (i := 0) X 0 (dkX12_shareOf (7, .aload_n 0, 1) (pgm 5 rfl)) rfl rfl ?_
  refine sf_getR X ff_12_0 lk_1702 hk (dkX12_shareOf (8, .getfield 9, 3) (pgm 6 rfl)) ?_
  refine so_iconst (v := (5 : Int32)) X (dkX12_shareOf (11, .iconst 5, 1) (pgm 7 rfl)) ic_5 ?_
  refine so_iald X (rk_12_0 this hk) (dkX12_shareOf (12, .iaload, 1) (pgm 8 rfl)) (fun x3 => ?_)
  refine so_icmp_ge (tgt := 62) X (dkX12_shareOf (13, .if_icmp .ge 49, 3) (pgm 9 rfl)) rfl (fun _ => ?_) (fun _ => ?_)
  · refine so_iload_n (i := 3) X 3 (dkX12_shareOf (62, .iload_n 3, 1) (pgm 35 rfl)) rfl rfl ?_
    exact so_iret X hr hlk (dkX12_shareOf (63, .ireturn, 1) (pgm 36 rfl))
  · refine so_iload_n (i := 3) X 3 (dkX12_shareOf (16, .iload_n 3, 1) (pgm 10 rfl)) rfl rfl ?_
    refine so_iload_n (i := 2) X 2 (dkX12_shareOf (17, .iload_n 2, 1) (pgm 11 rfl)) rfl rfl ?_
    refine so_iload (i := 4) X 4 (dkX12_shareOf (18, .iload 4, 2) (pgm 12 rfl)) rfl ?_
    refine so_callS (n := 2) (As := [.int a2, .int s5.2]) X (ct_X12_has l a2 s5.2 hh5 ) lk_1676 lk_1677 lk_134 lk_1678 (by decide +kernel) rfl rfl rfl (rm_ok (by omega) (by decide)) ⟨Nat.zero_le _, Nat.zero_le _⟩ (Nat.le_of_ble_eq_true rfl) (dkX12_shareOf (20, .invokestatic 279, 3) (pgm 13 rfl)) (fun r4 h5 => ?_) rfl
    refine so_join (jf := fun (t6 : Int32) (h7 : PH) => lt (s5.1 + t6) (fun (x8 : Int32) => lt (s5.2 + Int32.ofInt 1) (fun (x9 : Int32) => rec5 (x8, x9) h7))) (fun (j : Int32 → PH → Option (Int32 × PH)) => ∀ (t6 : Int32) (h7 : PH), SWo (QM mkI below args s D cA ad A) p l e (rmd 1) s m args below meth c 0 0 5 D cA ad A 54 [(0, .ref this), (1, .int a1), (2, .int a2), (4, .int s5.2)] [.int t6, .int s5.1] h7 (j t6 h7)) ?_ (fun j54 hj54 => ?_)
    · intro t6 h7
      refine so_iadd X (dkX12_shareOf (54, .iadd, 1) (pgm 31 rfl)) ?_
      refine so_istore_n (i := 3) X (dkX12_shareOf (55, .istore_n 3, 1) (pgm 32 rfl)) rfl (by decide) (Lf := fun x8 => [(3, .int x8), (0, .ref this), (1, .int a1), (2, .int a2), (4, .int s5.2)]) (fun _ => rfl) (fun x8 => ?_)
      refine so_iinc (i := 4) X 4 (dkX12_shareOf (56, .iinc 4 1, 3) (pgm 33 rfl)) rfl rfl (by decide) (Lf := fun x9 => [(4, .int x9), (3, .int x8), (0, .ref this), (1, .int a1), (2, .int a2)]) (fun _ => rfl) (fun x9 => ?_)
      refine so_goto (tgt := 5) X (dkX12_shareOf (59, .goto (-54), 3) (pgm 34 rfl)) rfl ?_
      exact so_pick X [2, 3, 4, 1, 0] rfl (hrec5 (x8, x9) h7)
    refine so_join (jf := fun (h10 : PH) => j54 (0 : Int32) h10) (fun (j : PH → Option (Int32 × PH)) => ∀  (h10 : PH), SWo (QM mkI below args s D cA ad A) p l e (rmd 1) s m args below meth c 0 0 5 D cA ad A 53 [(0, .ref this), (1, .int a1), (2, .int a2), (4, .int s5.2)] [.int s5.1] h10 (j h10)) ?_ (fun j53 hj53 => ?_)
    · intro h10
      refine so_iconst (v := (0 : Int32)) X (dkX12_shareOf (53, .iconst 0, 1) (pgm 30 rfl)) ic_0 ?_
      exact so_pick X [0, 1, 2, 3] rfl (hj54 (0 : Int32) h10)
    refine so_if_eq (tgt := 53) X (dkX12_shareOf (23, .ifCond .eq 30, 3) (pgm 14 rfl)) rfl (fun _ => ?_) (fun _ => ?_)
    · exact so_pick X [0, 1, 2, 4] rfl (hj53 h5)
    · refine so_aload_n (i := 0) X 0 (dkX12_shareOf (26, .aload_n 0, 1) (pgm 15 rfl)) rfl rfl ?_
      refine sf_getR X ff_12_0 lk_1702 hk (dkX12_shareOf (27, .getfield 9, 3) (pgm 16 rfl)) ?_
      refine so_bipush (v := (24 : Int32)) X (dkX12_shareOf (30, .bipush 24, 2) (pgm 17 rfl)) bp_24 ?_
      refine so_iload (i := 4) X 4 (dkX12_shareOf (32, .iload 4, 2) (pgm 18 rfl)) rfl ?_
      refine so_iadd X (dkX12_shareOf (34, .iadd, 1) (pgm 19 rfl)) ?_
      refine so_iald X (rk_12_0 this hk) (dkX12_shareOf (35, .iaload, 1) (pgm 20 rfl)) (fun x11 => ?_)
      refine so_iload_n (i := 1) X 1 (dkX12_shareOf (36, .iload_n 1, 1) (pgm 21 rfl)) rfl rfl ?_
      refine so_icmp_ne (tgt := 53) X (dkX12_shareOf (37, .if_icmp .ne 16, 3) (pgm 22 rfl)) rfl (fun _ => ?_) (fun _ => ?_)
      · exact so_pick X [0, 1, 2, 4] rfl (hj53 h5)
      · refine so_aload_n (i := 0) X 0 (dkX12_shareOf (40, .aload_n 0, 1) (pgm 23 rfl)) rfl rfl ?_
        refine sf_getR X ff_12_0 lk_1702 hk (dkX12_shareOf (41, .getfield 9, 3) (pgm 24 rfl)) ?_
        refine so_bipush (v := (34 : Int32)) X (dkX12_shareOf (44, .bipush 34, 2) (pgm 25 rfl)) bp_34 ?_
        refine so_iload (i := 4) X 4 (dkX12_shareOf (46, .iload 4, 2) (pgm 26 rfl)) rfl ?_
        refine so_iadd X (dkX12_shareOf (48, .iadd, 1) (pgm 27 rfl)) ?_
        refine so_iald X (rk_12_0 this hk) (dkX12_shareOf (49, .iaload, 1) (pgm 28 rfl)) (fun x12 => ?_)
        refine so_goto (tgt := 54) X (dkX12_shareOf (50, .goto 4, 3) (pgm 29 rfl)) rfl ?_
        exact so_pick X [0, 1, 2, 4] rfl (hj54 x12 h5)
def pgX12_share : List (Nat × Instr × Nat) := [(0, .aload_n 0, 1), (1, .iconst 0, 1), (2, .putfield 92, 3), (5, .iload_n 1, 1), (6, .invokestatic 360, 3), (9, .ifCond .eq 10, 3), (12, .iload_n 2, 1), (13, .invokestatic 351, 3), (16, .ifCond .ne 9, 3), (19, .aload_n 0, 1), (20, .iconst 1, 1), (21, .invokevirtual 233, 3), (24, .ireturn, 1), (25, .aload_n 0, 1), (26, .invokevirtual 316, 3), (29, .aload_n 0, 1), (30, .invokevirtual 354, 3), (33, .aload_n 0, 1), (34, .iload_n 1, 1), (35, .aload_n 0, 1), (36, .iload_n 2, 1), (37, .aload_n 0, 1), (38, .getfield 9, 3), (41, .bipush 7, 2), (43, .iaload, 1), (44, .invokevirtual 357, 3), (47, .invokevirtual 363, 3), (50, .ireturn, 1)]
theorem dkX12_share : ∀ q ∈ pgX12_share, decode cX12_share q.1 = .ok q.2 := by decide +kernel
def f_X12_share (this : Nat) (a1 : Int32) (a2 : Int32) (h0 : PH) : Option (Int32 × PH) :=
  lt (pI h0 this 5 (0 : Int32)) (fun (h1 : PH) => cb (f_X12_isBody a1 h1) (fun (r2 : Int32) (h3 : PH) => lt (fun (h4 : PH) => cb (f_X12_fails this (1 : Int32) h4) (fun (r5 : Int32) (h6 : PH) => some (r5, h6))) (fun (j19 : PH → Option (Int32 × PH)) => if r2 = 0 then (j19 h3) else (cb (f_X12_isRule a2 h3) (fun (r7 : Int32) (h8 : PH) => if r7 = 0 then (j19 h8) else (cb (f_X12_laysPlans this h8) (fun (r9 : Unit) (h10 : PH) => cb (f_X12_asksAsItIs this h10) (fun (r11 : Unit) (h12 : PH) => ldI h12 (rt this 0) 1200 (7 : Int32) (fun (x13 : Int32) => cb (f_X12_serves this a2 x13 h12) (fun (r14 : Int32) (h15 : PH) => cb (f_X12_shareOf this a1 r14 h15) (fun (r16 : Int32) (h17 : PH) => some (r16, h17))))))))))))
set_option maxRecDepth 100000 in
set_option maxHeartbeats 4000000 in
theorem ct_X12_share (l : Launch) (this : Nat) (a1 : Int32) (a2 : Int32) (h0 : PH) (hk : (kd this).1 = 12) : CT mkI l yX12_share cX12_share 3 (some .int) (rmd 5) [.ref this, .int a1, .int a2] h0 (f_X12_share this a1 a2 h0) := by
  refine ct_of (by decide) (Nat.le_of_ble_eq_true rfl) ?_
  intro p e s m args below meth c D cA ad A X hr hlk
  have X : Cx p s m args c RX12 cX12_share 3 D cA ad A := X
  unfold f_X12_share
  refine so_pick (L' := [(0, .ref this), (1, .int a1), (2, .int a2)]) X [0, 1, 2] rfl ?_
  refine so_aload_n (i := 0) X 0 (dkX12_share (0, .aload_n 0, 1) (pgm 0 rfl)) rfl rfl ?_
  refine so_iconst (v := (0 : Int32)) X (dkX12_share (1, .iconst 0, 1) (pgm 1 rfl)) ic_0 ?_
  refine sf_putI X ff_12_5 ft_12 rfl lk_1707 hk rfl rfl (dkX12_share (2, .putfield 92, 3) (pgm 2 rfl)) (fun h1 => ?_)
  refine so_iload_n (i := 1) X 1 (dkX12_share (5, .iload_n 1, 1) (pgm 3 rfl)) rfl rfl ?_
  refine so_callS (n := 1) (As := [.int a1]) X (ct_X12_isBody l a1 h1 ) lk_2103 lk_2104 lk_134 lk_2105 (by decide +kernel) rfl rfl rfl (rm_ok (by omega) (by decide)) ⟨Nat.zero_le _, Nat.zero_le _⟩ (Nat.le_of_ble_eq_true rfl) (dkX12_share (6, .invokestatic 360, 3) (pgm 4 rfl)) (fun r2 h3 => ?_) rfl
  refine so_join (jf := fun (h4 : PH) => cb (f_X12_fails this (1 : Int32) h4) (fun (r5 : Int32) (h6 : PH) => some (r5, h6))) (fun (j : PH → Option (Int32 × PH)) => ∀  (h4 : PH), SWo (QM mkI below args s D cA ad A) p l e (rmd 5) s m args below meth c 0 0 3 D cA ad A 19 [(0, .ref this)] [] h4 (j h4)) ?_ (fun j19 hj19 => ?_)
  · intro h4
    refine so_aload_n (i := 0) X 0 (dkX12_share (19, .aload_n 0, 1) (pgm 9 rfl)) rfl rfl ?_
    refine so_iconst (v := (1 : Int32)) X (dkX12_share (20, .iconst 1, 1) (pgm 10 rfl)) ic_1 ?_
    refine so_callV (n := 1) (As := [.int (1 : Int32)]) X (ct_X12_fails l this (1 : Int32) h4 hk) hk (by decide) rfl lk_1835 lk_1837 lk_61 lk_134 lk_1838 (by decide +kernel) rfl rfl rfl (rm_ok (by omega) (by decide)) ⟨Nat.zero_le _, Nat.zero_le _⟩ (Nat.le_of_ble_eq_true rfl) (dkX12_share (21, .invokevirtual 233, 3) (pgm 11 rfl)) (fun r5 h6 => ?_) rfl
    exact so_iret X hr hlk (dkX12_share (24, .ireturn, 1) (pgm 12 rfl))
  refine so_if_eq (tgt := 19) X (dkX12_share (9, .ifCond .eq 10, 3) (pgm 5 rfl)) rfl (fun _ => ?_) (fun _ => ?_)
  · exact so_pick X [0] rfl (hj19 h3)
  · refine so_iload_n (i := 2) X 2 (dkX12_share (12, .iload_n 2, 1) (pgm 6 rfl)) rfl rfl ?_
    refine so_callS (n := 1) (As := [.int a2]) X (ct_X12_isRule l a2 h3 ) lk_2079 lk_2080 lk_134 lk_2081 (by decide +kernel) rfl rfl rfl (rm_ok (by omega) (by decide)) ⟨Nat.zero_le _, Nat.zero_le _⟩ (Nat.le_of_ble_eq_true rfl) (dkX12_share (13, .invokestatic 351, 3) (pgm 7 rfl)) (fun r7 h8 => ?_) rfl
    refine so_if_ne (tgt := 25) X (dkX12_share (16, .ifCond .ne 9, 3) (pgm 8 rfl)) rfl (fun _ => ?_) (fun _ => ?_)
    · refine so_aload_n (i := 0) X 0 (dkX12_share (25, .aload_n 0, 1) (pgm 13 rfl)) rfl rfl ?_
      refine so_callV (n := 0) (As := []) X (ct_X12_laysPlans l this h8 hk) hk (by decide) rfl lk_2010 lk_2012 lk_90 lk_134 lk_2013 (by decide +kernel) rfl rfl rfl (rm_ok (by omega) (by decide)) ⟨Nat.zero_le _, Nat.zero_le _⟩ (Nat.le_of_ble_eq_true rfl) (dkX12_share (26, .invokevirtual 316, 3) (pgm 14 rfl)) (fun r9 h10 => ?_) rfl
      refine so_aload_n (i := 0) X 0 (dkX12_share (29, .aload_n 0, 1) (pgm 15 rfl)) rfl rfl ?_
      refine so_callV (n := 0) (As := []) X (ct_X12_asksAsItIs l this h10 hk) hk (by decide) rfl lk_2083 lk_2085 lk_96 lk_134 lk_2086 (by decide +kernel) rfl rfl rfl (rm_ok (by omega) (by decide)) ⟨Nat.zero_le _, Nat.zero_le _⟩ (Nat.le_of_ble_eq_true rfl) (dkX12_share (30, .invokevirtual 354, 3) (pgm 16 rfl)) (fun r11 h12 => ?_) rfl
      refine so_aload_n (i := 0) X 0 (dkX12_share (33, .aload_n 0, 1) (pgm 17 rfl)) rfl rfl ?_
      refine so_iload_n (i := 1) X 1 (dkX12_share (34, .iload_n 1, 1) (pgm 18 rfl)) rfl rfl ?_
      refine so_aload_n (i := 0) X 0 (dkX12_share (35, .aload_n 0, 1) (pgm 19 rfl)) rfl rfl ?_
      refine so_iload_n (i := 2) X 2 (dkX12_share (36, .iload_n 2, 1) (pgm 20 rfl)) rfl rfl ?_
      refine so_aload_n (i := 0) X 0 (dkX12_share (37, .aload_n 0, 1) (pgm 21 rfl)) rfl rfl ?_
      refine sf_getR X ff_12_0 lk_1702 hk (dkX12_share (38, .getfield 9, 3) (pgm 22 rfl)) ?_
      refine so_bipush (v := (7 : Int32)) X (dkX12_share (41, .bipush 7, 2) (pgm 23 rfl)) bp_7 ?_
      refine so_iald X (rk_12_0 this hk) (dkX12_share (43, .iaload, 1) (pgm 24 rfl)) (fun x13 => ?_)
      refine so_callV (n := 2) (As := [.int a2, .int x13]) X (ct_X12_serves l this a2 x13 h12 hk) hk (by decide) rfl lk_2087 lk_2089 lk_97 lk_134 lk_2090 (by decide +kernel) rfl rfl rfl (rm_ok (by omega) (by decide)) ⟨Nat.zero_le _, Nat.zero_le _⟩ (Nat.le_of_ble_eq_true rfl) (dkX12_share (44, .invokevirtual 357, 3) (pgm 25 rfl)) (fun r14 h15 => ?_) rfl
      refine so_callV (n := 2) (As := [.int a1, .int r14]) X (ct_X12_shareOf l this a1 r14 h15 hk) hk (by decide) rfl lk_2106 lk_2108 lk_100 lk_134 lk_2109 (by decide +kernel) rfl rfl rfl (rm_ok (by omega) (by decide)) ⟨Nat.zero_le _, Nat.zero_le _⟩ (Nat.le_of_ble_eq_true rfl) (dkX12_share (47, .invokevirtual 363, 3) (pgm 26 rfl)) (fun r16 h17 => ?_) rfl
      exact so_iret X hr hlk (dkX12_share (50, .ireturn, 1) (pgm 27 rfl))
    · exact so_pick X [0] rfl (hj19 h8)
def pgX12_shareBy : List (Nat × Instr × Nat) := [(0, .iload_n 3, 1), (1, .bipush 10, 2), (3, .irem, 1), (4, .istore 4, 2), (6, .aload_n 0, 1), (7, .iload 4, 2), (9, .invokevirtual 305, 3), (12, .ifCond .eq 46, 3), (15, .aload_n 0, 1), (16, .iload 4, 2), (18, .invokevirtual 289, 3), (21, .ifCond .eq 37, 3), (24, .aload_n 0, 1), (25, .getfield 9, 3), (28, .bipush 24, 2), (30, .iload 4, 2), (32, .iadd, 1), (33, .iaload, 1), (34, .iload_n 1, 1), (35, .if_icmp .ne 23, 3), (38, .iload_n 3, 1), (39, .bipush 20, 2), (41, .if_icmp .ge 19, 3), (44, .aload_n 0, 1), (45, .getfield 9, 3), (48, .bipush 44, 2), (50, .iload 4, 2), (52, .iadd, 1), (53, .iaload, 1), (54, .iconst 1, 1), (55, .if_icmp .ne 5, 3), (58, .iconst (-1), 1), (59, .ireturn, 1), (60, .aload_n 0, 1), (61, .invokevirtual 354, 3), (64, .iload_n 3, 1), (65, .bipush 30, 2), (67, .if_icmp .lt 18, 3), (70, .aload_n 0, 1), (71, .getfield 55, 3), (74, .iload 4, 2), (76, .dup2, 1), (77, .iaload, 1), (78, .bipush 9, 2), (80, .iadd, 1), (81, .iastore, 1), (82, .goto 18, 3), (85, .iload_n 3, 1), (86, .bipush 20, 2), (88, .if_icmp .lt 12, 3), (91, .aload_n 0, 1), (92, .getfield 58, 3), (95, .iload 4, 2), (97, .bipush 9, 2), (99, .iastore, 1), (100, .aload_n 0, 1), (101, .iload_n 1, 1), (102, .aload_n 0, 1), (103, .iload_n 2, 1), (104, .iload_n 3, 1), (105, .bipush 20, 2), (107, .if_icmp .ge 20, 3), (110, .aload_n 0, 1), (111, .getfield 9, 3), (114, .bipush 7, 2), (116, .iaload, 1), (117, .iconst 1, 1), (118, .iload 4, 2), (120, .ishl, 1), (121, .iconst (-1), 1), (122, .ixor, 1), (123, .iand, 1), (124, .goto 10, 3), (127, .aload_n 0, 1), (128, .getfield 9, 3), (131, .bipush 7, 2), (133, .iaload, 1), (134, .invokevirtual 357, 3), (137, .invokevirtual 363, 3), (140, .ireturn, 1)]
theorem dkX12_shareBy : ∀ q ∈ pgX12_shareBy, decode cX12_shareBy q.1 = .ok q.2 := by decide +kernel
def f_X12_shareBy (this : Nat) (a1 : Int32) (a2 : Int32) (a3 : Int32) (h0 : PH) : Option (Int32 × PH) :=
  nz (10 : Int32) (lt (a3 - a3 / (10 : Int32) * (10 : Int32)) (fun (x1 : Int32) => cb (f_X12_isWish this x1 h0) (fun (r2 : Int32) (h3 : PH) => lt (fun (h4 : PH) => some ((-1 : Int32), h4)) (fun (j58 : PH → Option (Int32 × PH)) => if r2 = 0 then (j58 h3) else (cb (f_X12_isOpen this x1 h3) (fun (r5 : Int32) (h6 : PH) => if r5 = 0 then (j58 h6) else (ldI h6 (rt this 0) 1200 ((24 : Int32) + x1) (fun (x7 : Int32) => if x7 = a1 then (lt (fun (h8 : PH) => cb (f_X12_asksAsItIs this h8) (fun (r9 : Unit) (h10 : PH) => lt (fun (h11 : PH) => lt (fun (t12 : Int32) (h13 : PH) => cb (f_X12_serves this a2 t12 h13) (fun (r14 : Int32) (h15 : PH) => cb (f_X12_shareOf this a1 r14 h15) (fun (r16 : Int32) (h17 : PH) => some (r16, h17)))) (fun (j134 : Int32 → PH → Option (Int32 × PH)) => if (20 : Int32) ≤ a3 then (ldI h11 (rt this 0) 1200 (7 : Int32) (fun (x18 : Int32) => j134 x18 h11)) else (ldI h11 (rt this 0) 1200 (7 : Int32) (fun (x19 : Int32) => j134 (x19 &&& (((1 : Int32) <<< (x1 &&& 31)) ^^^ (-1 : Int32))) h11)))) (fun (j100 : PH → Option (Int32 × PH)) => if a3 < (30 : Int32) then (if a3 < (20 : Int32) then (j100 h10) else (stI h10 (rt this 26) 10 x1 (9 : Int32) (fun (h20 : PH) => j100 h20))) else (ldI h10 (rt this 25) 10 x1 (fun (x21 : Int32) => stI h10 (rt this 25) 10 x1 (x21 + (9 : Int32)) (fun (h22 : PH) => j100 h22)))))) (fun (j60 : PH → Option (Int32 × PH)) => if (20 : Int32) ≤ a3 then (j60 h6) else (ldI h6 (rt this 0) 1200 ((44 : Int32) + x1) (fun (x23 : Int32) => if x23 = (1 : Int32) then (j58 h6) else (j60 h6))))) else (j58 h6)))))))))
set_option maxRecDepth 100000 in
set_option maxHeartbeats 4000000 in
theorem ct_X12_shareBy (l : Launch) (this : Nat) (a1 : Int32) (a2 : Int32) (a3 : Int32) (h0 : PH) (hk : (kd this).1 = 12) : CT mkI l yX12_shareBy cX12_shareBy 5 (some .int) (rmd 5) [.ref this, .int a1, .int a2, .int a3] h0 (f_X12_shareBy this a1 a2 a3 h0) := by
  refine ct_of (by decide) (Nat.le_of_ble_eq_true rfl) ?_
  intro p e s m args below meth c D cA ad A X hr hlk
  have X : Cx p s m args c RX12 cX12_shareBy 5 D cA ad A := X
  unfold f_X12_shareBy
  refine so_pick (L' := [(0, .ref this), (1, .int a1), (2, .int a2), (3, .int a3)]) X [0, 1, 2, 3] rfl ?_
  refine so_iload_n (i := 3) X 3 (dkX12_shareBy (0, .iload_n 3, 1) (pgm 0 rfl)) rfl rfl ?_
  refine so_bipush (v := (10 : Int32)) X (dkX12_shareBy (1, .bipush 10, 2) (pgm 1 rfl)) bp_10 ?_
  refine so_irem X (dkX12_shareBy (3, .irem, 1) (pgm 2 rfl)) (fun _ => ?_)
  refine so_istore (i := 4) X (dkX12_shareBy (4, .istore 4, 2) (pgm 3 rfl)) (by decide) (Lf := fun x1 => [(4, .int x1), (0, .ref this), (1, .int a1), (2, .int a2), (3, .int a3)]) (fun _ => rfl) (fun x1 => ?_)
  refine so_aload_n (i := 0) X 1 (dkX12_shareBy (6, .aload_n 0, 1) (pgm 4 rfl)) rfl rfl ?_
  refine so_iload (i := 4) X 0 (dkX12_shareBy (7, .iload 4, 2) (pgm 5 rfl)) rfl ?_
  refine so_callV (n := 1) (As := [.int x1]) X (ct_X12_isWish l this x1 h0 hk) hk (by decide) rfl lk_1953 lk_1955 lk_82 lk_134 lk_1956 (by decide +kernel) rfl rfl rfl (rm_ok (by omega) (by decide)) ⟨Nat.zero_le _, Nat.zero_le _⟩ (Nat.le_of_ble_eq_true rfl) (dkX12_shareBy (9, .invokevirtual 305, 3) (pgm 6 rfl)) (fun r2 h3 => ?_) rfl
  refine so_join (jf := fun (h4 : PH) => some ((-1 : Int32), h4)) (fun (j : PH → Option (Int32 × PH)) => ∀  (h4 : PH), SWo (QM mkI below args s D cA ad A) p l e (rmd 5) s m args below meth c 0 0 5 D cA ad A 58 [] [] h4 (j h4)) ?_ (fun j58 hj58 => ?_)
  · intro h4
    refine so_iconst (v := (-1 : Int32)) X (dkX12_shareBy (58, .iconst (-1), 1) (pgm 31 rfl)) ic_m1 ?_
    exact so_iret X hr hlk (dkX12_shareBy (59, .ireturn, 1) (pgm 32 rfl))
  refine so_if_eq (tgt := 58) X (dkX12_shareBy (12, .ifCond .eq 46, 3) (pgm 7 rfl)) rfl (fun _ => ?_) (fun _ => ?_)
  · exact so_pick X [] rfl (hj58 h3)
  · refine so_aload_n (i := 0) X 1 (dkX12_shareBy (15, .aload_n 0, 1) (pgm 8 rfl)) rfl rfl ?_
    refine so_iload (i := 4) X 0 (dkX12_shareBy (16, .iload 4, 2) (pgm 9 rfl)) rfl ?_
    refine so_callV (n := 1) (As := [.int x1]) X (ct_X12_isOpen l this x1 h3 hk) hk (by decide) rfl lk_1962 lk_1964 lk_84 lk_134 lk_1965 (by decide +kernel) rfl rfl rfl (rm_ok (by omega) (by decide)) ⟨Nat.zero_le _, Nat.zero_le _⟩ (Nat.le_of_ble_eq_true rfl) (dkX12_shareBy (18, .invokevirtual 289, 3) (pgm 10 rfl)) (fun r5 h6 => ?_) rfl
    refine so_if_eq (tgt := 58) X (dkX12_shareBy (21, .ifCond .eq 37, 3) (pgm 11 rfl)) rfl (fun _ => ?_) (fun _ => ?_)
    · exact so_pick X [] rfl (hj58 h6)
    · refine so_aload_n (i := 0) X 1 (dkX12_shareBy (24, .aload_n 0, 1) (pgm 12 rfl)) rfl rfl ?_
      refine sf_getR X ff_12_0 lk_1702 hk (dkX12_shareBy (25, .getfield 9, 3) (pgm 13 rfl)) ?_
      refine so_bipush (v := (24 : Int32)) X (dkX12_shareBy (28, .bipush 24, 2) (pgm 14 rfl)) bp_24 ?_
      refine so_iload (i := 4) X 0 (dkX12_shareBy (30, .iload 4, 2) (pgm 15 rfl)) rfl ?_
      refine so_iadd X (dkX12_shareBy (32, .iadd, 1) (pgm 16 rfl)) ?_
      refine so_iald X (rk_12_0 this hk) (dkX12_shareBy (33, .iaload, 1) (pgm 17 rfl)) (fun x7 => ?_)
      refine so_iload_n (i := 1) X 2 (dkX12_shareBy (34, .iload_n 1, 1) (pgm 18 rfl)) rfl rfl ?_
      refine so_icmp_ne (tgt := 58) X (dkX12_shareBy (35, .if_icmp .ne 23, 3) (pgm 19 rfl)) rfl (fun _ => ?_) (fun _ => ?_)
      · exact so_pick X [] rfl (hj58 h6)
      · refine so_iload_n (i := 3) X 4 (dkX12_shareBy (38, .iload_n 3, 1) (pgm 20 rfl)) rfl rfl ?_
        refine so_bipush (v := (20 : Int32)) X (dkX12_shareBy (39, .bipush 20, 2) (pgm 21 rfl)) bp_20 ?_
        refine so_join (jf := fun (h8 : PH) => cb (f_X12_asksAsItIs this h8) (fun (r9 : Unit) (h10 : PH) => lt (fun (h11 : PH) => lt (fun (t12 : Int32) (h13 : PH) => cb (f_X12_serves this a2 t12 h13) (fun (r14 : Int32) (h15 : PH) => cb (f_X12_shareOf this a1 r14 h15) (fun (r16 : Int32) (h17 : PH) => some (r16, h17)))) (fun (j134 : Int32 → PH → Option (Int32 × PH)) => if (20 : Int32) ≤ a3 then (ldI h11 (rt this 0) 1200 (7 : Int32) (fun (x18 : Int32) => j134 x18 h11)) else (ldI h11 (rt this 0) 1200 (7 : Int32) (fun (x19 : Int32) => j134 (x19 &&& (((1 : Int32) <<< (x1 &&& 31)) ^^^ (-1 : Int32))) h11)))) (fun (j100 : PH → Option (Int32 × PH)) => if a3 < (30 : Int32) then (if a3 < (20 : Int32) then (j100 h10) else (stI h10 (rt this 26) 10 x1 (9 : Int32) (fun (h20 : PH) => j100 h20))) else (ldI h10 (rt this 25) 10 x1 (fun (x21 : Int32) => stI h10 (rt this 25) 10 x1 (x21 + (9 : Int32)) (fun (h22 : PH) => j100 h22)))))) (fun (j : PH → Option (Int32 × PH)) => ∀  (h8 : PH), SWo (QM mkI below args s D cA ad A) p l e (rmd 5) s m args below meth c 0 0 5 D cA ad A 60 [(0, .ref this), (1, .int a1), (2, .int a2), (3, .int a3), (4, .int x1)] [] h8 (j h8)) ?_ (fun j60 hj60 => ?_)
        · intro h8
          refine so_aload_n (i := 0) X 0 (dkX12_shareBy (60, .aload_n 0, 1) (pgm 33 rfl)) rfl rfl ?_
          refine so_callV (n := 0) (As := []) X (ct_X12_asksAsItIs l this h8 hk) hk (by decide) rfl lk_2083 lk_2085 lk_96 lk_134 lk_2086 (by decide +kernel) rfl rfl rfl (rm_ok (by omega) (by decide)) ⟨Nat.zero_le _, Nat.zero_le _⟩ (Nat.le_of_ble_eq_true rfl) (dkX12_shareBy (61, .invokevirtual 354, 3) (pgm 34 rfl)) (fun r9 h10 => ?_) rfl
          refine so_iload_n (i := 3) X 3 (dkX12_shareBy (64, .iload_n 3, 1) (pgm 35 rfl)) rfl rfl ?_
          refine so_bipush (v := (30 : Int32)) X (dkX12_shareBy (65, .bipush 30, 2) (pgm 36 rfl)) bp_30 ?_
          refine so_join (jf := fun (h11 : PH) => lt (fun (t12 : Int32) (h13 : PH) => cb (f_X12_serves this a2 t12 h13) (fun (r14 : Int32) (h15 : PH) => cb (f_X12_shareOf this a1 r14 h15) (fun (r16 : Int32) (h17 : PH) => some (r16, h17)))) (fun (j134 : Int32 → PH → Option (Int32 × PH)) => if (20 : Int32) ≤ a3 then (ldI h11 (rt this 0) 1200 (7 : Int32) (fun (x18 : Int32) => j134 x18 h11)) else (ldI h11 (rt this 0) 1200 (7 : Int32) (fun (x19 : Int32) => j134 (x19 &&& (((1 : Int32) <<< (x1 &&& 31)) ^^^ (-1 : Int32))) h11)))) (fun (j : PH → Option (Int32 × PH)) => ∀  (h11 : PH), SWo (QM mkI below args s D cA ad A) p l e (rmd 5) s m args below meth c 0 0 5 D cA ad A 100 [(0, .ref this), (1, .int a1), (2, .int a2), (3, .int a3), (4, .int x1)] [] h11 (j h11)) ?_ (fun j100 hj100 => ?_)
          · intro h11
            refine so_aload_n (i := 0) X 0 (dkX12_shareBy (100, .aload_n 0, 1) (pgm 55 rfl)) rfl rfl ?_
            refine so_iload_n (i := 1) X 1 (dkX12_shareBy (101, .iload_n 1, 1) (pgm 56 rfl)) rfl rfl ?_
            refine so_aload_n (i := 0) X 0 (dkX12_shareBy (102, .aload_n 0, 1) (pgm 57 rfl)) rfl rfl ?_
            refine so_iload_n (i := 2) X 2 (dkX12_shareBy (103, .iload_n 2, 1) (pgm 58 rfl)) rfl rfl ?_
            refine so_iload_n (i := 3) X 3 (dkX12_shareBy (104, .iload_n 3, 1) (pgm 59 rfl)) rfl rfl ?_
            refine so_bipush (v := (20 : Int32)) X (dkX12_shareBy (105, .bipush 20, 2) (pgm 60 rfl)) bp_20 ?_
            refine so_join (jf := fun (t12 : Int32) (h13 : PH) => cb (f_X12_serves this a2 t12 h13) (fun (r14 : Int32) (h15 : PH) => cb (f_X12_shareOf this a1 r14 h15) (fun (r16 : Int32) (h17 : PH) => some (r16, h17)))) (fun (j : Int32 → PH → Option (Int32 × PH)) => ∀ (t12 : Int32) (h13 : PH), SWo (QM mkI below args s D cA ad A) p l e (rmd 5) s m args below meth c 0 0 5 D cA ad A 134 [] [.int t12, .int a2, .ref this, .int a1, .ref this] h13 (j t12 h13)) ?_ (fun j134 hj134 => ?_)
            · intro t12 h13
              refine so_callV (n := 2) (As := [.int a2, .int t12]) X (ct_X12_serves l this a2 t12 h13 hk) hk (by decide) rfl lk_2087 lk_2089 lk_97 lk_134 lk_2090 (by decide +kernel) rfl rfl rfl (rm_ok (by omega) (by decide)) ⟨Nat.zero_le _, Nat.zero_le _⟩ (Nat.le_of_ble_eq_true rfl) (dkX12_shareBy (134, .invokevirtual 357, 3) (pgm 77 rfl)) (fun r14 h15 => ?_) rfl
              refine so_callV (n := 2) (As := [.int a1, .int r14]) X (ct_X12_shareOf l this a1 r14 h15 hk) hk (by decide) rfl lk_2106 lk_2108 lk_100 lk_134 lk_2109 (by decide +kernel) rfl rfl rfl (rm_ok (by omega) (by decide)) ⟨Nat.zero_le _, Nat.zero_le _⟩ (Nat.le_of_ble_eq_true rfl) (dkX12_shareBy (137, .invokevirtual 363, 3) (pgm 78 rfl)) (fun r16 h17 => ?_) rfl
              exact so_iret X hr hlk (dkX12_shareBy (140, .ireturn, 1) (pgm 79 rfl))
            refine so_icmp_ge (tgt := 127) X (dkX12_shareBy (107, .if_icmp .ge 20, 3) (pgm 61 rfl)) rfl (fun _ => ?_) (fun _ => ?_)
            · refine so_aload_n (i := 0) X 0 (dkX12_shareBy (127, .aload_n 0, 1) (pgm 73 rfl)) rfl rfl ?_
              refine sf_getR X ff_12_0 lk_1702 hk (dkX12_shareBy (128, .getfield 9, 3) (pgm 74 rfl)) ?_
              refine so_bipush (v := (7 : Int32)) X (dkX12_shareBy (131, .bipush 7, 2) (pgm 75 rfl)) bp_7 ?_
              refine so_iald X (rk_12_0 this hk) (dkX12_shareBy (133, .iaload, 1) (pgm 76 rfl)) (fun x18 => ?_)
              exact so_pick X [] rfl (hj134 x18 h11)
            · refine so_aload_n (i := 0) X 0 (dkX12_shareBy (110, .aload_n 0, 1) (pgm 62 rfl)) rfl rfl ?_
              refine sf_getR X ff_12_0 lk_1702 hk (dkX12_shareBy (111, .getfield 9, 3) (pgm 63 rfl)) ?_
              refine so_bipush (v := (7 : Int32)) X (dkX12_shareBy (114, .bipush 7, 2) (pgm 64 rfl)) bp_7 ?_
              refine so_iald X (rk_12_0 this hk) (dkX12_shareBy (116, .iaload, 1) (pgm 65 rfl)) (fun x19 => ?_)
              refine so_iconst (v := (1 : Int32)) X (dkX12_shareBy (117, .iconst 1, 1) (pgm 66 rfl)) ic_1 ?_
              refine so_iload (i := 4) X 4 (dkX12_shareBy (118, .iload 4, 2) (pgm 67 rfl)) rfl ?_
              refine so_ishl X (dkX12_shareBy (120, .ishl, 1) (pgm 68 rfl)) ?_
              refine so_iconst (v := (-1 : Int32)) X (dkX12_shareBy (121, .iconst (-1), 1) (pgm 69 rfl)) ic_m1 ?_
              refine so_ixor X (dkX12_shareBy (122, .ixor, 1) (pgm 70 rfl)) ?_
              refine so_iand X (dkX12_shareBy (123, .iand, 1) (pgm 71 rfl)) ?_
              refine so_goto (tgt := 134) X (dkX12_shareBy (124, .goto 10, 3) (pgm 72 rfl)) rfl ?_
              exact so_pick X [] rfl (hj134 (x19 &&& (((1 : Int32) <<< (x1 &&& 31)) ^^^ (-1 : Int32))) h11)
          refine so_icmp_lt (tgt := 85) X (dkX12_shareBy (67, .if_icmp .lt 18, 3) (pgm 37 rfl)) rfl (fun _ => ?_) (fun _ => ?_)
          · refine so_iload_n (i := 3) X 3 (dkX12_shareBy (85, .iload_n 3, 1) (pgm 47 rfl)) rfl rfl ?_
            refine so_bipush (v := (20 : Int32)) X (dkX12_shareBy (86, .bipush 20, 2) (pgm 48 rfl)) bp_20 ?_
            refine so_icmp_lt (tgt := 100) X (dkX12_shareBy (88, .if_icmp .lt 12, 3) (pgm 49 rfl)) rfl (fun _ => ?_) (fun _ => ?_)
            · exact so_pick X [0, 1, 2, 3, 4] rfl (hj100 h10)
            · refine so_aload_n (i := 0) X 0 (dkX12_shareBy (91, .aload_n 0, 1) (pgm 50 rfl)) rfl rfl ?_
              refine sf_getR X ff_12_26 lk_1728 hk (dkX12_shareBy (92, .getfield 58, 3) (pgm 51 rfl)) ?_
              refine so_iload (i := 4) X 4 (dkX12_shareBy (95, .iload 4, 2) (pgm 52 rfl)) rfl ?_
              refine so_bipush (v := (9 : Int32)) X (dkX12_shareBy (97, .bipush 9, 2) (pgm 53 rfl)) bp_9 ?_
              refine so_iast X (rk_12_26 this hk) (dkX12_shareBy (99, .iastore, 1) (pgm 54 rfl)) (fun h20 => ?_)
              exact so_pick X [0, 1, 2, 3, 4] rfl (hj100 h20)
          · refine so_aload_n (i := 0) X 0 (dkX12_shareBy (70, .aload_n 0, 1) (pgm 38 rfl)) rfl rfl ?_
            refine sf_getR X ff_12_25 lk_1727 hk (dkX12_shareBy (71, .getfield 55, 3) (pgm 39 rfl)) ?_
            refine so_iload (i := 4) X 4 (dkX12_shareBy (74, .iload 4, 2) (pgm 40 rfl)) rfl ?_
            refine so_dup2 X (dkX12_shareBy (76, .dup2, 1) (pgm 41 rfl)) rfl rfl ?_
            refine so_iald X (rk_12_25 this hk) (dkX12_shareBy (77, .iaload, 1) (pgm 42 rfl)) (fun x21 => ?_)
            refine so_bipush (v := (9 : Int32)) X (dkX12_shareBy (78, .bipush 9, 2) (pgm 43 rfl)) bp_9 ?_
            refine so_iadd X (dkX12_shareBy (80, .iadd, 1) (pgm 44 rfl)) ?_
            refine so_iast X (rk_12_25 this hk) (dkX12_shareBy (81, .iastore, 1) (pgm 45 rfl)) (fun h22 => ?_)
            refine so_goto (tgt := 100) X (dkX12_shareBy (82, .goto 18, 3) (pgm 46 rfl)) rfl ?_
            exact so_pick X [0, 1, 2, 3, 4] rfl (hj100 h22)
        refine so_icmp_ge (tgt := 60) X (dkX12_shareBy (41, .if_icmp .ge 19, 3) (pgm 22 rfl)) rfl (fun _ => ?_) (fun _ => ?_)
        · exact so_pick X [1, 2, 3, 4, 0] rfl (hj60 h6)
        · refine so_aload_n (i := 0) X 1 (dkX12_shareBy (44, .aload_n 0, 1) (pgm 23 rfl)) rfl rfl ?_
          refine sf_getR X ff_12_0 lk_1702 hk (dkX12_shareBy (45, .getfield 9, 3) (pgm 24 rfl)) ?_
          refine so_bipush (v := (44 : Int32)) X (dkX12_shareBy (48, .bipush 44, 2) (pgm 25 rfl)) bp_44 ?_
          refine so_iload (i := 4) X 0 (dkX12_shareBy (50, .iload 4, 2) (pgm 26 rfl)) rfl ?_
          refine so_iadd X (dkX12_shareBy (52, .iadd, 1) (pgm 27 rfl)) ?_
          refine so_iald X (rk_12_0 this hk) (dkX12_shareBy (53, .iaload, 1) (pgm 28 rfl)) (fun x23 => ?_)
          refine so_iconst (v := (1 : Int32)) X (dkX12_shareBy (54, .iconst 1, 1) (pgm 29 rfl)) ic_1 ?_
          refine so_icmp_ne (tgt := 60) X (dkX12_shareBy (55, .if_icmp .ne 5, 3) (pgm 30 rfl)) rfl (fun _ => ?_) (fun _ => ?_)
          · exact so_pick X [1, 2, 3, 4, 0] rfl (hj60 h6)
          · exact so_pick X [] rfl (hj58 h6)
def pgX12_gains : List (Nat × Instr × Nat) := [(0, .aload_n 0, 1), (1, .iconst 0, 1), (2, .putfield 92, 3), (5, .iload_n 1, 1), (6, .invokestatic 360, 3), (9, .ifCond .eq 20, 3), (12, .iload_n 2, 1), (13, .invokestatic 351, 3), (16, .ifCond .eq 13, 3), (19, .iload_n 3, 1), (20, .i2l, 1), (21, .lconst 0, 1), (22, .lconst 1, 1), (23, .invokestatic 156, 3), (26, .ifCond .ne 9, 3), (29, .aload_n 0, 1), (30, .iconst 1, 1), (31, .invokevirtual 233, 3), (34, .ireturn, 1), (35, .aload_n 0, 1), (36, .invokevirtual 316, 3), (39, .aload_n 0, 1), (40, .invokevirtual 354, 3), (43, .aload_n 0, 1), (44, .iload_n 1, 1), (45, .aload_n 0, 1), (46, .iload_n 2, 1), (47, .aload_n 0, 1), (48, .getfield 9, 3), (51, .bipush 7, 2), (53, .iaload, 1), (54, .invokevirtual 357, 3), (57, .invokevirtual 363, 3), (60, .istore 4, 2), (62, .iload 4, 2), (64, .istore 5, 2), (66, .iconst (-1), 1), (67, .istore 6, 2), (69, .bipush 10, 2), (71, .istore 7, 2), (73, .iload 7, 2), (75, .bipush 40, 2), (77, .if_icmp .ge 37, 3), (80, .aload_n 0, 1), (81, .iload_n 1, 1), (82, .iload_n 2, 1), (83, .iload 7, 2), (85, .invokevirtual 366, 3), (88, .istore 8, 2), (90, .iload 8, 2), (92, .iload 4, 2), (94, .if_icmp .gt 6, 3), (97, .goto 11, 3), (100, .iload 8, 2), (102, .istore 4, 2), (104, .iload 7, 2), (106, .istore 6, 2), (108, .iinc 7 1, 3), (111, .goto (-38), 3), (114, .iload_n 3, 1), (115, .ifCond .ne 11, 3), (118, .iload 4, 2), (120, .iload 5, 2), (122, .isub, 1), (123, .goto 5, 3), (126, .iload 6, 2), (128, .ireturn, 1)]
theorem dkX12_gains : ∀ q ∈ pgX12_gains, decode cX12_gains q.1 = .ok q.2 := by decide +kernel
def b_X12_gains_73 (this : Nat) (a1 : Int32) (a2 : Int32) (j114 : Int32 → Int32 → PH → Option (Int32 × PH)) (rec73 : (Int32 × Int32 × Int32) → PH → Option (Int32 × PH)) (s73 : Int32 × Int32 × Int32) (hh73 : PH) : Option (Int32 × PH) :=
  if (40 : Int32) ≤ s73.2.2 then (j114 s73.1 s73.2.1 hh73) else (cb (f_X12_shareBy this a1 a2 s73.2.2 hh73) (fun (r29 : Int32) (h30 : PH) => lt r29 (fun (x31 : Int32) => lt (fun (y32 : Int32) (y33 : Int32) (h34 : PH) => lt (s73.2.2 + Int32.ofInt 1) (fun (x35 : Int32) => rec73 (y32, y33, x35) h34)) (fun (j108 : Int32 → Int32 → PH → Option (Int32 × PH)) => if s73.1 < x31 then (lt x31 (fun (x36 : Int32) => lt s73.2.2 (fun (x37 : Int32) => j108 x36 x37 h30))) else (j108 s73.1 s73.2.1 h30)))))
def f_X12_gains (this : Nat) (a1 : Int32) (a2 : Int32) (a3 : Int32) (h0 : PH) : Option (Int32 × PH) :=
  lt (pI h0 this 5 (0 : Int32)) (fun (h1 : PH) => cb (f_X12_isBody a1 h1) (fun (r2 : Int32) (h3 : PH) => lt (fun (h4 : PH) => cb (f_X12_fails this (1 : Int32) h4) (fun (r5 : Int32) (h6 : PH) => some (r5, h6))) (fun (j29 : PH → Option (Int32 × PH)) => if r2 = 0 then (j29 h3) else (cb (f_X12_isRule a2 h3) (fun (r7 : Int32) (h8 : PH) => if r7 = 0 then (j29 h8) else (cb (f_X12_within a3.toInt64 (0 : Int64) (1 : Int64) h8) (fun (r9 : Int32) (h10 : PH) => if r9 = 0 then (j29 h10) else (cb (f_X12_laysPlans this h10) (fun (r11 : Unit) (h12 : PH) => cb (f_X12_asksAsItIs this h12) (fun (r13 : Unit) (h14 : PH) => ldI h14 (rt this 0) 1200 (7 : Int32) (fun (x15 : Int32) => cb (f_X12_serves this a2 x15 h14) (fun (r16 : Int32) (h17 : PH) => cb (f_X12_shareOf this a1 r16 h17) (fun (r18 : Int32) (h19 : PH) => lt r18 (fun (x20 : Int32) => lt x20 (fun (x21 : Int32) => lt (-1 : Int32) (fun (x22 : Int32) => lt (10 : Int32) (fun (x23 : Int32) => lt (fun (y24 : Int32) (y25 : Int32) (h26 : PH) => lt (fun (t27 : Int32) (h28 : PH) => some (t27, h28)) (fun (j128 : Int32 → PH → Option (Int32 × PH)) => if a3 = 0 then (j128 (y24 - x21) h26) else (j128 y25 h26))) (fun (j114 : Int32 → Int32 → PH → Option (Int32 × PH)) => lp (b_X12_gains_73 this a1 a2 j114) FU (x20, x22, x23) h19))))))))))))))))))
set_option maxRecDepth 100000 in
set_option maxHeartbeats 4000000 in
theorem ct_X12_gains (l : Launch) (this : Nat) (a1 : Int32) (a2 : Int32) (a3 : Int32) (h0 : PH) (hk : (kd this).1 = 12) : CT mkI l yX12_gains cX12_gains 9 (some .int) (rmd 6) [.ref this, .int a1, .int a2, .int a3] h0 (f_X12_gains this a1 a2 a3 h0) := by
  refine ct_of (by decide) (Nat.le_of_ble_eq_true rfl) ?_
  intro p e s m args below meth c D cA ad A X hr hlk
  have X : Cx p s m args c RX12 cX12_gains 9 D cA ad A := X
  unfold f_X12_gains
  refine so_pick (L' := [(0, .ref this), (1, .int a1), (2, .int a2), (3, .int a3)]) X [0, 1, 2, 3] rfl ?_
  refine so_aload_n (i := 0) X 0 (dkX12_gains (0, .aload_n 0, 1) (pgm 0 rfl)) rfl rfl ?_
  refine so_iconst (v := (0 : Int32)) X (dkX12_gains (1, .iconst 0, 1) (pgm 1 rfl)) ic_0 ?_
  refine sf_putI X ff_12_5 ft_12 rfl lk_1707 hk rfl rfl (dkX12_gains (2, .putfield 92, 3) (pgm 2 rfl)) (fun h1 => ?_)
  refine so_iload_n (i := 1) X 1 (dkX12_gains (5, .iload_n 1, 1) (pgm 3 rfl)) rfl rfl ?_
  refine so_callS (n := 1) (As := [.int a1]) X (ct_X12_isBody l a1 h1 ) lk_2103 lk_2104 lk_134 lk_2105 (by decide +kernel) rfl rfl rfl (rm_ok (by omega) (by decide)) ⟨Nat.zero_le _, Nat.zero_le _⟩ (Nat.le_of_ble_eq_true rfl) (dkX12_gains (6, .invokestatic 360, 3) (pgm 4 rfl)) (fun r2 h3 => ?_) rfl
  refine so_join (jf := fun (h4 : PH) => cb (f_X12_fails this (1 : Int32) h4) (fun (r5 : Int32) (h6 : PH) => some (r5, h6))) (fun (j : PH → Option (Int32 × PH)) => ∀  (h4 : PH), SWo (QM mkI below args s D cA ad A) p l e (rmd 6) s m args below meth c 0 0 9 D cA ad A 29 [(0, .ref this)] [] h4 (j h4)) ?_ (fun j29 hj29 => ?_)
  · intro h4
    refine so_aload_n (i := 0) X 0 (dkX12_gains (29, .aload_n 0, 1) (pgm 15 rfl)) rfl rfl ?_
    refine so_iconst (v := (1 : Int32)) X (dkX12_gains (30, .iconst 1, 1) (pgm 16 rfl)) ic_1 ?_
    refine so_callV (n := 1) (As := [.int (1 : Int32)]) X (ct_X12_fails l this (1 : Int32) h4 hk) hk (by decide) rfl lk_1835 lk_1837 lk_61 lk_134 lk_1838 (by decide +kernel) rfl rfl rfl (rm_ok (by omega) (by decide)) ⟨Nat.zero_le _, Nat.zero_le _⟩ (Nat.le_of_ble_eq_true rfl) (dkX12_gains (31, .invokevirtual 233, 3) (pgm 17 rfl)) (fun r5 h6 => ?_) rfl
    exact so_iret X hr hlk (dkX12_gains (34, .ireturn, 1) (pgm 18 rfl))
  refine so_if_eq (tgt := 29) X (dkX12_gains (9, .ifCond .eq 20, 3) (pgm 5 rfl)) rfl (fun _ => ?_) (fun _ => ?_)
  · exact so_pick X [0] rfl (hj29 h3)
  · refine so_iload_n (i := 2) X 2 (dkX12_gains (12, .iload_n 2, 1) (pgm 6 rfl)) rfl rfl ?_
    refine so_callS (n := 1) (As := [.int a2]) X (ct_X12_isRule l a2 h3 ) lk_2079 lk_2080 lk_134 lk_2081 (by decide +kernel) rfl rfl rfl (rm_ok (by omega) (by decide)) ⟨Nat.zero_le _, Nat.zero_le _⟩ (Nat.le_of_ble_eq_true rfl) (dkX12_gains (13, .invokestatic 351, 3) (pgm 7 rfl)) (fun r7 h8 => ?_) rfl
    refine so_if_eq (tgt := 29) X (dkX12_gains (16, .ifCond .eq 13, 3) (pgm 8 rfl)) rfl (fun _ => ?_) (fun _ => ?_)
    · exact so_pick X [0] rfl (hj29 h8)
    · refine so_iload_n (i := 3) X 3 (dkX12_gains (19, .iload_n 3, 1) (pgm 9 rfl)) rfl rfl ?_
      refine so_i2l X (dkX12_gains (20, .i2l, 1) (pgm 10 rfl)) ?_
      refine so_lconst (v := (0 : Int64)) X (dkX12_gains (21, .lconst 0, 1) (pgm 11 rfl)) lc_0 ?_
      refine so_lconst (v := (1 : Int64)) X (dkX12_gains (22, .lconst 1, 1) (pgm 12 rfl)) lc_1 ?_
      refine so_callS (n := 3) (As := [.long a3.toInt64, .long (0 : Int64), .long (1 : Int64)]) X (ct_X12_within l a3.toInt64 (0 : Int64) (1 : Int64) h8 ) lk_1832 lk_1833 lk_134 lk_1834 (by decide +kernel) rfl rfl rfl (rm_ok (by omega) (by decide)) ⟨Nat.zero_le _, Nat.zero_le _⟩ (Nat.le_of_ble_eq_true rfl) (dkX12_gains (23, .invokestatic 156, 3) (pgm 13 rfl)) (fun r9 h10 => ?_) rfl
      refine so_if_ne (tgt := 35) X (dkX12_gains (26, .ifCond .ne 9, 3) (pgm 14 rfl)) rfl (fun _ => ?_) (fun _ => ?_)
      · refine so_aload_n (i := 0) X 0 (dkX12_gains (35, .aload_n 0, 1) (pgm 19 rfl)) rfl rfl ?_
        refine so_callV (n := 0) (As := []) X (ct_X12_laysPlans l this h10 hk) hk (by decide) rfl lk_2010 lk_2012 lk_90 lk_134 lk_2013 (by decide +kernel) rfl rfl rfl (rm_ok (by omega) (by decide)) ⟨Nat.zero_le _, Nat.zero_le _⟩ (Nat.le_of_ble_eq_true rfl) (dkX12_gains (36, .invokevirtual 316, 3) (pgm 20 rfl)) (fun r11 h12 => ?_) rfl
        refine so_aload_n (i := 0) X 0 (dkX12_gains (39, .aload_n 0, 1) (pgm 21 rfl)) rfl rfl ?_
        refine so_callV (n := 0) (As := []) X (ct_X12_asksAsItIs l this h12 hk) hk (by decide) rfl lk_2083 lk_2085 lk_96 lk_134 lk_2086 (by decide +kernel) rfl rfl rfl (rm_ok (by omega) (by decide)) ⟨Nat.zero_le _, Nat.zero_le _⟩ (Nat.le_of_ble_eq_true rfl) (dkX12_gains (40, .invokevirtual 354, 3) (pgm 22 rfl)) (fun r13 h14 => ?_) rfl
        refine so_aload_n (i := 0) X 0 (dkX12_gains (43, .aload_n 0, 1) (pgm 23 rfl)) rfl rfl ?_
        refine so_iload_n (i := 1) X 1 (dkX12_gains (44, .iload_n 1, 1) (pgm 24 rfl)) rfl rfl ?_
        refine so_aload_n (i := 0) X 0 (dkX12_gains (45, .aload_n 0, 1) (pgm 25 rfl)) rfl rfl ?_
        refine so_iload_n (i := 2) X 2 (dkX12_gains (46, .iload_n 2, 1) (pgm 26 rfl)) rfl rfl ?_
        refine so_aload_n (i := 0) X 0 (dkX12_gains (47, .aload_n 0, 1) (pgm 27 rfl)) rfl rfl ?_
        refine sf_getR X ff_12_0 lk_1702 hk (dkX12_gains (48, .getfield 9, 3) (pgm 28 rfl)) ?_
        refine so_bipush (v := (7 : Int32)) X (dkX12_gains (51, .bipush 7, 2) (pgm 29 rfl)) bp_7 ?_
        refine so_iald X (rk_12_0 this hk) (dkX12_gains (53, .iaload, 1) (pgm 30 rfl)) (fun x15 => ?_)
        refine so_callV (n := 2) (As := [.int a2, .int x15]) X (ct_X12_serves l this a2 x15 h14 hk) hk (by decide) rfl lk_2087 lk_2089 lk_97 lk_134 lk_2090 (by decide +kernel) rfl rfl rfl (rm_ok (by omega) (by decide)) ⟨Nat.zero_le _, Nat.zero_le _⟩ (Nat.le_of_ble_eq_true rfl) (dkX12_gains (54, .invokevirtual 357, 3) (pgm 31 rfl)) (fun r16 h17 => ?_) rfl
        refine so_callV (n := 2) (As := [.int a1, .int r16]) X (ct_X12_shareOf l this a1 r16 h17 hk) hk (by decide) rfl lk_2106 lk_2108 lk_100 lk_134 lk_2109 (by decide +kernel) rfl rfl rfl (rm_ok (by omega) (by decide)) ⟨Nat.zero_le _, Nat.zero_le _⟩ (Nat.le_of_ble_eq_true rfl) (dkX12_gains (57, .invokevirtual 363, 3) (pgm 32 rfl)) (fun r18 h19 => ?_) rfl
        refine so_istore (i := 4) X (dkX12_gains (60, .istore 4, 2) (pgm 33 rfl)) (by decide) (Lf := fun x20 => [(4, .int x20), (0, .ref this), (1, .int a1), (2, .int a2), (3, .int a3)]) (fun _ => rfl) (fun x20 => ?_)
        refine so_iload (i := 4) X 0 (dkX12_gains (62, .iload 4, 2) (pgm 34 rfl)) rfl ?_
        refine so_istore (i := 5) X (dkX12_gains (64, .istore 5, 2) (pgm 35 rfl)) (by decide) (Lf := fun x21 => [(5, .int x21), (4, .int x20), (0, .ref this), (1, .int a1), (2, .int a2), (3, .int a3)]) (fun _ => rfl) (fun x21 => ?_)
        refine so_iconst (v := (-1 : Int32)) X (dkX12_gains (66, .iconst (-1), 1) (pgm 36 rfl)) ic_m1 ?_
        refine so_istore (i := 6) X (dkX12_gains (67, .istore 6, 2) (pgm 37 rfl)) (by decide) (Lf := fun x22 => [(6, .int x22), (5, .int x21), (4, .int x20), (0, .ref this), (1, .int a1), (2, .int a2), (3, .int a3)]) (fun _ => rfl) (fun x22 => ?_)
        refine so_bipush (v := (10 : Int32)) X (dkX12_gains (69, .bipush 10, 2) (pgm 38 rfl)) bp_10 ?_
        refine so_istore (i := 7) X (dkX12_gains (71, .istore 7, 2) (pgm 39 rfl)) (by decide) (Lf := fun x23 => [(7, .int x23), (6, .int x22), (5, .int x21), (4, .int x20), (0, .ref this), (1, .int a1), (2, .int a2), (3, .int a3)]) (fun _ => rfl) (fun x23 => ?_)
        refine so_join (jf := fun (y24 : Int32) (y25 : Int32) (h26 : PH) => lt (fun (t27 : Int32) (h28 : PH) => some (t27, h28)) (fun (j128 : Int32 → PH → Option (Int32 × PH)) => if a3 = 0 then (j128 (y24 - x21) h26) else (j128 y25 h26))) (fun (j : Int32 → Int32 → PH → Option (Int32 × PH)) => ∀ (y24 : Int32) (y25 : Int32) (h26 : PH), SWo (QM mkI below args s D cA ad A) p l e (rmd 6) s m args below meth c 0 0 9 D cA ad A 114 [(3, .int a3), (4, .int y24), (5, .int x21), (6, .int y25)] [] h26 (j y24 y25 h26)) ?_ (fun j114 hj114 => ?_)
        · intro y24 y25 h26
          refine so_iload_n (i := 3) X 0 (dkX12_gains (114, .iload_n 3, 1) (pgm 59 rfl)) rfl rfl ?_
          refine so_join (jf := fun (t27 : Int32) (h28 : PH) => some (t27, h28)) (fun (j : Int32 → PH → Option (Int32 × PH)) => ∀ (t27 : Int32) (h28 : PH), SWo (QM mkI below args s D cA ad A) p l e (rmd 6) s m args below meth c 0 0 9 D cA ad A 128 [] [.int t27] h28 (j t27 h28)) ?_ (fun j128 hj128 => ?_)
          · intro t27 h28
            exact so_iret X hr hlk (dkX12_gains (128, .ireturn, 1) (pgm 66 rfl))
          refine so_if_ne (tgt := 126) X (dkX12_gains (115, .ifCond .ne 11, 3) (pgm 60 rfl)) rfl (fun _ => ?_) (fun _ => ?_)
          · refine so_iload (i := 6) X 3 (dkX12_gains (126, .iload 6, 2) (pgm 65 rfl)) rfl ?_
            exact so_pick X [] rfl (hj128 y25 h26)
          · refine so_iload (i := 4) X 1 (dkX12_gains (118, .iload 4, 2) (pgm 61 rfl)) rfl ?_
            refine so_iload (i := 5) X 2 (dkX12_gains (120, .iload 5, 2) (pgm 62 rfl)) rfl ?_
            refine so_isub X (dkX12_gains (122, .isub, 1) (pgm 63 rfl)) ?_
            refine so_goto (tgt := 128) X (dkX12_gains (123, .goto 5, 3) (pgm 64 rfl)) rfl ?_
            exact so_pick X [] rfl (hj128 (y24 - x21) h26)
        refine so_pick (L' := [(0, .ref this), (1, .int a1), (2, .int a2), (3, .int a3), (4, .int x20), (5, .int x21), (6, .int x22), (7, .int x23)]) X [4, 5, 6, 7, 3, 2, 1, 0] rfl ?_
        refine so_loop (body := b_X12_gains_73 this a1 a2 j114) (fun (s73 : Int32 × Int32 × Int32) => [(0, .ref this), (1, .int a1), (2, .int a2), (3, .int a3), (4, .int s73.1), (5, .int x21), (6, .int s73.2.1), (7, .int s73.2.2)]) (fun rec73 hrec73 s73 hh73 => ?_) FU (x20, x22, x23) h19
        unfold b_X12_gains_73
        refine so_iload (i := 7) X 7 (dkX12_gains (73, .iload 7, 2) (pgm 40 rfl)) rfl ?_
        refine so_bipush (v := (40 : Int32)) X (dkX12_gains (75, .bipush 40, 2) (pgm 41 rfl)) bp_40 ?_
        refine so_icmp_ge (tgt := 114) X (dkX12_gains (77, .if_icmp .ge 37, 3) (pgm 42 rfl)) rfl (fun _ => ?_) (fun _ => ?_)
        · exact so_pick X [3, 4, 5, 6] rfl (hj114 s73.1 s73.2.1 hh73)
        · refine so_aload_n (i := 0) X 0 (dkX12_gains (80, .aload_n 0, 1) (pgm 43 rfl)) rfl rfl ?_
          refine so_iload_n (i := 1) X 1 (dkX12_gains (81, .iload_n 1, 1) (pgm 44 rfl)) rfl rfl ?_
          refine so_iload_n (i := 2) X 2 (dkX12_gains (82, .iload_n 2, 1) (pgm 45 rfl)) rfl rfl ?_
          refine so_iload (i := 7) X 7 (dkX12_gains (83, .iload 7, 2) (pgm 46 rfl)) rfl ?_
          refine so_callV (n := 3) (As := [.int a1, .int a2, .int s73.2.2]) X (ct_X12_shareBy l this a1 a2 s73.2.2 hh73 hk) hk (by decide) rfl lk_2114 lk_2116 lk_101 lk_134 lk_2117 (by decide +kernel) rfl rfl rfl (rm_ok (by omega) (by decide)) ⟨Nat.zero_le _, Nat.zero_le _⟩ (Nat.le_of_ble_eq_true rfl) (dkX12_gains (85, .invokevirtual 366, 3) (pgm 47 rfl)) (fun r29 h30 => ?_) rfl
          refine so_istore (i := 8) X (dkX12_gains (88, .istore 8, 2) (pgm 48 rfl)) (by decide) (Lf := fun x31 => [(8, .int x31), (0, .ref this), (1, .int a1), (2, .int a2), (3, .int a3), (4, .int s73.1), (5, .int x21), (6, .int s73.2.1), (7, .int s73.2.2)]) (fun _ => rfl) (fun x31 => ?_)
          refine so_iload (i := 8) X 0 (dkX12_gains (90, .iload 8, 2) (pgm 49 rfl)) rfl ?_
          refine so_iload (i := 4) X 5 (dkX12_gains (92, .iload 4, 2) (pgm 50 rfl)) rfl ?_
          refine so_join (jf := fun (y32 : Int32) (y33 : Int32) (h34 : PH) => lt (s73.2.2 + Int32.ofInt 1) (fun (x35 : Int32) => rec73 (y32, y33, x35) h34)) (fun (j : Int32 → Int32 → PH → Option (Int32 × PH)) => ∀ (y32 : Int32) (y33 : Int32) (h34 : PH), SWo (QM mkI below args s D cA ad A) p l e (rmd 6) s m args below meth c 0 0 9 D cA ad A 108 [(0, .ref this), (1, .int a1), (2, .int a2), (3, .int a3), (4, .int y32), (5, .int x21), (6, .int y33), (7, .int s73.2.2)] [] h34 (j y32 y33 h34)) ?_ (fun j108 hj108 => ?_)
          · intro y32 y33 h34
            refine so_iinc (i := 7) X 7 (dkX12_gains (108, .iinc 7 1, 3) (pgm 57 rfl)) rfl rfl (by decide) (Lf := fun x35 => [(7, .int x35), (0, .ref this), (1, .int a1), (2, .int a2), (3, .int a3), (4, .int y32), (5, .int x21), (6, .int y33)]) (fun _ => rfl) (fun x35 => ?_)
            refine so_goto (tgt := 73) X (dkX12_gains (111, .goto (-38), 3) (pgm 58 rfl)) rfl ?_
            exact so_pick X [1, 2, 3, 4, 5, 6, 7, 0] rfl (hrec73 (y32, y33, x35) h34)
          refine so_icmp_gt (tgt := 100) X (dkX12_gains (94, .if_icmp .gt 6, 3) (pgm 51 rfl)) rfl (fun _ => ?_) (fun _ => ?_)
          · refine so_iload (i := 8) X 0 (dkX12_gains (100, .iload 8, 2) (pgm 53 rfl)) rfl ?_
            refine so_istore (i := 4) X (dkX12_gains (102, .istore 4, 2) (pgm 54 rfl)) (by decide) (Lf := fun x36 => [(4, .int x36), (8, .int x31), (0, .ref this), (1, .int a1), (2, .int a2), (3, .int a3), (5, .int x21), (6, .int s73.2.1), (7, .int s73.2.2)]) (fun _ => rfl) (fun x36 => ?_)
            refine so_iload (i := 7) X 8 (dkX12_gains (104, .iload 7, 2) (pgm 55 rfl)) rfl ?_
            refine so_istore (i := 6) X (dkX12_gains (106, .istore 6, 2) (pgm 56 rfl)) (by decide) (Lf := fun x37 => [(6, .int x37), (4, .int x36), (8, .int x31), (0, .ref this), (1, .int a1), (2, .int a2), (3, .int a3), (5, .int x21), (7, .int s73.2.2)]) (fun _ => rfl) (fun x37 => ?_)
            exact so_pick X [3, 4, 5, 6, 1, 7, 0, 8] rfl (hj108 x36 x37 h30)
          · refine so_goto (tgt := 108) X (dkX12_gains (97, .goto 11, 3) (pgm 52 rfl)) rfl ?_
            exact so_pick X [1, 2, 3, 4, 5, 6, 7, 8] rfl (hj108 s73.1 s73.2.1 h30)
      · exact so_pick X [0] rfl (hj29 h10)
def pgX12_bestRule : List (Nat × Instr × Nat) := [(0, .aload_n 0, 1), (1, .iconst 0, 1), (2, .putfield 92, 3), (5, .aload_n 0, 1), (6, .invokevirtual 316, 3), (9, .aload_n 0, 1), (10, .invokevirtual 354, 3), (13, .iconst 0, 1), (14, .istore_n 1, 1), (15, .iconst 1, 1), (16, .istore_n 2, 1), (17, .iload_n 2, 1), (18, .iconst 4, 1), (19, .if_icmp .ge 46, 3), (22, .aload_n 0, 1), (23, .aload_n 0, 1), (24, .iload_n 2, 1), (25, .aload_n 0, 1), (26, .getfield 9, 3), (29, .bipush 7, 2), (31, .iaload, 1), (32, .invokevirtual 357, 3), (35, .invokevirtual 327, 3), (38, .aload_n 0, 1), (39, .aload_n 0, 1), (40, .iload_n 1, 1), (41, .aload_n 0, 1), (42, .getfield 9, 3), (45, .bipush 7, 2), (47, .iaload, 1), (48, .invokevirtual 357, 3), (51, .invokevirtual 327, 3), (54, .if_icmp .le 5, 3), (57, .iload_n 2, 1), (58, .istore_n 1, 1), (59, .iinc 2 1, 3), (62, .goto (-45), 3), (65, .iload_n 1, 1), (66, .ireturn, 1)]
theorem dkX12_bestRule : ∀ q ∈ pgX12_bestRule, decode cX12_bestRule q.1 = .ok q.2 := by decide +kernel
def b_X12_bestRule_17 (this : Nat) (rec17 : (Int32 × Int32) → PH → Option (Int32 × PH)) (s17 : Int32 × Int32) (hh17 : PH) : Option (Int32 × PH) :=
  if (4 : Int32) ≤ s17.2 then (some (s17.1, hh17)) else (ldI hh17 (rt this 0) 1200 (7 : Int32) (fun (x8 : Int32) => cb (f_X12_serves this s17.2 x8 hh17) (fun (r9 : Int32) (h10 : PH) => cb (f_X12_weight this r9 h10) (fun (r11 : Int32) (h12 : PH) => ldI h12 (rt this 0) 1200 (7 : Int32) (fun (x13 : Int32) => cb (f_X12_serves this s17.1 x13 h12) (fun (r14 : Int32) (h15 : PH) => cb (f_X12_weight this r14 h15) (fun (r16 : Int32) (h17 : PH) => lt (fun (y18 : Int32) (h19 : PH) => lt (s17.2 + Int32.ofInt 1) (fun (x20 : Int32) => rec17 (y18, x20) h19)) (fun (j59 : Int32 → PH → Option (Int32 × PH)) => if r11 ≤ r16 then (j59 s17.1 h17) else (lt s17.2 (fun (x21 : Int32) => j59 x21 h17))))))))))
def f_X12_bestRule (this : Nat) (h0 : PH) : Option (Int32 × PH) :=
  lt (pI h0 this 5 (0 : Int32)) (fun (h1 : PH) => cb (f_X12_laysPlans this h1) (fun (r2 : Unit) (h3 : PH) => cb (f_X12_asksAsItIs this h3) (fun (r4 : Unit) (h5 : PH) => lt (0 : Int32) (fun (x6 : Int32) => lt (1 : Int32) (fun (x7 : Int32) => lp (b_X12_bestRule_17 this) FU (x6, x7) h5)))))
set_option maxRecDepth 100000 in
set_option maxHeartbeats 4000000 in
theorem ct_X12_bestRule (l : Launch) (this : Nat) (h0 : PH) (hk : (kd this).1 = 12) : CT mkI l yX12_bestRule cX12_bestRule 3 (some .int) (rmd 5) [.ref this] h0 (f_X12_bestRule this h0) := by
  refine ct_of (by decide) (Nat.le_of_ble_eq_true rfl) ?_
  intro p e s m args below meth c D cA ad A X hr hlk
  have X : Cx p s m args c RX12 cX12_bestRule 3 D cA ad A := X
  unfold f_X12_bestRule
  refine so_pick (L' := [(0, .ref this)]) X [0] rfl ?_
  refine so_aload_n (i := 0) X 0 (dkX12_bestRule (0, .aload_n 0, 1) (pgm 0 rfl)) rfl rfl ?_
  refine so_iconst (v := (0 : Int32)) X (dkX12_bestRule (1, .iconst 0, 1) (pgm 1 rfl)) ic_0 ?_
  refine sf_putI X ff_12_5 ft_12 rfl lk_1707 hk rfl rfl (dkX12_bestRule (2, .putfield 92, 3) (pgm 2 rfl)) (fun h1 => ?_)
  refine so_aload_n (i := 0) X 0 (dkX12_bestRule (5, .aload_n 0, 1) (pgm 3 rfl)) rfl rfl ?_
  refine so_callV (n := 0) (As := []) X (ct_X12_laysPlans l this h1 hk) hk (by decide) rfl lk_2010 lk_2012 lk_90 lk_134 lk_2013 (by decide +kernel) rfl rfl rfl (rm_ok (by omega) (by decide)) ⟨Nat.zero_le _, Nat.zero_le _⟩ (Nat.le_of_ble_eq_true rfl) (dkX12_bestRule (6, .invokevirtual 316, 3) (pgm 4 rfl)) (fun r2 h3 => ?_) rfl
  refine so_aload_n (i := 0) X 0 (dkX12_bestRule (9, .aload_n 0, 1) (pgm 5 rfl)) rfl rfl ?_
  refine so_callV (n := 0) (As := []) X (ct_X12_asksAsItIs l this h3 hk) hk (by decide) rfl lk_2083 lk_2085 lk_96 lk_134 lk_2086 (by decide +kernel) rfl rfl rfl (rm_ok (by omega) (by decide)) ⟨Nat.zero_le _, Nat.zero_le _⟩ (Nat.le_of_ble_eq_true rfl) (dkX12_bestRule (10, .invokevirtual 354, 3) (pgm 6 rfl)) (fun r4 h5 => ?_) rfl
  refine so_iconst (v := (0 : Int32)) X (dkX12_bestRule (13, .iconst 0, 1) (pgm 7 rfl)) ic_0 ?_
  refine so_istore_n (i := 1) X (dkX12_bestRule (14, .istore_n 1, 1) (pgm 8 rfl)) rfl (by decide) (Lf := fun x6 => [(1, .int x6), (0, .ref this)]) (fun _ => rfl) (fun x6 => ?_)
  refine so_iconst (v := (1 : Int32)) X (dkX12_bestRule (15, .iconst 1, 1) (pgm 9 rfl)) ic_1 ?_
  refine so_istore_n (i := 2) X (dkX12_bestRule (16, .istore_n 2, 1) (pgm 10 rfl)) rfl (by decide) (Lf := fun x7 => [(2, .int x7), (1, .int x6), (0, .ref this)]) (fun _ => rfl) (fun x7 => ?_)
  refine so_pick (L' := [(0, .ref this), (1, .int x6), (2, .int x7)]) X [2, 1, 0] rfl ?_
  refine so_loop (body := b_X12_bestRule_17 this) (fun (s17 : Int32 × Int32) => [(0, .ref this), (1, .int s17.1), (2, .int s17.2)]) (fun rec17 hrec17 s17 hh17 => ?_) FU (x6, x7) h5
  unfold b_X12_bestRule_17
  refine so_iload_n (i := 2) X 2 (dkX12_bestRule (17, .iload_n 2, 1) (pgm 11 rfl)) rfl rfl ?_
  refine so_iconst (v := (4 : Int32)) X (dkX12_bestRule (18, .iconst 4, 1) (pgm 12 rfl)) ic_4 ?_
  refine so_icmp_ge (tgt := 65) X (dkX12_bestRule (19, .if_icmp .ge 46, 3) (pgm 13 rfl)) rfl (fun _ => ?_) (fun _ => ?_)
  · refine so_iload_n (i := 1) X 1 (dkX12_bestRule (65, .iload_n 1, 1) (pgm 37 rfl)) rfl rfl ?_
    exact so_iret X hr hlk (dkX12_bestRule (66, .ireturn, 1) (pgm 38 rfl))
  · refine so_aload_n (i := 0) X 0 (dkX12_bestRule (22, .aload_n 0, 1) (pgm 14 rfl)) rfl rfl ?_
    refine so_aload_n (i := 0) X 0 (dkX12_bestRule (23, .aload_n 0, 1) (pgm 15 rfl)) rfl rfl ?_
    refine so_iload_n (i := 2) X 2 (dkX12_bestRule (24, .iload_n 2, 1) (pgm 16 rfl)) rfl rfl ?_
    refine so_aload_n (i := 0) X 0 (dkX12_bestRule (25, .aload_n 0, 1) (pgm 17 rfl)) rfl rfl ?_
    refine sf_getR X ff_12_0 lk_1702 hk (dkX12_bestRule (26, .getfield 9, 3) (pgm 18 rfl)) ?_
    refine so_bipush (v := (7 : Int32)) X (dkX12_bestRule (29, .bipush 7, 2) (pgm 19 rfl)) bp_7 ?_
    refine so_iald X (rk_12_0 this hk) (dkX12_bestRule (31, .iaload, 1) (pgm 20 rfl)) (fun x8 => ?_)
    refine so_callV (n := 2) (As := [.int s17.2, .int x8]) X (ct_X12_serves l this s17.2 x8 hh17 hk) hk (by decide) rfl lk_2087 lk_2089 lk_97 lk_134 lk_2090 (by decide +kernel) rfl rfl rfl (rm_ok (by omega) (by decide)) ⟨Nat.zero_le _, Nat.zero_le _⟩ (Nat.le_of_ble_eq_true rfl) (dkX12_bestRule (32, .invokevirtual 357, 3) (pgm 21 rfl)) (fun r9 h10 => ?_) rfl
    refine so_callV (n := 1) (As := [.int r9]) X (ct_X12_weight l this r9 h10 hk) hk (by decide) rfl lk_2035 lk_2037 lk_93 lk_134 lk_2038 (by decide +kernel) rfl rfl rfl (rm_ok (by omega) (by decide)) ⟨Nat.zero_le _, Nat.zero_le _⟩ (Nat.le_of_ble_eq_true rfl) (dkX12_bestRule (35, .invokevirtual 327, 3) (pgm 22 rfl)) (fun r11 h12 => ?_) rfl
    refine so_aload_n (i := 0) X 0 (dkX12_bestRule (38, .aload_n 0, 1) (pgm 23 rfl)) rfl rfl ?_
    refine so_aload_n (i := 0) X 0 (dkX12_bestRule (39, .aload_n 0, 1) (pgm 24 rfl)) rfl rfl ?_
    refine so_iload_n (i := 1) X 1 (dkX12_bestRule (40, .iload_n 1, 1) (pgm 25 rfl)) rfl rfl ?_
    refine so_aload_n (i := 0) X 0 (dkX12_bestRule (41, .aload_n 0, 1) (pgm 26 rfl)) rfl rfl ?_
    refine sf_getR X ff_12_0 lk_1702 hk (dkX12_bestRule (42, .getfield 9, 3) (pgm 27 rfl)) ?_
    refine so_bipush (v := (7 : Int32)) X (dkX12_bestRule (45, .bipush 7, 2) (pgm 28 rfl)) bp_7 ?_
    refine so_iald X (rk_12_0 this hk) (dkX12_bestRule (47, .iaload, 1) (pgm 29 rfl)) (fun x13 => ?_)
    refine so_callV (n := 2) (As := [.int s17.1, .int x13]) X (ct_X12_serves l this s17.1 x13 h12 hk) hk (by decide) rfl lk_2087 lk_2089 lk_97 lk_134 lk_2090 (by decide +kernel) rfl rfl rfl (rm_ok (by omega) (by decide)) ⟨Nat.zero_le _, Nat.zero_le _⟩ (Nat.le_of_ble_eq_true rfl) (dkX12_bestRule (48, .invokevirtual 357, 3) (pgm 30 rfl)) (fun r14 h15 => ?_) rfl
    refine so_callV (n := 1) (As := [.int r14]) X (ct_X12_weight l this r14 h15 hk) hk (by decide) rfl lk_2035 lk_2037 lk_93 lk_134 lk_2038 (by decide +kernel) rfl rfl rfl (rm_ok (by omega) (by decide)) ⟨Nat.zero_le _, Nat.zero_le _⟩ (Nat.le_of_ble_eq_true rfl) (dkX12_bestRule (51, .invokevirtual 327, 3) (pgm 31 rfl)) (fun r16 h17 => ?_) rfl
    refine so_join (jf := fun (y18 : Int32) (h19 : PH) => lt (s17.2 + Int32.ofInt 1) (fun (x20 : Int32) => rec17 (y18, x20) h19)) (fun (j : Int32 → PH → Option (Int32 × PH)) => ∀ (y18 : Int32) (h19 : PH), SWo (QM mkI below args s D cA ad A) p l e (rmd 5) s m args below meth c 0 0 3 D cA ad A 59 [(0, .ref this), (1, .int y18), (2, .int s17.2)] [] h19 (j y18 h19)) ?_ (fun j59 hj59 => ?_)
    · intro y18 h19
      refine so_iinc (i := 2) X 2 (dkX12_bestRule (59, .iinc 2 1, 3) (pgm 35 rfl)) rfl rfl (by decide) (Lf := fun x20 => [(2, .int x20), (0, .ref this), (1, .int y18)]) (fun _ => rfl) (fun x20 => ?_)
      refine so_goto (tgt := 17) X (dkX12_bestRule (62, .goto (-45), 3) (pgm 36 rfl)) rfl ?_
      exact so_pick X [1, 2, 0] rfl (hrec17 (y18, x20) h19)
    refine so_icmp_le (tgt := 59) X (dkX12_bestRule (54, .if_icmp .le 5, 3) (pgm 32 rfl)) rfl (fun _ => ?_) (fun _ => ?_)
    · exact so_pick X [0, 1, 2] rfl (hj59 s17.1 h17)
    · refine so_iload_n (i := 2) X 2 (dkX12_bestRule (57, .iload_n 2, 1) (pgm 33 rfl)) rfl rfl ?_
      refine so_istore_n (i := 1) X (dkX12_bestRule (58, .istore_n 1, 1) (pgm 34 rfl)) rfl (by decide) (Lf := fun x21 => [(1, .int x21), (0, .ref this), (2, .int s17.2)]) (fun _ => rfl) (fun x21 => ?_)
      exact so_pick X [1, 0, 2] rfl (hj59 x21 h17)
def pgX12_isSo : List (Nat × Instr × Nat) := [(0, .iload_n 1, 1), (1, .iload_n 0, 1), (2, .iconst 2, 1), (3, .idiv, 1), (4, .ishr, 1), (5, .iconst 1, 1), (6, .iand, 1), (7, .iload_n 0, 1), (8, .iconst 2, 1), (9, .irem, 1), (10, .if_icmp .ne 7, 3), (13, .iconst 1, 1), (14, .goto 4, 3), (17, .iconst 0, 1), (18, .ireturn, 1)]
theorem dkX12_isSo : ∀ q ∈ pgX12_isSo, decode cX12_isSo q.1 = .ok q.2 := by decide +kernel
def f_X12_isSo (a1 : Int32) (a2 : Int32) (h0 : PH) : Option (Int32 × PH) :=
  nz (2 : Int32) (nz (2 : Int32) (lt (fun (t1 : Int32) (h2 : PH) => zr t1 h2) (fun (j18 : Int32 → PH → Option (Int32 × PH)) => if ((a2 >>> ((a1 / (2 : Int32)) &&& 31)) &&& (1 : Int32)) = (a1 - a1 / (2 : Int32) * (2 : Int32)) then (j18 (1 : Int32) h0) else (j18 (0 : Int32) h0))))
set_option maxRecDepth 100000 in
set_option maxHeartbeats 4000000 in
theorem ct_X12_isSo (l : Launch) (a1 : Int32) (a2 : Int32) (h0 : PH)  : CT mkI l yX12_isSo cX12_isSo 2 (some .boolean) (rmd 0) [.int a1, .int a2] h0 (f_X12_isSo a1 a2 h0) := by
  refine ct_of (by decide) (Nat.le_of_ble_eq_true rfl) ?_
  intro p e s m args below meth c D cA ad A X hr hlk
  have X : Cx p s m args c RX12 cX12_isSo 2 D cA ad A := X
  unfold f_X12_isSo
  refine so_pick (L' := [(0, .int a1), (1, .int a2)]) X [0, 1] rfl ?_
  refine so_iload_n (i := 1) X 1 (dkX12_isSo (0, .iload_n 1, 1) (pgm 0 rfl)) rfl rfl ?_
  refine so_iload_n (i := 0) X 0 (dkX12_isSo (1, .iload_n 0, 1) (pgm 1 rfl)) rfl rfl ?_
  refine so_iconst (v := (2 : Int32)) X (dkX12_isSo (2, .iconst 2, 1) (pgm 2 rfl)) ic_2 ?_
  refine so_idiv X (dkX12_isSo (3, .idiv, 1) (pgm 3 rfl)) (fun _ => ?_)
  refine so_ishr X (dkX12_isSo (4, .ishr, 1) (pgm 4 rfl)) ?_
  refine so_iconst (v := (1 : Int32)) X (dkX12_isSo (5, .iconst 1, 1) (pgm 5 rfl)) ic_1 ?_
  refine so_iand X (dkX12_isSo (6, .iand, 1) (pgm 6 rfl)) ?_
  refine so_iload_n (i := 0) X 0 (dkX12_isSo (7, .iload_n 0, 1) (pgm 7 rfl)) rfl rfl ?_
  refine so_iconst (v := (2 : Int32)) X (dkX12_isSo (8, .iconst 2, 1) (pgm 8 rfl)) ic_2 ?_
  refine so_irem X (dkX12_isSo (9, .irem, 1) (pgm 9 rfl)) (fun _ => ?_)
  refine so_join (jf := fun (t1 : Int32) (h2 : PH) => zr t1 h2) (fun (j : Int32 → PH → Option (Int32 × PH)) => ∀ (t1 : Int32) (h2 : PH), SWo (QM mkI below args s D cA ad A) p l e (rmd 0) s m args below meth c 0 0 2 D cA ad A 18 [] [.int t1] h2 (j t1 h2)) ?_ (fun j18 hj18 => ?_)
  · intro t1 h2
    exact so_zret X hr hlk (dkX12_isSo (18, .ireturn, 1) (pgm 14 rfl))
  refine so_icmp_ne (tgt := 17) X (dkX12_isSo (10, .if_icmp .ne 7, 3) (pgm 10 rfl)) rfl (fun _ => ?_) (fun _ => ?_)
  · refine so_iconst (v := (0 : Int32)) X (dkX12_isSo (17, .iconst 0, 1) (pgm 13 rfl)) ic_0 ?_
    exact so_pick X [] rfl (hj18 (0 : Int32) h0)
  · refine so_iconst (v := (1 : Int32)) X (dkX12_isSo (13, .iconst 1, 1) (pgm 11 rfl)) ic_1 ?_
    refine so_goto (tgt := 18) X (dkX12_isSo (14, .goto 4, 3) (pgm 12 rfl)) rfl ?_
    exact so_pick X [] rfl (hj18 (1 : Int32) h0)
def pgX12_doPart : List (Nat × Instr × Nat) := [(0, .iconst 0, 1), (1, .istore_n 3, 1), (2, .iload_n 3, 1), (3, .aload_n 0, 1), (4, .getfield 83, 3), (7, .iload_n 1, 1), (8, .iaload, 1), (9, .if_icmp .ge 90, 3), (12, .aload_n 0, 1), (13, .getfield 86, 3), (16, .bipush 30, 2), (18, .iload_n 1, 1), (19, .imul, 1), (20, .iload_n 3, 1), (21, .iadd, 1), (22, .laload, 1), (23, .l2i, 1), (24, .istore 4, 2), (26, .iconst 1, 1), (27, .istore 5, 2), (29, .iconst 0, 1), (30, .istore 6, 2), (32, .iload 6, 2), (34, .iload_n 2, 1), (35, .if_icmp .ge 38, 3), (38, .iload 5, 2), (40, .ifCond .eq 24, 3), (43, .aload_n 0, 1), (44, .getfield 61, 3), (47, .iload 6, 2), (49, .iaload, 1), (50, .iload 4, 2), (52, .iconst 2, 1), (53, .idiv, 1), (54, .invokestatic 372, 3), (57, .ifCond .eq 7, 3), (60, .iconst 1, 1), (61, .goto 4, 3), (64, .iconst 0, 1), (65, .istore 5, 2), (67, .iinc 6 1, 3), (70, .goto (-38), 3), (73, .iload 5, 2), (75, .iload 4, 2), (77, .iconst 2, 1), (78, .irem, 1), (79, .iconst 1, 1), (80, .if_icmp .ne 7, 3), (83, .iconst 1, 1), (84, .goto 4, 3), (87, .iconst 0, 1), (88, .if_icmp .eq 5, 3), (91, .iconst 0, 1), (92, .ireturn, 1), (93, .iinc 3 1, 3), (96, .goto (-94), 3), (99, .iconst 1, 1), (100, .ireturn, 1)]
theorem dkX12_doPart : ∀ q ∈ pgX12_doPart, decode cX12_doPart q.1 = .ok q.2 := by decide +kernel
def b_X12_doPart_32 (this : Nat) (a2 : Int32) (x4 : Int32) (j73 : Int32 → PH → Option (Int32 × PH)) (rec32 : (Int32 × Int32) → PH → Option (Int32 × PH)) (s32 : Int32 × Int32) (hh32 : PH) : Option (Int32 × PH) :=
  if a2 ≤ s32.2 then (j73 s32.1 hh32) else (lt (fun (t12 : Int32) (h13 : PH) => lt t12 (fun (x14 : Int32) => lt (s32.2 + Int32.ofInt 1) (fun (x15 : Int32) => rec32 (x14, x15) h13))) (fun (j65 : Int32 → PH → Option (Int32 × PH)) => lt (fun (h16 : PH) => j65 (0 : Int32) h16) (fun (j64 : PH → Option (Int32 × PH)) => if s32.1 = 0 then (j64 hh32) else (ldI hh32 (rt this 27) 3 s32.2 (fun (x17 : Int32) => nz (2 : Int32) (cb (f_X12_isSo x17 (x4 / (2 : Int32)) hh32) (fun (r18 : Int32) (h19 : PH) => if r18 = 0 then (j64 h19) else (j65 (1 : Int32) h19))))))))
def b_X12_doPart_2 (this : Nat) (a1 : Int32) (a2 : Int32) (rec2 : (Int32) → PH → Option (Int32 × PH)) (s2 : Int32) (hh2 : PH) : Option (Int32 × PH) :=
  ldI hh2 (rt this 37) 4 a1 (fun (x2 : Int32) => if x2 ≤ s2 then (zr (1 : Int32) hh2) else (ldL hh2 (rt this 38) 120 (((30 : Int32) * a1) + s2) (fun (x3 : Int64) => lt x3.toInt32 (fun (x4 : Int32) => lt (1 : Int32) (fun (x5 : Int32) => lt (0 : Int32) (fun (x6 : Int32) => lt (fun (y7 : Int32) (h8 : PH) => nz (2 : Int32) (lt (fun (t9 : Int32) (h10 : PH) => if y7 = t9 then (lt (s2 + Int32.ofInt 1) (fun (x11 : Int32) => rec2 x11 h10)) else (zr (0 : Int32) h10)) (fun (j88 : Int32 → PH → Option (Int32 × PH)) => if (x4 - x4 / (2 : Int32) * (2 : Int32)) = (1 : Int32) then (j88 (1 : Int32) h8) else (j88 (0 : Int32) h8)))) (fun (j73 : Int32 → PH → Option (Int32 × PH)) => lp (b_X12_doPart_32 this a2 x4 j73) FU (x5, x6) hh2)))))))
def f_X12_doPart (this : Nat) (a1 : Int32) (a2 : Int32) (h0 : PH) : Option (Int32 × PH) :=
  lt (0 : Int32) (fun (x1 : Int32) => lp (b_X12_doPart_2 this a1 a2) FU x1 h0)
set_option maxRecDepth 100000 in
set_option maxHeartbeats 4000000 in
theorem ct_X12_doPart (l : Launch) (this : Nat) (a1 : Int32) (a2 : Int32) (h0 : PH) (hk : (kd this).1 = 12) : CT mkI l yX12_doPart cX12_doPart 7 (some .boolean) (rmd 1) [.ref this, .int a1, .int a2] h0 (f_X12_doPart this a1 a2 h0) := by
  refine ct_of (by decide) (Nat.le_of_ble_eq_true rfl) ?_
  intro p e s m args below meth c D cA ad A X hr hlk
  have X : Cx p s m args c RX12 cX12_doPart 7 D cA ad A := X
  unfold f_X12_doPart
  refine so_pick (L' := [(0, .ref this), (1, .int a1), (2, .int a2)]) X [0, 1, 2] rfl ?_
  refine so_iconst (v := (0 : Int32)) X (dkX12_doPart (0, .iconst 0, 1) (pgm 0 rfl)) ic_0 ?_
  refine so_istore_n (i := 3) X (dkX12_doPart (1, .istore_n 3, 1) (pgm 1 rfl)) rfl (by decide) (Lf := fun x1 => [(3, .int x1), (0, .ref this), (1, .int a1), (2, .int a2)]) (fun _ => rfl) (fun x1 => ?_)
  refine so_pick (L' := [(0, .ref this), (1, .int a1), (2, .int a2), (3, .int x1)]) X [1, 2, 3, 0] rfl ?_
  refine so_loop (body := b_X12_doPart_2 this a1 a2) (fun (s2 : Int32) => [(0, .ref this), (1, .int a1), (2, .int a2), (3, .int s2)]) (fun rec2 hrec2 s2 hh2 => ?_) FU x1 h0
  unfold b_X12_doPart_2
  refine so_iload_n (i := 3) X 3 (dkX12_doPart (2, .iload_n 3, 1) (pgm 2 rfl)) rfl rfl ?_
  refine so_aload_n (i := 0) X 0 (dkX12_doPart (3, .aload_n 0, 1) (pgm 3 rfl)) rfl rfl ?_
  refine sf_getR X ff_12_37 lk_1739 hk (dkX12_doPart (4, .getfield 83, 3) (pgm 4 rfl)) ?_
  refine so_iload_n (i := 1) X 1 (dkX12_doPart (7, .iload_n 1, 1) (pgm 5 rfl)) rfl rfl ?_
  refine so_iald X (rk_12_37 this hk) (dkX12_doPart (8, .iaload, 1) (pgm 6 rfl)) (fun x2 => ?_)
  refine so_icmp_ge (tgt := 99) X (dkX12_doPart (9, .if_icmp .ge 90, 3) (pgm 7 rfl)) rfl (fun _ => ?_) (fun _ => ?_)
  · refine so_iconst (v := (1 : Int32)) X (dkX12_doPart (99, .iconst 1, 1) (pgm 56 rfl)) ic_1 ?_
    exact so_zret X hr hlk (dkX12_doPart (100, .ireturn, 1) (pgm 57 rfl))
  · refine so_aload_n (i := 0) X 0 (dkX12_doPart (12, .aload_n 0, 1) (pgm 8 rfl)) rfl rfl ?_
    refine sf_getR X ff_12_38 lk_1740 hk (dkX12_doPart (13, .getfield 86, 3) (pgm 9 rfl)) ?_
    refine so_bipush (v := (30 : Int32)) X (dkX12_doPart (16, .bipush 30, 2) (pgm 10 rfl)) bp_30 ?_
    refine so_iload_n (i := 1) X 1 (dkX12_doPart (18, .iload_n 1, 1) (pgm 11 rfl)) rfl rfl ?_
    refine so_imul X (dkX12_doPart (19, .imul, 1) (pgm 12 rfl)) ?_
    refine so_iload_n (i := 3) X 3 (dkX12_doPart (20, .iload_n 3, 1) (pgm 13 rfl)) rfl rfl ?_
    refine so_iadd X (dkX12_doPart (21, .iadd, 1) (pgm 14 rfl)) ?_
    refine so_lald X (rk_12_38 this hk) (dkX12_doPart (22, .laload, 1) (pgm 15 rfl)) (fun x3 => ?_)
    refine so_l2i X (dkX12_doPart (23, .l2i, 1) (pgm 16 rfl)) ?_
    refine so_istore (i := 4) X (dkX12_doPart (24, .istore 4, 2) (pgm 17 rfl)) (by decide) (Lf := fun x4 => [(4, .int x4), (0, .ref this), (1, .int a1), (2, .int a2), (3, .int s2)]) (fun _ => rfl) (fun x4 => ?_)
    refine so_iconst (v := (1 : Int32)) X (dkX12_doPart (26, .iconst 1, 1) (pgm 18 rfl)) ic_1 ?_
    refine so_istore (i := 5) X (dkX12_doPart (27, .istore 5, 2) (pgm 19 rfl)) (by decide) (Lf := fun x5 => [(5, .int x5), (4, .int x4), (0, .ref this), (1, .int a1), (2, .int a2), (3, .int s2)]) (fun _ => rfl) (fun x5 => ?_)
    refine so_iconst (v := (0 : Int32)) X (dkX12_doPart (29, .iconst 0, 1) (pgm 20 rfl)) ic_0 ?_
    refine so_istore (i := 6) X (dkX12_doPart (30, .istore 6, 2) (pgm 21 rfl)) (by decide) (Lf := fun x6 => [(6, .int x6), (5, .int x5), (4, .int x4), (0, .ref this), (1, .int a1), (2, .int a2), (3, .int s2)]) (fun _ => rfl) (fun x6 => ?_)
    refine so_join (jf := fun (y7 : Int32) (h8 : PH) => nz (2 : Int32) (lt (fun (t9 : Int32) (h10 : PH) => if y7 = t9 then (lt (s2 + Int32.ofInt 1) (fun (x11 : Int32) => rec2 x11 h10)) else (zr (0 : Int32) h10)) (fun (j88 : Int32 → PH → Option (Int32 × PH)) => if (x4 - x4 / (2 : Int32) * (2 : Int32)) = (1 : Int32) then (j88 (1 : Int32) h8) else (j88 (0 : Int32) h8)))) (fun (j : Int32 → PH → Option (Int32 × PH)) => ∀ (y7 : Int32) (h8 : PH), SWo (QM mkI below args s D cA ad A) p l e (rmd 1) s m args below meth c 0 0 7 D cA ad A 73 [(0, .ref this), (1, .int a1), (2, .int a2), (3, .int s2), (4, .int x4), (5, .int y7)] [] h8 (j y7 h8)) ?_ (fun j73 hj73 => ?_)
    · intro y7 h8
      refine so_iload (i := 5) X 5 (dkX12_doPart (73, .iload 5, 2) (pgm 42 rfl)) rfl ?_
      refine so_iload (i := 4) X 4 (dkX12_doPart (75, .iload 4, 2) (pgm 43 rfl)) rfl ?_
      refine so_iconst (v := (2 : Int32)) X (dkX12_doPart (77, .iconst 2, 1) (pgm 44 rfl)) ic_2 ?_
      refine so_irem X (dkX12_doPart (78, .irem, 1) (pgm 45 rfl)) (fun _ => ?_)
      refine so_iconst (v := (1 : Int32)) X (dkX12_doPart (79, .iconst 1, 1) (pgm 46 rfl)) ic_1 ?_
      refine so_join (jf := fun (t9 : Int32) (h10 : PH) => if y7 = t9 then (lt (s2 + Int32.ofInt 1) (fun (x11 : Int32) => rec2 x11 h10)) else (zr (0 : Int32) h10)) (fun (j : Int32 → PH → Option (Int32 × PH)) => ∀ (t9 : Int32) (h10 : PH), SWo (QM mkI below args s D cA ad A) p l e (rmd 1) s m args below meth c 0 0 7 D cA ad A 88 [(0, .ref this), (1, .int a1), (2, .int a2), (3, .int s2)] [.int t9, .int y7] h10 (j t9 h10)) ?_ (fun j88 hj88 => ?_)
      · intro t9 h10
        refine so_icmp_eq (tgt := 93) X (dkX12_doPart (88, .if_icmp .eq 5, 3) (pgm 51 rfl)) rfl (fun _ => ?_) (fun _ => ?_)
        · refine so_iinc (i := 3) X 3 (dkX12_doPart (93, .iinc 3 1, 3) (pgm 54 rfl)) rfl rfl (by decide) (Lf := fun x11 => [(3, .int x11), (0, .ref this), (1, .int a1), (2, .int a2)]) (fun _ => rfl) (fun x11 => ?_)
          refine so_goto (tgt := 2) X (dkX12_doPart (96, .goto (-94), 3) (pgm 55 rfl)) rfl ?_
          exact so_pick X [1, 2, 3, 0] rfl (hrec2 x11 h10)
        · refine so_iconst (v := (0 : Int32)) X (dkX12_doPart (91, .iconst 0, 1) (pgm 52 rfl)) ic_0 ?_
          exact so_zret X hr hlk (dkX12_doPart (92, .ireturn, 1) (pgm 53 rfl))
      refine so_icmp_ne (tgt := 87) X (dkX12_doPart (80, .if_icmp .ne 7, 3) (pgm 47 rfl)) rfl (fun _ => ?_) (fun _ => ?_)
      · refine so_iconst (v := (0 : Int32)) X (dkX12_doPart (87, .iconst 0, 1) (pgm 50 rfl)) ic_0 ?_
        exact so_pick X [0, 1, 2, 3] rfl (hj88 (0 : Int32) h8)
      · refine so_iconst (v := (1 : Int32)) X (dkX12_doPart (83, .iconst 1, 1) (pgm 48 rfl)) ic_1 ?_
        refine so_goto (tgt := 88) X (dkX12_doPart (84, .goto 4, 3) (pgm 49 rfl)) rfl ?_
        exact so_pick X [0, 1, 2, 3] rfl (hj88 (1 : Int32) h8)
    refine so_pick (L' := [(0, .ref this), (1, .int a1), (2, .int a2), (3, .int s2), (4, .int x4), (5, .int x5), (6, .int x6)]) X [3, 4, 5, 6, 2, 1, 0] rfl ?_
    refine so_loop (body := b_X12_doPart_32 this a2 x4 j73) (fun (s32 : Int32 × Int32) => [(0, .ref this), (1, .int a1), (2, .int a2), (3, .int s2), (4, .int x4), (5, .int s32.1), (6, .int s32.2)]) (fun rec32 hrec32 s32 hh32 => ?_) FU (x5, x6) hh2
    unfold b_X12_doPart_32
    refine so_iload (i := 6) X 6 (dkX12_doPart (32, .iload 6, 2) (pgm 22 rfl)) rfl ?_
    refine so_iload_n (i := 2) X 2 (dkX12_doPart (34, .iload_n 2, 1) (pgm 23 rfl)) rfl rfl ?_
    refine so_icmp_ge (tgt := 73) X (dkX12_doPart (35, .if_icmp .ge 38, 3) (pgm 24 rfl)) rfl (fun _ => ?_) (fun _ => ?_)
    · exact so_pick X [0, 1, 2, 3, 4, 5] rfl (hj73 s32.1 hh32)
    · refine so_iload (i := 5) X 5 (dkX12_doPart (38, .iload 5, 2) (pgm 25 rfl)) rfl ?_
      refine so_join (jf := fun (t12 : Int32) (h13 : PH) => lt t12 (fun (x14 : Int32) => lt (s32.2 + Int32.ofInt 1) (fun (x15 : Int32) => rec32 (x14, x15) h13))) (fun (j : Int32 → PH → Option (Int32 × PH)) => ∀ (t12 : Int32) (h13 : PH), SWo (QM mkI below args s D cA ad A) p l e (rmd 1) s m args below meth c 0 0 7 D cA ad A 65 [(0, .ref this), (1, .int a1), (2, .int a2), (3, .int s2), (4, .int x4), (6, .int s32.2)] [.int t12] h13 (j t12 h13)) ?_ (fun j65 hj65 => ?_)
      · intro t12 h13
        refine so_istore (i := 5) X (dkX12_doPart (65, .istore 5, 2) (pgm 39 rfl)) (by decide) (Lf := fun x14 => [(5, .int x14), (0, .ref this), (1, .int a1), (2, .int a2), (3, .int s2), (4, .int x4), (6, .int s32.2)]) (fun _ => rfl) (fun x14 => ?_)
        refine so_iinc (i := 6) X 6 (dkX12_doPart (67, .iinc 6 1, 3) (pgm 40 rfl)) rfl rfl (by decide) (Lf := fun x15 => [(6, .int x15), (5, .int x14), (0, .ref this), (1, .int a1), (2, .int a2), (3, .int s2), (4, .int x4)]) (fun _ => rfl) (fun x15 => ?_)
        refine so_goto (tgt := 32) X (dkX12_doPart (70, .goto (-38), 3) (pgm 41 rfl)) rfl ?_
        exact so_pick X [2, 3, 4, 5, 6, 1, 0] rfl (hrec32 (x14, x15) h13)
      refine so_join (jf := fun (h16 : PH) => j65 (0 : Int32) h16) (fun (j : PH → Option (Int32 × PH)) => ∀  (h16 : PH), SWo (QM mkI below args s D cA ad A) p l e (rmd 1) s m args below meth c 0 0 7 D cA ad A 64 [(0, .ref this), (1, .int a1), (2, .int a2), (3, .int s2), (4, .int x4), (6, .int s32.2)] [] h16 (j h16)) ?_ (fun j64 hj64 => ?_)
      · intro h16
        refine so_iconst (v := (0 : Int32)) X (dkX12_doPart (64, .iconst 0, 1) (pgm 38 rfl)) ic_0 ?_
        exact so_pick X [0, 1, 2, 3, 4, 5] rfl (hj65 (0 : Int32) h16)
      refine so_if_eq (tgt := 64) X (dkX12_doPart (40, .ifCond .eq 24, 3) (pgm 26 rfl)) rfl (fun _ => ?_) (fun _ => ?_)
      · exact so_pick X [0, 1, 2, 3, 4, 6] rfl (hj64 hh32)
      · refine so_aload_n (i := 0) X 0 (dkX12_doPart (43, .aload_n 0, 1) (pgm 27 rfl)) rfl rfl ?_
        refine sf_getR X ff_12_27 lk_1729 hk (dkX12_doPart (44, .getfield 61, 3) (pgm 28 rfl)) ?_
        refine so_iload (i := 6) X 6 (dkX12_doPart (47, .iload 6, 2) (pgm 29 rfl)) rfl ?_
        refine so_iald X (rk_12_27 this hk) (dkX12_doPart (49, .iaload, 1) (pgm 30 rfl)) (fun x17 => ?_)
        refine so_iload (i := 4) X 4 (dkX12_doPart (50, .iload 4, 2) (pgm 31 rfl)) rfl ?_
        refine so_iconst (v := (2 : Int32)) X (dkX12_doPart (52, .iconst 2, 1) (pgm 32 rfl)) ic_2 ?_
        refine so_idiv X (dkX12_doPart (53, .idiv, 1) (pgm 33 rfl)) (fun _ => ?_)
        refine so_callS (n := 2) (As := [.int x17, .int (x4 / (2 : Int32))]) X (ct_X12_isSo l x17 (x4 / (2 : Int32)) hh32 ) lk_2147 lk_2148 lk_134 lk_2149 (by decide +kernel) rfl rfl rfl (rm_ok (by omega) (by decide)) ⟨Nat.zero_le _, Nat.zero_le _⟩ (Nat.le_of_ble_eq_true rfl) (dkX12_doPart (54, .invokestatic 372, 3) (pgm 34 rfl)) (fun r18 h19 => ?_) rfl
        refine so_if_eq (tgt := 64) X (dkX12_doPart (57, .ifCond .eq 7, 3) (pgm 35 rfl)) rfl (fun _ => ?_) (fun _ => ?_)
        · exact so_pick X [0, 1, 2, 3, 4, 6] rfl (hj64 h19)
        · refine so_iconst (v := (1 : Int32)) X (dkX12_doPart (60, .iconst 1, 1) (pgm 36 rfl)) ic_1 ?_
          refine so_goto (tgt := 65) X (dkX12_doPart (61, .goto 4, 3) (pgm 37 rfl)) rfl ?_
          exact so_pick X [0, 1, 2, 3, 4, 6] rfl (hj65 (1 : Int32) h19)
def pgX12_goesWants : List (Nat × Instr × Nat) := [(0, .iload_n 2, 1), (1, .iload_n 3, 1), (2, .if_icmp .ne 60, 3), (5, .aload_n 0, 1), (6, .iload_n 1, 1), (7, .iload_n 3, 1), (8, .invokevirtual 375, 3), (11, .ifCond .ne 4, 3), (14, .return_, 1), (15, .iconst 0, 1), (16, .istore 5, 2), (18, .iload 5, 2), (20, .iload_n 3, 1), (21, .if_icmp .ge 30, 3), (24, .aload_n 0, 1), (25, .getfield 378, 3), (28, .ifCond .ne 23, 3), (31, .aload_n 0, 1), (32, .getfield 64, 3), (35, .iload 5, 2), (37, .aload_n 0, 1), (38, .getfield 61, 3), (41, .iload 5, 2), (43, .iaload, 1), (44, .iastore, 1), (45, .iinc 5 1, 3), (48, .goto (-30), 3), (51, .aload_n 0, 1), (52, .dup, 1), (53, .getfield 378, 3), (56, .iconst 1, 1), (57, .iadd, 1), (58, .putfield 378, 3), (61, .return_, 1), (62, .iload 4, 2), (64, .istore 5, 2), (66, .iload 5, 2), (68, .iconst 2, 1), (69, .aload_n 0, 1), (70, .invokevirtual 249, 3), (73, .imul, 1), (74, .if_icmp .ge 54, 3), (77, .iload_n 2, 1), (78, .ifCond .le 23, 3), (81, .iload 5, 2), (83, .iconst 2, 1), (84, .idiv, 1), (85, .aload_n 0, 1), (86, .getfield 61, 3), (89, .iload_n 2, 1), (90, .iconst 1, 1), (91, .isub, 1), (92, .iaload, 1), (93, .iconst 2, 1), (94, .idiv, 1), (95, .if_icmp .ne 6, 3), (98, .goto 24, 3), (101, .aload_n 0, 1), (102, .getfield 61, 3), (105, .iload_n 2, 1), (106, .iload 5, 2), (108, .iastore, 1), (109, .aload_n 0, 1), (110, .iload_n 1, 1), (111, .iload_n 2, 1), (112, .iconst 1, 1), (113, .iadd, 1), (114, .iload_n 3, 1), (115, .iload 5, 2), (117, .iconst 1, 1), (118, .iadd, 1), (119, .invokevirtual 381, 3), (122, .iinc 5 1, 3), (125, .goto (-59), 3), (128, .return_, 1)]
theorem dkX12_goesWants : ∀ q ∈ pgX12_goesWants, decode cX12_goesWants q.1 = .ok q.2 := by decide +kernel
def b_X12_goesWants_66 (this : Nat) (a1 : Int32) (a2 : Int32) (a3 : Int32) (fr : Nat → Int32 → Int32 → Int32 → Int32 → PH → Option (Unit × PH)) (rec66 : (Int32) → PH → Option (Unit × PH)) (s66 : Int32) (hh66 : PH) : Option (Unit × PH) :=
  cb (f_X12_cells this hh66) (fun (r2 : Int32) (h3 : PH) => if ((2 : Int32) * r2) ≤ s66 then (some ((), h3)) else (lt (fun (h4 : PH) => lt (s66 + Int32.ofInt 1) (fun (x5 : Int32) => rec66 x5 h4)) (fun (j122 : PH → Option (Unit × PH)) => lt (fun (h6 : PH) => stI h6 (rt this 27) 3 a2 s66 (fun (h7 : PH) => cb (fr this a1 (a2 + (1 : Int32)) a3 (s66 + (1 : Int32)) h7) (fun (r8 : Unit) (h9 : PH) => j122 h9))) (fun (j101 : PH → Option (Unit × PH)) => if a2 ≤ 0 then (j101 h3) else (nz (2 : Int32) (ldI h3 (rt this 27) 3 (a2 - (1 : Int32)) (fun (x10 : Int32) => nz (2 : Int32) (if (s66 / (2 : Int32)) = (x10 / (2 : Int32)) then (j122 h3) else (j101 h3)))))))))
def b_X12_goesWants_18 (this : Nat) (a3 : Int32) (j51 : PH → Option (Unit × PH)) (rec18 : (Int32) → PH → Option (Unit × PH)) (s18 : Int32) (hh18 : PH) : Option (Unit × PH) :=
  if a3 ≤ s18 then (j51 hh18) else (if (hh18.1 this 29) = 0 then (ldI hh18 (rt this 27) 3 s18 (fun (x16 : Int32) => stI hh18 (rt this 28) 3 s18 x16 (fun (h17 : PH) => lt (s18 + Int32.ofInt 1) (fun (x18 : Int32) => rec18 x18 h17)))) else (j51 hh18))
def g_X12_goesWants (fr : Nat → Int32 → Int32 → Int32 → Int32 → PH → Option (Unit × PH)) (this : Nat) (a1 : Int32) (a2 : Int32) (a3 : Int32) (a4 : Int32) (h0 : PH) : Option (Unit × PH) :=
  if a2 = a3 then (cb (f_X12_doPart this a1 a3 h0) (fun (r11 : Int32) (h12 : PH) => if r11 = 0 then (some ((), h12)) else (lt (0 : Int32) (fun (x13 : Int32) => lt (fun (h14 : PH) => lt (pI h14 this 29 ((h14.1 this 29) + (1 : Int32))) (fun (h15 : PH) => some ((), h15))) (fun (j51 : PH → Option (Unit × PH)) => lp (b_X12_goesWants_18 this a3 j51) FU x13 h12))))) else (lt a4 (fun (x1 : Int32) => lp (b_X12_goesWants_66 this a1 a2 a3 fr) FU x1 h0))
def f_X12_goesWants : Nat → Nat → Int32 → Int32 → Int32 → Int32 → PH → Option (Unit × PH)
  | 0 => fun _ _ _ _ _ _ => none
  | dd + 1 => g_X12_goesWants (f_X12_goesWants dd)
set_option maxRecDepth 100000 in
set_option maxHeartbeats 4000000 in
theorem cg_X12_goesWants (l : Launch) (dd : Nat) (fr : Nat → Int32 → Int32 → Int32 → Int32 → PH → Option (Unit × PH)) (hfr : ∀ (this : Nat) (a1 : Int32) (a2 : Int32) (a3 : Int32) (a4 : Int32) (h0 : PH) (hk : (kd this).1 = 12), CT mkV l yX12_goesWants cX12_goesWants 6 none (rmd (dd + 1)) [.ref this, .int a1, .int a2, .int a3, .int a4] h0 (fr this a1 a2 a3 a4 h0)) (this : Nat) (a1 : Int32) (a2 : Int32) (a3 : Int32) (a4 : Int32) (h0 : PH) (hk : (kd this).1 = 12) : CT mkV l yX12_goesWants cX12_goesWants 6 none (rmd (dd + 2)) [.ref this, .int a1, .int a2, .int a3, .int a4] h0 (g_X12_goesWants fr this a1 a2 a3 a4 h0) := by
  refine ct_of (by decide) (Nat.le_of_ble_eq_true rfl) ?_
  intro p e s m args below meth c D cA ad A X hr hlk
  have X : Cx p s m args c RX12 cX12_goesWants 6 D cA ad A := X
  unfold g_X12_goesWants
  refine so_pick (L' := [(0, .ref this), (1, .int a1), (2, .int a2), (3, .int a3), (4, .int a4)]) X [0, 1, 2, 3, 4] rfl ?_
  refine so_iload_n (i := 2) X 2 (dkX12_goesWants (0, .iload_n 2, 1) (pgm 0 rfl)) rfl rfl ?_
  refine so_iload_n (i := 3) X 3 (dkX12_goesWants (1, .iload_n 3, 1) (pgm 1 rfl)) rfl rfl ?_
  refine so_icmp_ne (tgt := 62) X (dkX12_goesWants (2, .if_icmp .ne 60, 3) (pgm 2 rfl)) rfl (fun _ => ?_) (fun _ => ?_)
  · refine so_iload (i := 4) X 4 (dkX12_goesWants (62, .iload 4, 2) (pgm 34 rfl)) rfl ?_
    refine so_istore (i := 5) X (dkX12_goesWants (64, .istore 5, 2) (pgm 35 rfl)) (by decide) (Lf := fun x1 => [(5, .int x1), (0, .ref this), (1, .int a1), (2, .int a2), (3, .int a3), (4, .int a4)]) (fun _ => rfl) (fun x1 => ?_)
    refine so_pick (L' := [(0, .ref this), (1, .int a1), (2, .int a2), (3, .int a3), (5, .int x1)]) X [1, 2, 3, 4, 0] rfl ?_
    refine so_loop (body := b_X12_goesWants_66 this a1 a2 a3 fr) (fun (s66 : Int32) => [(0, .ref this), (1, .int a1), (2, .int a2), (3, .int a3), (5, .int s66)]) (fun rec66 hrec66 s66 hh66 => ?_) FU x1 h0
    unfold b_X12_goesWants_66
    refine so_iload (i := 5) X 4 (dkX12_goesWants (66, .iload 5, 2) (pgm 36 rfl)) rfl ?_
    refine so_iconst (v := (2 : Int32)) X (dkX12_goesWants (68, .iconst 2, 1) (pgm 37 rfl)) ic_2 ?_
    refine so_aload_n (i := 0) X 0 (dkX12_goesWants (69, .aload_n 0, 1) (pgm 38 rfl)) rfl rfl ?_
    refine so_callV (n := 0) (As := []) X (ct_X12_cells l this hh66 hk) hk (by decide) rfl lk_1668 lk_1670 lk_57 lk_134 lk_1671 (by decide +kernel) rfl rfl rfl (rm_ok (by omega) (by decide)) ⟨Nat.zero_le _, Nat.zero_le _⟩ (Nat.le_of_ble_eq_true rfl) (dkX12_goesWants (70, .invokevirtual 249, 3) (pgm 39 rfl)) (fun r2 h3 => ?_) rfl
    refine so_imul X (dkX12_goesWants (73, .imul, 1) (pgm 40 rfl)) ?_
    refine so_icmp_ge (tgt := 128) X (dkX12_goesWants (74, .if_icmp .ge 54, 3) (pgm 41 rfl)) rfl (fun _ => ?_) (fun _ => ?_)
    · exact so_vret X hr hlk (dkX12_goesWants (128, .return_, 1) (pgm 74 rfl))
    · refine so_iload_n (i := 2) X 2 (dkX12_goesWants (77, .iload_n 2, 1) (pgm 42 rfl)) rfl rfl ?_
      refine so_join (jf := fun (h4 : PH) => lt (s66 + Int32.ofInt 1) (fun (x5 : Int32) => rec66 x5 h4)) (fun (j : PH → Option (Unit × PH)) => ∀  (h4 : PH), SWo (QM mkV below args s D cA ad A) p l e (rmd (dd + 2)) s m args below meth c 0 0 6 D cA ad A 122 [(0, .ref this), (1, .int a1), (2, .int a2), (3, .int a3), (5, .int s66)] [] h4 (j h4)) ?_ (fun j122 hj122 => ?_)
      · intro h4
        refine so_iinc (i := 5) X 4 (dkX12_goesWants (122, .iinc 5 1, 3) (pgm 72 rfl)) rfl rfl (by decide) (Lf := fun x5 => [(5, .int x5), (0, .ref this), (1, .int a1), (2, .int a2), (3, .int a3)]) (fun _ => rfl) (fun x5 => ?_)
        refine so_goto (tgt := 66) X (dkX12_goesWants (125, .goto (-59), 3) (pgm 73 rfl)) rfl ?_
        exact so_pick X [1, 2, 3, 4, 0] rfl (hrec66 x5 h4)
      refine so_join (jf := fun (h6 : PH) => stI h6 (rt this 27) 3 a2 s66 (fun (h7 : PH) => cb (fr this a1 (a2 + (1 : Int32)) a3 (s66 + (1 : Int32)) h7) (fun (r8 : Unit) (h9 : PH) => j122 h9))) (fun (j : PH → Option (Unit × PH)) => ∀  (h6 : PH), SWo (QM mkV below args s D cA ad A) p l e (rmd (dd + 2)) s m args below meth c 0 0 6 D cA ad A 101 [(0, .ref this), (1, .int a1), (2, .int a2), (3, .int a3), (5, .int s66)] [] h6 (j h6)) ?_ (fun j101 hj101 => ?_)
      · intro h6
        refine so_aload_n (i := 0) X 0 (dkX12_goesWants (101, .aload_n 0, 1) (pgm 57 rfl)) rfl rfl ?_
        refine sf_getR X ff_12_27 lk_1729 hk (dkX12_goesWants (102, .getfield 61, 3) (pgm 58 rfl)) ?_
        refine so_iload_n (i := 2) X 2 (dkX12_goesWants (105, .iload_n 2, 1) (pgm 59 rfl)) rfl rfl ?_
        refine so_iload (i := 5) X 4 (dkX12_goesWants (106, .iload 5, 2) (pgm 60 rfl)) rfl ?_
        refine so_iast X (rk_12_27 this hk) (dkX12_goesWants (108, .iastore, 1) (pgm 61 rfl)) (fun h7 => ?_)
        refine so_aload_n (i := 0) X 0 (dkX12_goesWants (109, .aload_n 0, 1) (pgm 62 rfl)) rfl rfl ?_
        refine so_iload_n (i := 1) X 1 (dkX12_goesWants (110, .iload_n 1, 1) (pgm 63 rfl)) rfl rfl ?_
        refine so_iload_n (i := 2) X 2 (dkX12_goesWants (111, .iload_n 2, 1) (pgm 64 rfl)) rfl rfl ?_
        refine so_iconst (v := (1 : Int32)) X (dkX12_goesWants (112, .iconst 1, 1) (pgm 65 rfl)) ic_1 ?_
        refine so_iadd X (dkX12_goesWants (113, .iadd, 1) (pgm 66 rfl)) ?_
        refine so_iload_n (i := 3) X 3 (dkX12_goesWants (114, .iload_n 3, 1) (pgm 67 rfl)) rfl rfl ?_
        refine so_iload (i := 5) X 4 (dkX12_goesWants (115, .iload 5, 2) (pgm 68 rfl)) rfl ?_
        refine so_iconst (v := (1 : Int32)) X (dkX12_goesWants (117, .iconst 1, 1) (pgm 69 rfl)) ic_1 ?_
        refine so_iadd X (dkX12_goesWants (118, .iadd, 1) (pgm 70 rfl)) ?_
        refine so_callV (n := 4) (As := [.int a1, .int (a2 + (1 : Int32)), .int a3, .int (s66 + (1 : Int32))]) X (hfr this a1 (a2 + (1 : Int32)) a3 (s66 + (1 : Int32)) h7 hk) hk (by decide) rfl lk_2139 lk_2141 lk_104 lk_134 lk_2142 (by decide +kernel) rfl rfl rfl (rm_ok (by omega) (by decide)) ⟨Nat.zero_le _, Nat.zero_le _⟩ (Nat.le_of_ble_eq_true rfl) (dkX12_goesWants (119, .invokevirtual 381, 3) (pgm 71 rfl)) (fun r8 h9 => ?_) rfl
        exact so_pick X [0, 1, 2, 3, 4] rfl (hj122 h9)
      refine so_if_le (tgt := 101) X (dkX12_goesWants (78, .ifCond .le 23, 3) (pgm 43 rfl)) rfl (fun _ => ?_) (fun _ => ?_)
      · exact so_pick X [0, 1, 2, 3, 4] rfl (hj101 h3)
      · refine so_iload (i := 5) X 4 (dkX12_goesWants (81, .iload 5, 2) (pgm 44 rfl)) rfl ?_
        refine so_iconst (v := (2 : Int32)) X (dkX12_goesWants (83, .iconst 2, 1) (pgm 45 rfl)) ic_2 ?_
        refine so_idiv X (dkX12_goesWants (84, .idiv, 1) (pgm 46 rfl)) (fun _ => ?_)
        refine so_aload_n (i := 0) X 0 (dkX12_goesWants (85, .aload_n 0, 1) (pgm 47 rfl)) rfl rfl ?_
        refine sf_getR X ff_12_27 lk_1729 hk (dkX12_goesWants (86, .getfield 61, 3) (pgm 48 rfl)) ?_
        refine so_iload_n (i := 2) X 2 (dkX12_goesWants (89, .iload_n 2, 1) (pgm 49 rfl)) rfl rfl ?_
        refine so_iconst (v := (1 : Int32)) X (dkX12_goesWants (90, .iconst 1, 1) (pgm 50 rfl)) ic_1 ?_
        refine so_isub X (dkX12_goesWants (91, .isub, 1) (pgm 51 rfl)) ?_
        refine so_iald X (rk_12_27 this hk) (dkX12_goesWants (92, .iaload, 1) (pgm 52 rfl)) (fun x10 => ?_)
        refine so_iconst (v := (2 : Int32)) X (dkX12_goesWants (93, .iconst 2, 1) (pgm 53 rfl)) ic_2 ?_
        refine so_idiv X (dkX12_goesWants (94, .idiv, 1) (pgm 54 rfl)) (fun _ => ?_)
        refine so_icmp_ne (tgt := 101) X (dkX12_goesWants (95, .if_icmp .ne 6, 3) (pgm 55 rfl)) rfl (fun _ => ?_) (fun _ => ?_)
        · exact so_pick X [0, 1, 2, 3, 4] rfl (hj101 h3)
        · refine so_goto (tgt := 122) X (dkX12_goesWants (98, .goto 24, 3) (pgm 56 rfl)) rfl ?_
          exact so_pick X [0, 1, 2, 3, 4] rfl (hj122 h3)
  · refine so_aload_n (i := 0) X 0 (dkX12_goesWants (5, .aload_n 0, 1) (pgm 3 rfl)) rfl rfl ?_
    refine so_iload_n (i := 1) X 1 (dkX12_goesWants (6, .iload_n 1, 1) (pgm 4 rfl)) rfl rfl ?_
    refine so_iload_n (i := 3) X 3 (dkX12_goesWants (7, .iload_n 3, 1) (pgm 5 rfl)) rfl rfl ?_
    refine so_callV (n := 2) (As := [.int a1, .int a3]) X (ct_X12_doPart l this a1 a3 h0 hk) hk (by decide) rfl lk_2143 lk_2145 lk_105 lk_134 lk_2146 (by decide +kernel) rfl rfl rfl (rm_ok (by omega) (by decide)) ⟨Nat.zero_le _, Nat.zero_le _⟩ (Nat.le_of_ble_eq_true rfl) (dkX12_goesWants (8, .invokevirtual 375, 3) (pgm 6 rfl)) (fun r11 h12 => ?_) rfl
    refine so_if_ne (tgt := 15) X (dkX12_goesWants (11, .ifCond .ne 4, 3) (pgm 7 rfl)) rfl (fun _ => ?_) (fun _ => ?_)
    · refine so_iconst (v := (0 : Int32)) X (dkX12_goesWants (15, .iconst 0, 1) (pgm 9 rfl)) ic_0 ?_
      refine so_istore (i := 5) X (dkX12_goesWants (16, .istore 5, 2) (pgm 10 rfl)) (by decide) (Lf := fun x13 => [(5, .int x13), (0, .ref this), (1, .int a1), (2, .int a2), (3, .int a3), (4, .int a4)]) (fun _ => rfl) (fun x13 => ?_)
      refine so_join (jf := fun (h14 : PH) => lt (pI h14 this 29 ((h14.1 this 29) + (1 : Int32))) (fun (h15 : PH) => some ((), h15))) (fun (j : PH → Option (Unit × PH)) => ∀  (h14 : PH), SWo (QM mkV below args s D cA ad A) p l e (rmd (dd + 2)) s m args below meth c 0 0 6 D cA ad A 51 [(0, .ref this)] [] h14 (j h14)) ?_ (fun j51 hj51 => ?_)
      · intro h14
        refine so_aload_n (i := 0) X 0 (dkX12_goesWants (51, .aload_n 0, 1) (pgm 27 rfl)) rfl rfl ?_
        refine so_dup X (dkX12_goesWants (52, .dup, 1) (pgm 28 rfl)) rfl ?_
        refine sf_getI X ff_12_29 lk_1731 hk (dkX12_goesWants (53, .getfield 378, 3) (pgm 29 rfl)) ?_
        refine so_iconst (v := (1 : Int32)) X (dkX12_goesWants (56, .iconst 1, 1) (pgm 30 rfl)) ic_1 ?_
        refine so_iadd X (dkX12_goesWants (57, .iadd, 1) (pgm 31 rfl)) ?_
        refine sf_putI X ff_12_29 ft_12 rfl lk_1731 hk rfl rfl (dkX12_goesWants (58, .putfield 378, 3) (pgm 32 rfl)) (fun h15 => ?_)
        exact so_vret X hr hlk (dkX12_goesWants (61, .return_, 1) (pgm 33 rfl))
      refine so_pick (L' := [(0, .ref this), (3, .int a3), (5, .int x13)]) X [1, 4, 0] rfl ?_
      refine so_loop (body := b_X12_goesWants_18 this a3 j51) (fun (s18 : Int32) => [(0, .ref this), (3, .int a3), (5, .int s18)]) (fun rec18 hrec18 s18 hh18 => ?_) FU x13 h12
      unfold b_X12_goesWants_18
      refine so_iload (i := 5) X 2 (dkX12_goesWants (18, .iload 5, 2) (pgm 11 rfl)) rfl ?_
      refine so_iload_n (i := 3) X 1 (dkX12_goesWants (20, .iload_n 3, 1) (pgm 12 rfl)) rfl rfl ?_
      refine so_icmp_ge (tgt := 51) X (dkX12_goesWants (21, .if_icmp .ge 30, 3) (pgm 13 rfl)) rfl (fun _ => ?_) (fun _ => ?_)
      · exact so_pick X [0] rfl (hj51 hh18)
      · refine so_aload_n (i := 0) X 0 (dkX12_goesWants (24, .aload_n 0, 1) (pgm 14 rfl)) rfl rfl ?_
        refine sf_getI X ff_12_29 lk_1731 hk (dkX12_goesWants (25, .getfield 378, 3) (pgm 15 rfl)) ?_
        refine so_if_ne (tgt := 51) X (dkX12_goesWants (28, .ifCond .ne 23, 3) (pgm 16 rfl)) rfl (fun _ => ?_) (fun _ => ?_)
        · exact so_pick X [0] rfl (hj51 hh18)
        · refine so_aload_n (i := 0) X 0 (dkX12_goesWants (31, .aload_n 0, 1) (pgm 17 rfl)) rfl rfl ?_
          refine sf_getR X ff_12_28 lk_1730 hk (dkX12_goesWants (32, .getfield 64, 3) (pgm 18 rfl)) ?_
          refine so_iload (i := 5) X 2 (dkX12_goesWants (35, .iload 5, 2) (pgm 19 rfl)) rfl ?_
          refine so_aload_n (i := 0) X 0 (dkX12_goesWants (37, .aload_n 0, 1) (pgm 20 rfl)) rfl rfl ?_
          refine sf_getR X ff_12_27 lk_1729 hk (dkX12_goesWants (38, .getfield 61, 3) (pgm 21 rfl)) ?_
          refine so_iload (i := 5) X 2 (dkX12_goesWants (41, .iload 5, 2) (pgm 22 rfl)) rfl ?_
          refine so_iald X (rk_12_27 this hk) (dkX12_goesWants (43, .iaload, 1) (pgm 23 rfl)) (fun x16 => ?_)
          refine so_iast X (rk_12_28 this hk) (dkX12_goesWants (44, .iastore, 1) (pgm 24 rfl)) (fun h17 => ?_)
          refine so_iinc (i := 5) X 2 (dkX12_goesWants (45, .iinc 5 1, 3) (pgm 25 rfl)) rfl rfl (by decide) (Lf := fun x18 => [(5, .int x18), (0, .ref this), (3, .int a3)]) (fun _ => rfl) (fun x18 => ?_)
          refine so_goto (tgt := 18) X (dkX12_goesWants (48, .goto (-30), 3) (pgm 26 rfl)) rfl ?_
          exact so_pick X [1, 2, 0] rfl (hrec18 x18 h17)
    · exact so_vret X hr hlk (dkX12_goesWants (14, .return_, 1) (pgm 8 rfl))
theorem ct_X12_goesWants (l : Launch) : ∀ (dd : Nat) (this : Nat) (a1 : Int32) (a2 : Int32) (a3 : Int32) (a4 : Int32) (h0 : PH) (hk : (kd this).1 = 12), CT mkV l yX12_goesWants cX12_goesWants 6 none (rmd (dd + 1)) [.ref this, .int a1, .int a2, .int a3, .int a4] h0 (f_X12_goesWants dd this a1 a2 a3 a4 h0)
  | 0 => fun _ _ _ _ _ _ _ => by intro _ _ _ _ _ _ _ e1; cases e1
  | dd + 1 => fun this a1 a2 a3 a4 h0 hk => by
    have e9 : dd + 1 + 1 = dd + 2 := by omega
    rw [e9]
    exact cg_X12_goesWants l dd (f_X12_goesWants dd) (ct_X12_goesWants l dd) this a1 a2 a3 a4 h0 hk
def pgX12_laysReading : List (Nat × Instr × Nat) := [(0, .iconst 0, 1), (1, .istore_n 2, 1), (2, .iload_n 2, 1), (3, .bipush 64, 2), (5, .if_icmp .ge 24, 3), (8, .aload_n 0, 1), (9, .getfield 67, 3), (12, .bipush 64, 2), (14, .aload_n 0, 1), (15, .getfield 395, 3), (18, .imul, 1), (19, .iload_n 2, 1), (20, .iadd, 1), (21, .lconst 0, 1), (22, .lastore, 1), (23, .iinc 2 1, 3), (26, .goto (-24), 3), (29, .iconst 0, 1), (30, .istore_n 2, 1), (31, .iload_n 2, 1), (32, .aload_n 0, 1), (33, .invokevirtual 252, 3), (36, .if_icmp .gt 43, 3), (39, .iload_n 1, 1), (40, .iload_n 2, 1), (41, .invokestatic 372, 3), (44, .ifCond .eq 29, 3), (47, .aload_n 0, 1), (48, .getfield 67, 3), (51, .bipush 64, 2), (53, .aload_n 0, 1), (54, .getfield 395, 3), (57, .imul, 1), (58, .iload_n 2, 1), (59, .bipush 64, 2), (61, .idiv, 1), (62, .iadd, 1), (63, .dup2, 1), (64, .laload, 1), (65, .lconst 1, 1), (66, .iload_n 2, 1), (67, .bipush 64, 2), (69, .irem, 1), (70, .lshl, 1), (71, .lor, 1), (72, .lastore, 1), (73, .iinc 2 1, 3), (76, .goto (-45), 3), (79, .aload_n 0, 1), (80, .dup, 1), (81, .getfield 395, 3), (84, .iconst 1, 1), (85, .iadd, 1), (86, .putfield 395, 3), (89, .return_, 1)]
theorem dkX12_laysReading : ∀ q ∈ pgX12_laysReading, decode cX12_laysReading q.1 = .ok q.2 := by decide +kernel
def b_X12_laysReading_31 (this : Nat) (a1 : Int32) (rec31 : (Int32) → PH → Option (Unit × PH)) (s31 : Int32) (hh31 : PH) : Option (Unit × PH) :=
  cb (f_X12_everywhere this hh31) (fun (r4 : Int32) (h5 : PH) => if r4 < s31 then (lt (pI h5 this 33 ((h5.1 this 33) + (1 : Int32))) (fun (h6 : PH) => some ((), h6))) else (cb (f_X12_isSo a1 s31 h5) (fun (r7 : Int32) (h8 : PH) => lt (fun (h9 : PH) => lt (s31 + Int32.ofInt 1) (fun (x10 : Int32) => rec31 x10 h9)) (fun (j73 : PH → Option (Unit × PH)) => if r7 = 0 then (j73 h8) else (nz (64 : Int32) (ldL h8 (rt this 30) 2496 (((64 : Int32) * (h8.1 this 33)) + (s31 / (64 : Int32))) (fun (x11 : Int64) => nz (64 : Int32) (stL h8 (rt this 30) 2496 (((64 : Int32) * (h8.1 this 33)) + (s31 / (64 : Int32))) (x11 ||| ((1 : Int64) <<< ((s31 - s31 / (64 : Int32) * (64 : Int32)).toInt64 &&& 63))) (fun (h12 : PH) => j73 h12)))))))))
def b_X12_laysReading_2 (this : Nat) (j29 : PH → Option (Unit × PH)) (rec2 : (Int32) → PH → Option (Unit × PH)) (s2 : Int32) (hh2 : PH) : Option (Unit × PH) :=
  if (64 : Int32) ≤ s2 then (j29 hh2) else (stL hh2 (rt this 30) 2496 (((64 : Int32) * (hh2.1 this 33)) + s2) (0 : Int64) (fun (h13 : PH) => lt (s2 + Int32.ofInt 1) (fun (x14 : Int32) => rec2 x14 h13)))
def f_X12_laysReading (this : Nat) (a1 : Int32) (h0 : PH) : Option (Unit × PH) :=
  lt (0 : Int32) (fun (x1 : Int32) => lt (fun (h2 : PH) => lt (0 : Int32) (fun (x3 : Int32) => lp (b_X12_laysReading_31 this a1) FU x3 h2)) (fun (j29 : PH → Option (Unit × PH)) => lp (b_X12_laysReading_2 this j29) FU x1 h0))
set_option maxRecDepth 100000 in
set_option maxHeartbeats 4000000 in
theorem ct_X12_laysReading (l : Launch) (this : Nat) (a1 : Int32) (h0 : PH) (hk : (kd this).1 = 12) : CT mkV l yX12_laysReading cX12_laysReading 3 none (rmd 2) [.ref this, .int a1] h0 (f_X12_laysReading this a1 h0) := by
  refine ct_of (by decide) (Nat.le_of_ble_eq_true rfl) ?_
  intro p e s m args below meth c D cA ad A X hr hlk
  have X : Cx p s m args c RX12 cX12_laysReading 3 D cA ad A := X
  unfold f_X12_laysReading
  refine so_pick (L' := [(0, .ref this), (1, .int a1)]) X [0, 1] rfl ?_
  refine so_iconst (v := (0 : Int32)) X (dkX12_laysReading (0, .iconst 0, 1) (pgm 0 rfl)) ic_0 ?_
  refine so_istore_n (i := 2) X (dkX12_laysReading (1, .istore_n 2, 1) (pgm 1 rfl)) rfl (by decide) (Lf := fun x1 => [(2, .int x1), (0, .ref this), (1, .int a1)]) (fun _ => rfl) (fun x1 => ?_)
  refine so_join (jf := fun (h2 : PH) => lt (0 : Int32) (fun (x3 : Int32) => lp (b_X12_laysReading_31 this a1) FU x3 h2)) (fun (j : PH → Option (Unit × PH)) => ∀  (h2 : PH), SWo (QM mkV below args s D cA ad A) p l e (rmd 2) s m args below meth c 0 0 3 D cA ad A 29 [(0, .ref this), (1, .int a1)] [] h2 (j h2)) ?_ (fun j29 hj29 => ?_)
  · intro h2
    refine so_iconst (v := (0 : Int32)) X (dkX12_laysReading (29, .iconst 0, 1) (pgm 17 rfl)) ic_0 ?_
    refine so_istore_n (i := 2) X (dkX12_laysReading (30, .istore_n 2, 1) (pgm 18 rfl)) rfl (by decide) (Lf := fun x3 => [(2, .int x3), (0, .ref this), (1, .int a1)]) (fun _ => rfl) (fun x3 => ?_)
    refine so_pick (L' := [(0, .ref this), (1, .int a1), (2, .int x3)]) X [1, 2, 0] rfl ?_
    refine so_loop (body := b_X12_laysReading_31 this a1) (fun (s31 : Int32) => [(0, .ref this), (1, .int a1), (2, .int s31)]) (fun rec31 hrec31 s31 hh31 => ?_) FU x3 h2
    unfold b_X12_laysReading_31
    refine so_iload_n (i := 2) X 2 (dkX12_laysReading (31, .iload_n 2, 1) (pgm 19 rfl)) rfl rfl ?_
    refine so_aload_n (i := 0) X 0 (dkX12_laysReading (32, .aload_n 0, 1) (pgm 20 rfl)) rfl rfl ?_
    refine so_callV (n := 0) (As := []) X (ct_X12_everywhere l this hh31 hk) hk (by decide) rfl lk_1664 lk_1666 lk_56 lk_134 lk_1667 (by decide +kernel) rfl rfl rfl (rm_ok (by omega) (by decide)) ⟨Nat.zero_le _, Nat.zero_le _⟩ (Nat.le_of_ble_eq_true rfl) (dkX12_laysReading (33, .invokevirtual 252, 3) (pgm 21 rfl)) (fun r4 h5 => ?_) rfl
    refine so_icmp_gt (tgt := 79) X (dkX12_laysReading (36, .if_icmp .gt 43, 3) (pgm 22 rfl)) rfl (fun _ => ?_) (fun _ => ?_)
    · refine so_aload_n (i := 0) X 0 (dkX12_laysReading (79, .aload_n 0, 1) (pgm 48 rfl)) rfl rfl ?_
      refine so_dup X (dkX12_laysReading (80, .dup, 1) (pgm 49 rfl)) rfl ?_
      refine sf_getI X ff_12_33 lk_1735 hk (dkX12_laysReading (81, .getfield 395, 3) (pgm 50 rfl)) ?_
      refine so_iconst (v := (1 : Int32)) X (dkX12_laysReading (84, .iconst 1, 1) (pgm 51 rfl)) ic_1 ?_
      refine so_iadd X (dkX12_laysReading (85, .iadd, 1) (pgm 52 rfl)) ?_
      refine sf_putI X ff_12_33 ft_12 rfl lk_1735 hk rfl rfl (dkX12_laysReading (86, .putfield 395, 3) (pgm 53 rfl)) (fun h6 => ?_)
      exact so_vret X hr hlk (dkX12_laysReading (89, .return_, 1) (pgm 54 rfl))
    · refine so_iload_n (i := 1) X 1 (dkX12_laysReading (39, .iload_n 1, 1) (pgm 23 rfl)) rfl rfl ?_
      refine so_iload_n (i := 2) X 2 (dkX12_laysReading (40, .iload_n 2, 1) (pgm 24 rfl)) rfl rfl ?_
      refine so_callS (n := 2) (As := [.int a1, .int s31]) X (ct_X12_isSo l a1 s31 h5 ) lk_2147 lk_2148 lk_134 lk_2149 (by decide +kernel) rfl rfl rfl (rm_ok (by omega) (by decide)) ⟨Nat.zero_le _, Nat.zero_le _⟩ (Nat.le_of_ble_eq_true rfl) (dkX12_laysReading (41, .invokestatic 372, 3) (pgm 25 rfl)) (fun r7 h8 => ?_) rfl
      refine so_join (jf := fun (h9 : PH) => lt (s31 + Int32.ofInt 1) (fun (x10 : Int32) => rec31 x10 h9)) (fun (j : PH → Option (Unit × PH)) => ∀  (h9 : PH), SWo (QM mkV below args s D cA ad A) p l e (rmd 2) s m args below meth c 0 0 3 D cA ad A 73 [(0, .ref this), (1, .int a1), (2, .int s31)] [] h9 (j h9)) ?_ (fun j73 hj73 => ?_)
      · intro h9
        refine so_iinc (i := 2) X 2 (dkX12_laysReading (73, .iinc 2 1, 3) (pgm 46 rfl)) rfl rfl (by decide) (Lf := fun x10 => [(2, .int x10), (0, .ref this), (1, .int a1)]) (fun _ => rfl) (fun x10 => ?_)
        refine so_goto (tgt := 31) X (dkX12_laysReading (76, .goto (-45), 3) (pgm 47 rfl)) rfl ?_
        exact so_pick X [1, 2, 0] rfl (hrec31 x10 h9)
      refine so_if_eq (tgt := 73) X (dkX12_laysReading (44, .ifCond .eq 29, 3) (pgm 26 rfl)) rfl (fun _ => ?_) (fun _ => ?_)
      · exact so_pick X [0, 1, 2] rfl (hj73 h8)
      · refine so_aload_n (i := 0) X 0 (dkX12_laysReading (47, .aload_n 0, 1) (pgm 27 rfl)) rfl rfl ?_
        refine sf_getR X ff_12_30 lk_1732 hk (dkX12_laysReading (48, .getfield 67, 3) (pgm 28 rfl)) ?_
        refine so_bipush (v := (64 : Int32)) X (dkX12_laysReading (51, .bipush 64, 2) (pgm 29 rfl)) bp_64 ?_
        refine so_aload_n (i := 0) X 0 (dkX12_laysReading (53, .aload_n 0, 1) (pgm 30 rfl)) rfl rfl ?_
        refine sf_getI X ff_12_33 lk_1735 hk (dkX12_laysReading (54, .getfield 395, 3) (pgm 31 rfl)) ?_
        refine so_imul X (dkX12_laysReading (57, .imul, 1) (pgm 32 rfl)) ?_
        refine so_iload_n (i := 2) X 2 (dkX12_laysReading (58, .iload_n 2, 1) (pgm 33 rfl)) rfl rfl ?_
        refine so_bipush (v := (64 : Int32)) X (dkX12_laysReading (59, .bipush 64, 2) (pgm 34 rfl)) bp_64 ?_
        refine so_idiv X (dkX12_laysReading (61, .idiv, 1) (pgm 35 rfl)) (fun _ => ?_)
        refine so_iadd X (dkX12_laysReading (62, .iadd, 1) (pgm 36 rfl)) ?_
        refine so_dup2 X (dkX12_laysReading (63, .dup2, 1) (pgm 37 rfl)) rfl rfl ?_
        refine so_lald X (rk_12_30 this hk) (dkX12_laysReading (64, .laload, 1) (pgm 38 rfl)) (fun x11 => ?_)
        refine so_lconst (v := (1 : Int64)) X (dkX12_laysReading (65, .lconst 1, 1) (pgm 39 rfl)) lc_1 ?_
        refine so_iload_n (i := 2) X 2 (dkX12_laysReading (66, .iload_n 2, 1) (pgm 40 rfl)) rfl rfl ?_
        refine so_bipush (v := (64 : Int32)) X (dkX12_laysReading (67, .bipush 64, 2) (pgm 41 rfl)) bp_64 ?_
        refine so_irem X (dkX12_laysReading (69, .irem, 1) (pgm 42 rfl)) (fun _ => ?_)
        refine so_lshl X (dkX12_laysReading (70, .lshl, 1) (pgm 43 rfl)) ?_
        refine so_lor X (dkX12_laysReading (71, .lor, 1) (pgm 44 rfl)) ?_
        refine so_last X (rk_12_30 this hk) (dkX12_laysReading (72, .lastore, 1) (pgm 45 rfl)) (fun h12 => ?_)
        exact so_pick X [0, 1, 2] rfl (hj73 h12)
  refine so_pick (L' := [(0, .ref this), (1, .int a1), (2, .int x1)]) X [1, 2, 0] rfl ?_
  refine so_loop (body := b_X12_laysReading_2 this j29) (fun (s2 : Int32) => [(0, .ref this), (1, .int a1), (2, .int s2)]) (fun rec2 hrec2 s2 hh2 => ?_) FU x1 h0
  unfold b_X12_laysReading_2
  refine so_iload_n (i := 2) X 2 (dkX12_laysReading (2, .iload_n 2, 1) (pgm 2 rfl)) rfl rfl ?_
  refine so_bipush (v := (64 : Int32)) X (dkX12_laysReading (3, .bipush 64, 2) (pgm 3 rfl)) bp_64 ?_
  refine so_icmp_ge (tgt := 29) X (dkX12_laysReading (5, .if_icmp .ge 24, 3) (pgm 4 rfl)) rfl (fun _ => ?_) (fun _ => ?_)
  · exact so_pick X [0, 1] rfl (hj29 hh2)
  · refine so_aload_n (i := 0) X 0 (dkX12_laysReading (8, .aload_n 0, 1) (pgm 5 rfl)) rfl rfl ?_
    refine sf_getR X ff_12_30 lk_1732 hk (dkX12_laysReading (9, .getfield 67, 3) (pgm 6 rfl)) ?_
    refine so_bipush (v := (64 : Int32)) X (dkX12_laysReading (12, .bipush 64, 2) (pgm 7 rfl)) bp_64 ?_
    refine so_aload_n (i := 0) X 0 (dkX12_laysReading (14, .aload_n 0, 1) (pgm 8 rfl)) rfl rfl ?_
    refine sf_getI X ff_12_33 lk_1735 hk (dkX12_laysReading (15, .getfield 395, 3) (pgm 9 rfl)) ?_
    refine so_imul X (dkX12_laysReading (18, .imul, 1) (pgm 10 rfl)) ?_
    refine so_iload_n (i := 2) X 2 (dkX12_laysReading (19, .iload_n 2, 1) (pgm 11 rfl)) rfl rfl ?_
    refine so_iadd X (dkX12_laysReading (20, .iadd, 1) (pgm 12 rfl)) ?_
    refine so_lconst (v := (0 : Int64)) X (dkX12_laysReading (21, .lconst 0, 1) (pgm 13 rfl)) lc_0 ?_
    refine so_last X (rk_12_30 this hk) (dkX12_laysReading (22, .lastore, 1) (pgm 14 rfl)) (fun h13 => ?_)
    refine so_iinc (i := 2) X 2 (dkX12_laysReading (23, .iinc 2 1, 3) (pgm 15 rfl)) rfl rfl (by decide) (Lf := fun x14 => [(2, .int x14), (0, .ref this), (1, .int a1)]) (fun _ => rfl) (fun x14 => ?_)
    refine so_goto (tgt := 2) X (dkX12_laysReading (26, .goto (-24), 3) (pgm 16 rfl)) rfl ?_
    exact so_pick X [1, 2, 0] rfl (hrec2 x14 h13)
def pgX12_laysPair : List (Nat × Instr × Nat) := [(0, .iconst 0, 1), (1, .istore 4, 2), (3, .iload 4, 2), (5, .bipush 64, 2), (7, .if_icmp .ge 69, 3), (10, .aload_n 0, 1), (11, .getfield 67, 3), (14, .bipush 64, 2), (16, .iload_n 1, 1), (17, .imul, 1), (18, .iload 4, 2), (20, .iadd, 1), (21, .laload, 1), (22, .lstore 5, 2), (24, .aload_n 0, 1), (25, .getfield 67, 3), (28, .bipush 64, 2), (30, .iload_n 2, 1), (31, .imul, 1), (32, .iload 4, 2), (34, .iadd, 1), (35, .laload, 1), (36, .lstore 7, 2), (38, .aload_n 0, 1), (39, .getfield 67, 3), (42, .bipush 64, 2), (44, .aload_n 0, 1), (45, .getfield 395, 3), (48, .imul, 1), (49, .iload 4, 2), (51, .iadd, 1), (52, .iload_n 3, 1), (53, .ifCond .eq 11, 3), (56, .lload 5, 2), (58, .lload 7, 2), (60, .lor, 1), (61, .goto 8, 3), (64, .lload 5, 2), (66, .lload 7, 2), (68, .land, 1), (69, .lastore, 1), (70, .iinc 4 1, 3), (73, .goto (-70), 3), (76, .aload_n 0, 1), (77, .dup, 1), (78, .getfield 395, 3), (81, .iconst 1, 1), (82, .iadd, 1), (83, .putfield 395, 3), (86, .return_, 1)]
theorem dkX12_laysPair : ∀ q ∈ pgX12_laysPair, decode cX12_laysPair q.1 = .ok q.2 := by decide +kernel
def b_X12_laysPair_3 (this : Nat) (a1 : Int32) (a2 : Int32) (a3 : Int32) (rec3 : (Int32) → PH → Option (Unit × PH)) (s3 : Int32) (hh3 : PH) : Option (Unit × PH) :=
  if (64 : Int32) ≤ s3 then (lt (pI hh3 this 33 ((hh3.1 this 33) + (1 : Int32))) (fun (h2 : PH) => some ((), h2))) else (ldL hh3 (rt this 30) 2496 (((64 : Int32) * a1) + s3) (fun (x3 : Int64) => lt x3 (fun (x4 : Int64) => ldL hh3 (rt this 30) 2496 (((64 : Int32) * a2) + s3) (fun (x5 : Int64) => lt x5 (fun (x6 : Int64) => lt (fun (t7 : Int64) (h8 : PH) => stL h8 (rt this 30) 2496 (((64 : Int32) * (hh3.1 this 33)) + s3) t7 (fun (h9 : PH) => lt (s3 + Int32.ofInt 1) (fun (x10 : Int32) => rec3 x10 h9))) (fun (j69 : Int64 → PH → Option (Unit × PH)) => if a3 = 0 then (j69 (x4 &&& x6) hh3) else (j69 (x4 ||| x6) hh3)))))))
def f_X12_laysPair (this : Nat) (a1 : Int32) (a2 : Int32) (a3 : Int32) (h0 : PH) : Option (Unit × PH) :=
  lt (0 : Int32) (fun (x1 : Int32) => lp (b_X12_laysPair_3 this a1 a2 a3) FU x1 h0)
set_option maxRecDepth 100000 in
set_option maxHeartbeats 4000000 in
theorem ct_X12_laysPair (l : Launch) (this : Nat) (a1 : Int32) (a2 : Int32) (a3 : Int32) (h0 : PH) (hk : (kd this).1 = 12) : CT mkV l yX12_laysPair cX12_laysPair 9 none (rmd 0) [.ref this, .int a1, .int a2, .int a3] h0 (f_X12_laysPair this a1 a2 a3 h0) := by
  refine ct_of (by decide) (Nat.le_of_ble_eq_true rfl) ?_
  intro p e s m args below meth c D cA ad A X hr hlk
  have X : Cx p s m args c RX12 cX12_laysPair 9 D cA ad A := X
  unfold f_X12_laysPair
  refine so_pick (L' := [(0, .ref this), (1, .int a1), (2, .int a2), (3, .int a3)]) X [0, 1, 2, 3] rfl ?_
  refine so_iconst (v := (0 : Int32)) X (dkX12_laysPair (0, .iconst 0, 1) (pgm 0 rfl)) ic_0 ?_
  refine so_istore (i := 4) X (dkX12_laysPair (1, .istore 4, 2) (pgm 1 rfl)) (by decide) (Lf := fun x1 => [(4, .int x1), (0, .ref this), (1, .int a1), (2, .int a2), (3, .int a3)]) (fun _ => rfl) (fun x1 => ?_)
  refine so_pick (L' := [(0, .ref this), (1, .int a1), (2, .int a2), (3, .int a3), (4, .int x1)]) X [1, 2, 3, 4, 0] rfl ?_
  refine so_loop (body := b_X12_laysPair_3 this a1 a2 a3) (fun (s3 : Int32) => [(0, .ref this), (1, .int a1), (2, .int a2), (3, .int a3), (4, .int s3)]) (fun rec3 hrec3 s3 hh3 => ?_) FU x1 h0
  unfold b_X12_laysPair_3
  refine so_iload (i := 4) X 4 (dkX12_laysPair (3, .iload 4, 2) (pgm 2 rfl)) rfl ?_
  refine so_bipush (v := (64 : Int32)) X (dkX12_laysPair (5, .bipush 64, 2) (pgm 3 rfl)) bp_64 ?_
  refine so_icmp_ge (tgt := 76) X (dkX12_laysPair (7, .if_icmp .ge 69, 3) (pgm 4 rfl)) rfl (fun _ => ?_) (fun _ => ?_)
  · refine so_aload_n (i := 0) X 0 (dkX12_laysPair (76, .aload_n 0, 1) (pgm 43 rfl)) rfl rfl ?_
    refine so_dup X (dkX12_laysPair (77, .dup, 1) (pgm 44 rfl)) rfl ?_
    refine sf_getI X ff_12_33 lk_1735 hk (dkX12_laysPair (78, .getfield 395, 3) (pgm 45 rfl)) ?_
    refine so_iconst (v := (1 : Int32)) X (dkX12_laysPair (81, .iconst 1, 1) (pgm 46 rfl)) ic_1 ?_
    refine so_iadd X (dkX12_laysPair (82, .iadd, 1) (pgm 47 rfl)) ?_
    refine sf_putI X ff_12_33 ft_12 rfl lk_1735 hk rfl rfl (dkX12_laysPair (83, .putfield 395, 3) (pgm 48 rfl)) (fun h2 => ?_)
    exact so_vret X hr hlk (dkX12_laysPair (86, .return_, 1) (pgm 49 rfl))
  · refine so_aload_n (i := 0) X 0 (dkX12_laysPair (10, .aload_n 0, 1) (pgm 5 rfl)) rfl rfl ?_
    refine sf_getR X ff_12_30 lk_1732 hk (dkX12_laysPair (11, .getfield 67, 3) (pgm 6 rfl)) ?_
    refine so_bipush (v := (64 : Int32)) X (dkX12_laysPair (14, .bipush 64, 2) (pgm 7 rfl)) bp_64 ?_
    refine so_iload_n (i := 1) X 1 (dkX12_laysPair (16, .iload_n 1, 1) (pgm 8 rfl)) rfl rfl ?_
    refine so_imul X (dkX12_laysPair (17, .imul, 1) (pgm 9 rfl)) ?_
    refine so_iload (i := 4) X 4 (dkX12_laysPair (18, .iload 4, 2) (pgm 10 rfl)) rfl ?_
    refine so_iadd X (dkX12_laysPair (20, .iadd, 1) (pgm 11 rfl)) ?_
    refine so_lald X (rk_12_30 this hk) (dkX12_laysPair (21, .laload, 1) (pgm 12 rfl)) (fun x3 => ?_)
    refine so_lstore (i := 5) X (dkX12_laysPair (22, .lstore 5, 2) (pgm 13 rfl)) (by decide) (Lf := fun x4 => [(5, .long x4), (0, .ref this), (1, .int a1), (2, .int a2), (3, .int a3), (4, .int s3)]) (fun _ => rfl) (fun x4 => ?_)
    refine so_aload_n (i := 0) X 1 (dkX12_laysPair (24, .aload_n 0, 1) (pgm 14 rfl)) rfl rfl ?_
    refine sf_getR X ff_12_30 lk_1732 hk (dkX12_laysPair (25, .getfield 67, 3) (pgm 15 rfl)) ?_
    refine so_bipush (v := (64 : Int32)) X (dkX12_laysPair (28, .bipush 64, 2) (pgm 16 rfl)) bp_64 ?_
    refine so_iload_n (i := 2) X 3 (dkX12_laysPair (30, .iload_n 2, 1) (pgm 17 rfl)) rfl rfl ?_
    refine so_imul X (dkX12_laysPair (31, .imul, 1) (pgm 18 rfl)) ?_
    refine so_iload (i := 4) X 5 (dkX12_laysPair (32, .iload 4, 2) (pgm 19 rfl)) rfl ?_
    refine so_iadd X (dkX12_laysPair (34, .iadd, 1) (pgm 20 rfl)) ?_
    refine so_lald X (rk_12_30 this hk) (dkX12_laysPair (35, .laload, 1) (pgm 21 rfl)) (fun x5 => ?_)
    refine so_lstore (i := 7) X (dkX12_laysPair (36, .lstore 7, 2) (pgm 22 rfl)) (by decide) (Lf := fun x6 => [(7, .long x6), (5, .long x4), (0, .ref this), (1, .int a1), (2, .int a2), (3, .int a3), (4, .int s3)]) (fun _ => rfl) (fun x6 => ?_)
    refine so_aload_n (i := 0) X 2 (dkX12_laysPair (38, .aload_n 0, 1) (pgm 23 rfl)) rfl rfl ?_
    refine sf_getR X ff_12_30 lk_1732 hk (dkX12_laysPair (39, .getfield 67, 3) (pgm 24 rfl)) ?_
    refine so_bipush (v := (64 : Int32)) X (dkX12_laysPair (42, .bipush 64, 2) (pgm 25 rfl)) bp_64 ?_
    refine so_aload_n (i := 0) X 2 (dkX12_laysPair (44, .aload_n 0, 1) (pgm 26 rfl)) rfl rfl ?_
    refine sf_getI X ff_12_33 lk_1735 hk (dkX12_laysPair (45, .getfield 395, 3) (pgm 27 rfl)) ?_
    refine so_imul X (dkX12_laysPair (48, .imul, 1) (pgm 28 rfl)) ?_
    refine so_iload (i := 4) X 6 (dkX12_laysPair (49, .iload 4, 2) (pgm 29 rfl)) rfl ?_
    refine so_iadd X (dkX12_laysPair (51, .iadd, 1) (pgm 30 rfl)) ?_
    refine so_iload_n (i := 3) X 5 (dkX12_laysPair (52, .iload_n 3, 1) (pgm 31 rfl)) rfl rfl ?_
    refine so_join (jf := fun (t7 : Int64) (h8 : PH) => stL h8 (rt this 30) 2496 (((64 : Int32) * (hh3.1 this 33)) + s3) t7 (fun (h9 : PH) => lt (s3 + Int32.ofInt 1) (fun (x10 : Int32) => rec3 x10 h9))) (fun (j : Int64 → PH → Option (Unit × PH)) => ∀ (t7 : Int64) (h8 : PH), SWo (QM mkV below args s D cA ad A) p l e (rmd 0) s m args below meth c 0 0 9 D cA ad A 69 [(0, .ref this), (1, .int a1), (2, .int a2), (3, .int a3), (4, .int s3)] [.long t7, .int (((64 : Int32) * (hh3.1 this 33)) + s3), .ref (rt this 30)] h8 (j t7 h8)) ?_ (fun j69 hj69 => ?_)
    · intro t7 h8
      refine so_last X (rk_12_30 this hk) (dkX12_laysPair (69, .lastore, 1) (pgm 40 rfl)) (fun h9 => ?_)
      refine so_iinc (i := 4) X 4 (dkX12_laysPair (70, .iinc 4 1, 3) (pgm 41 rfl)) rfl rfl (by decide) (Lf := fun x10 => [(4, .int x10), (0, .ref this), (1, .int a1), (2, .int a2), (3, .int a3)]) (fun _ => rfl) (fun x10 => ?_)
      refine so_goto (tgt := 3) X (dkX12_laysPair (73, .goto (-70), 3) (pgm 42 rfl)) rfl ?_
      exact so_pick X [1, 2, 3, 4, 0] rfl (hrec3 x10 h9)
    refine so_if_eq (tgt := 64) X (dkX12_laysPair (53, .ifCond .eq 11, 3) (pgm 32 rfl)) rfl (fun _ => ?_) (fun _ => ?_)
    · refine so_lload (i := 5) X 1 (dkX12_laysPair (64, .lload 5, 2) (pgm 37 rfl)) rfl ?_
      refine so_lload (i := 7) X 0 (dkX12_laysPair (66, .lload 7, 2) (pgm 38 rfl)) rfl ?_
      refine so_land X (dkX12_laysPair (68, .land, 1) (pgm 39 rfl)) ?_
      exact so_pick X [2, 3, 4, 5, 6] rfl (hj69 (x4 &&& x6) hh3)
    · refine so_lload (i := 5) X 1 (dkX12_laysPair (56, .lload 5, 2) (pgm 33 rfl)) rfl ?_
      refine so_lload (i := 7) X 0 (dkX12_laysPair (58, .lload 7, 2) (pgm 34 rfl)) rfl ?_
      refine so_lor X (dkX12_laysPair (60, .lor, 1) (pgm 35 rfl)) ?_
      refine so_goto (tgt := 69) X (dkX12_laysPair (61, .goto 8, 3) (pgm 36 rfl)) rfl ?_
      exact so_pick X [2, 3, 4, 5, 6] rfl (hj69 (x4 ||| x6) hh3)
def pgX12_reads : List (Nat × Instr × Nat) := [(0, .iconst 5, 1), (1, .iload_n 2, 1), (2, .imul, 1), (3, .iload_n 3, 1), (4, .iadd, 1), (5, .istore 4, 2), (7, .aload_n 0, 1), (8, .getfield 71, 3), (11, .iload 4, 2), (13, .aload_n 0, 1), (14, .getfield 395, 3), (17, .iastore, 1), (18, .iload_n 2, 1), (19, .iload_n 3, 1), (20, .if_icmp .ne 21, 3), (23, .aload_n 0, 1), (24, .aload_n 0, 1), (25, .getfield 86, 3), (28, .bipush 30, 2), (30, .iload_n 1, 1), (31, .imul, 1), (32, .iconst 2, 1), (33, .iload_n 2, 1), (34, .imul, 1), (35, .iadd, 1), (36, .laload, 1), (37, .l2i, 1), (38, .invokevirtual 398, 3), (41, .iload_n 2, 1), (42, .istore 5, 2), (44, .iload 5, 2), (46, .iload_n 3, 1), (47, .if_icmp .ge 123, 3), (50, .iconst 5, 1), (51, .iload_n 2, 1), (52, .imul, 1), (53, .iload 5, 2), (55, .iadd, 1), (56, .istore 6, 2), (58, .iconst 5, 1), (59, .iload 5, 2), (61, .iconst 1, 1), (62, .iadd, 1), (63, .imul, 1), (64, .iload_n 3, 1), (65, .iadd, 1), (66, .istore 7, 2), (68, .aload_n 0, 1), (69, .getfield 86, 3), (72, .bipush 30, 2), (74, .iload_n 1, 1), (75, .imul, 1), (76, .iconst 2, 1), (77, .iload 5, 2), (79, .imul, 1), (80, .iadd, 1), (81, .iconst 1, 1), (82, .iadd, 1), (83, .laload, 1), (84, .lconst 1, 1), (85, .lcmp, 1), (86, .ifCond .ne 7, 3), (89, .iconst 1, 1), (90, .goto 4, 3), (93, .iconst 0, 1), (94, .istore 8, 2), (96, .iconst 0, 1), (97, .istore 9, 2), (99, .iload 9, 2), (101, .aload_n 0, 1), (102, .getfield 74, 3), (105, .iload 6, 2), (107, .iaload, 1), (108, .if_icmp .ge 56, 3), (111, .iconst 0, 1), (112, .istore 10, 2), (114, .iload 10, 2), (116, .aload_n 0, 1), (117, .getfield 74, 3), (120, .iload 7, 2), (122, .iaload, 1), (123, .if_icmp .ge 35, 3), (126, .aload_n 0, 1), (127, .aload_n 0, 1), (128, .getfield 71, 3), (131, .iload 6, 2), (133, .iaload, 1), (134, .iload 9, 2), (136, .iadd, 1), (137, .aload_n 0, 1), (138, .getfield 71, 3), (141, .iload 7, 2), (143, .iaload, 1), (144, .iload 10, 2), (146, .iadd, 1), (147, .iload 8, 2), (149, .invokevirtual 401, 3), (152, .iinc 10 1, 3), (155, .goto (-41), 3), (158, .iinc 9 1, 3), (161, .goto (-62), 3), (164, .iinc 5 1, 3), (167, .goto (-123), 3), (170, .aload_n 0, 1), (171, .getfield 74, 3), (174, .iload 4, 2), (176, .aload_n 0, 1), (177, .getfield 395, 3), (180, .aload_n 0, 1), (181, .getfield 71, 3), (184, .iload 4, 2), (186, .iaload, 1), (187, .isub, 1), (188, .iastore, 1), (189, .return_, 1)]
theorem dkX12_reads : ∀ q ∈ pgX12_reads, decode cX12_reads q.1 = .ok q.2 := by decide +kernel
def b_X12_reads_114 (this : Nat) (x8 : Int32) (x9 : Int32) (x13 : Int32) (s99 : Int32) (j158 : PH → Option (Unit × PH)) (rec114 : (Int32) → PH → Option (Unit × PH)) (s114 : Int32) (hh114 : PH) : Option (Unit × PH) :=
  ldI hh114 (rt this 32) 25 x9 (fun (x21 : Int32) => if x21 ≤ s114 then (j158 hh114) else (ldI hh114 (rt this 31) 25 x8 (fun (x22 : Int32) => ldI hh114 (rt this 31) 25 x9 (fun (x23 : Int32) => cb (f_X12_laysPair this (x22 + s99) (x23 + s114) x13 hh114) (fun (r24 : Unit) (h25 : PH) => lt (s114 + Int32.ofInt 1) (fun (x26 : Int32) => rec114 x26 h25))))))
def b_X12_reads_99 (this : Nat) (x8 : Int32) (x9 : Int32) (x13 : Int32) (j164 : PH → Option (Unit × PH)) (rec99 : (Int32) → PH → Option (Unit × PH)) (s99 : Int32) (hh99 : PH) : Option (Unit × PH) :=
  ldI hh99 (rt this 32) 25 x8 (fun (x17 : Int32) => if x17 ≤ s99 then (j164 hh99) else (lt (0 : Int32) (fun (x18 : Int32) => lt (fun (h19 : PH) => lt (s99 + Int32.ofInt 1) (fun (x20 : Int32) => rec99 x20 h19)) (fun (j158 : PH → Option (Unit × PH)) => lp (b_X12_reads_114 this x8 x9 x13 s99 j158) FU x18 hh99))))
def b_X12_reads_44 (this : Nat) (a1 : Int32) (a2 : Int32) (a3 : Int32) (j170 : PH → Option (Unit × PH)) (rec44 : (Int32) → PH → Option (Unit × PH)) (s44 : Int32) (hh44 : PH) : Option (Unit × PH) :=
  if a3 ≤ s44 then (j170 hh44) else (lt (((5 : Int32) * a2) + s44) (fun (x8 : Int32) => lt (((5 : Int32) * (s44 + (1 : Int32))) + a3) (fun (x9 : Int32) => ldL hh44 (rt this 38) 120 ((((30 : Int32) * a1) + ((2 : Int32) * s44)) + (1 : Int32)) (fun (x10 : Int64) => lt (fun (t11 : Int32) (h12 : PH) => lt t11 (fun (x13 : Int32) => lt (0 : Int32) (fun (x14 : Int32) => lt (fun (h15 : PH) => lt (s44 + Int32.ofInt 1) (fun (x16 : Int32) => rec44 x16 h15)) (fun (j164 : PH → Option (Unit × PH)) => lp (b_X12_reads_99 this x8 x9 x13 j164) FU x14 h12)))) (fun (j94 : Int32 → PH → Option (Unit × PH)) => if (lg_cmp x10 (1 : Int64)) = 0 then (j94 (1 : Int32) hh44) else (j94 (0 : Int32) hh44))))))
def f_X12_reads (this : Nat) (a1 : Int32) (a2 : Int32) (a3 : Int32) (h0 : PH) : Option (Unit × PH) :=
  lt (((5 : Int32) * a2) + a3) (fun (x1 : Int32) => stI h0 (rt this 31) 25 x1 (h0.1 this 33) (fun (h2 : PH) => lt (fun (h3 : PH) => lt a2 (fun (x4 : Int32) => lt (fun (h5 : PH) => ldI h5 (rt this 31) 25 x1 (fun (x6 : Int32) => stI h5 (rt this 32) 25 x1 ((h5.1 this 33) - x6) (fun (h7 : PH) => some ((), h7)))) (fun (j170 : PH → Option (Unit × PH)) => lp (b_X12_reads_44 this a1 a2 a3 j170) FU x4 h3))) (fun (j41 : PH → Option (Unit × PH)) => if a2 = a3 then (ldL h2 (rt this 38) 120 (((30 : Int32) * a1) + ((2 : Int32) * a2)) (fun (x27 : Int64) => cb (f_X12_laysReading this x27.toInt32 h2) (fun (r28 : Unit) (h29 : PH) => j41 h29))) else (j41 h2))))
set_option maxRecDepth 100000 in
set_option maxHeartbeats 4000000 in
theorem ct_X12_reads (l : Launch) (this : Nat) (a1 : Int32) (a2 : Int32) (a3 : Int32) (h0 : PH) (hk : (kd this).1 = 12) : CT mkV l yX12_reads cX12_reads 11 none (rmd 3) [.ref this, .int a1, .int a2, .int a3] h0 (f_X12_reads this a1 a2 a3 h0) := by
  refine ct_of (by decide) (Nat.le_of_ble_eq_true rfl) ?_
  intro p e s m args below meth c D cA ad A X hr hlk
  have X : Cx p s m args c RX12 cX12_reads 11 D cA ad A := X
  unfold f_X12_reads
  refine so_pick (L' := [(0, .ref this), (1, .int a1), (2, .int a2), (3, .int a3)]) X [0, 1, 2, 3] rfl ?_
  refine so_iconst (v := (5 : Int32)) X (dkX12_reads (0, .iconst 5, 1) (pgm 0 rfl)) ic_5 ?_
  refine so_iload_n (i := 2) X 2 (dkX12_reads (1, .iload_n 2, 1) (pgm 1 rfl)) rfl rfl ?_
  refine so_imul X (dkX12_reads (2, .imul, 1) (pgm 2 rfl)) ?_
  refine so_iload_n (i := 3) X 3 (dkX12_reads (3, .iload_n 3, 1) (pgm 3 rfl)) rfl rfl ?_
  refine so_iadd X (dkX12_reads (4, .iadd, 1) (pgm 4 rfl)) ?_
  refine so_istore (i := 4) X (dkX12_reads (5, .istore 4, 2) (pgm 5 rfl)) (by decide) (Lf := fun x1 => [(4, .int x1), (0, .ref this), (1, .int a1), (2, .int a2), (3, .int a3)]) (fun _ => rfl) (fun x1 => ?_)
  refine so_aload_n (i := 0) X 1 (dkX12_reads (7, .aload_n 0, 1) (pgm 6 rfl)) rfl rfl ?_
  refine sf_getR X ff_12_31 lk_1733 hk (dkX12_reads (8, .getfield 71, 3) (pgm 7 rfl)) ?_
  refine so_iload (i := 4) X 0 (dkX12_reads (11, .iload 4, 2) (pgm 8 rfl)) rfl ?_
  refine so_aload_n (i := 0) X 1 (dkX12_reads (13, .aload_n 0, 1) (pgm 9 rfl)) rfl rfl ?_
  refine sf_getI X ff_12_33 lk_1735 hk (dkX12_reads (14, .getfield 395, 3) (pgm 10 rfl)) ?_
  refine so_iast X (rk_12_31 this hk) (dkX12_reads (17, .iastore, 1) (pgm 11 rfl)) (fun h2 => ?_)
  refine so_iload_n (i := 2) X 3 (dkX12_reads (18, .iload_n 2, 1) (pgm 12 rfl)) rfl rfl ?_
  refine so_iload_n (i := 3) X 4 (dkX12_reads (19, .iload_n 3, 1) (pgm 13 rfl)) rfl rfl ?_
  refine so_join (jf := fun (h3 : PH) => lt a2 (fun (x4 : Int32) => lt (fun (h5 : PH) => ldI h5 (rt this 31) 25 x1 (fun (x6 : Int32) => stI h5 (rt this 32) 25 x1 ((h5.1 this 33) - x6) (fun (h7 : PH) => some ((), h7)))) (fun (j170 : PH → Option (Unit × PH)) => lp (b_X12_reads_44 this a1 a2 a3 j170) FU x4 h3))) (fun (j : PH → Option (Unit × PH)) => ∀  (h3 : PH), SWo (QM mkV below args s D cA ad A) p l e (rmd 3) s m args below meth c 0 0 11 D cA ad A 41 [(0, .ref this), (1, .int a1), (2, .int a2), (3, .int a3), (4, .int x1)] [] h3 (j h3)) ?_ (fun j41 hj41 => ?_)
  · intro h3
    refine so_iload_n (i := 2) X 2 (dkX12_reads (41, .iload_n 2, 1) (pgm 28 rfl)) rfl rfl ?_
    refine so_istore (i := 5) X (dkX12_reads (42, .istore 5, 2) (pgm 29 rfl)) (by decide) (Lf := fun x4 => [(5, .int x4), (0, .ref this), (1, .int a1), (2, .int a2), (3, .int a3), (4, .int x1)]) (fun _ => rfl) (fun x4 => ?_)
    refine so_join (jf := fun (h5 : PH) => ldI h5 (rt this 31) 25 x1 (fun (x6 : Int32) => stI h5 (rt this 32) 25 x1 ((h5.1 this 33) - x6) (fun (h7 : PH) => some ((), h7)))) (fun (j : PH → Option (Unit × PH)) => ∀  (h5 : PH), SWo (QM mkV below args s D cA ad A) p l e (rmd 3) s m args below meth c 0 0 11 D cA ad A 170 [(0, .ref this), (4, .int x1)] [] h5 (j h5)) ?_ (fun j170 hj170 => ?_)
    · intro h5
      refine so_aload_n (i := 0) X 0 (dkX12_reads (170, .aload_n 0, 1) (pgm 103 rfl)) rfl rfl ?_
      refine sf_getR X ff_12_32 lk_1734 hk (dkX12_reads (171, .getfield 74, 3) (pgm 104 rfl)) ?_
      refine so_iload (i := 4) X 1 (dkX12_reads (174, .iload 4, 2) (pgm 105 rfl)) rfl ?_
      refine so_aload_n (i := 0) X 0 (dkX12_reads (176, .aload_n 0, 1) (pgm 106 rfl)) rfl rfl ?_
      refine sf_getI X ff_12_33 lk_1735 hk (dkX12_reads (177, .getfield 395, 3) (pgm 107 rfl)) ?_
      refine so_aload_n (i := 0) X 0 (dkX12_reads (180, .aload_n 0, 1) (pgm 108 rfl)) rfl rfl ?_
      refine sf_getR X ff_12_31 lk_1733 hk (dkX12_reads (181, .getfield 71, 3) (pgm 109 rfl)) ?_
      refine so_iload (i := 4) X 1 (dkX12_reads (184, .iload 4, 2) (pgm 110 rfl)) rfl ?_
      refine so_iald X (rk_12_31 this hk) (dkX12_reads (186, .iaload, 1) (pgm 111 rfl)) (fun x6 => ?_)
      refine so_isub X (dkX12_reads (187, .isub, 1) (pgm 112 rfl)) ?_
      refine so_iast X (rk_12_32 this hk) (dkX12_reads (188, .iastore, 1) (pgm 113 rfl)) (fun h7 => ?_)
      exact so_vret X hr hlk (dkX12_reads (189, .return_, 1) (pgm 114 rfl))
    refine so_pick (L' := [(0, .ref this), (1, .int a1), (2, .int a2), (3, .int a3), (4, .int x1), (5, .int x4)]) X [1, 2, 3, 4, 5, 0] rfl ?_
    refine so_loop (body := b_X12_reads_44 this a1 a2 a3 j170) (fun (s44 : Int32) => [(0, .ref this), (1, .int a1), (2, .int a2), (3, .int a3), (4, .int x1), (5, .int s44)]) (fun rec44 hrec44 s44 hh44 => ?_) FU x4 h3
    unfold b_X12_reads_44
    refine so_iload (i := 5) X 5 (dkX12_reads (44, .iload 5, 2) (pgm 30 rfl)) rfl ?_
    refine so_iload_n (i := 3) X 3 (dkX12_reads (46, .iload_n 3, 1) (pgm 31 rfl)) rfl rfl ?_
    refine so_icmp_ge (tgt := 170) X (dkX12_reads (47, .if_icmp .ge 123, 3) (pgm 32 rfl)) rfl (fun _ => ?_) (fun _ => ?_)
    · exact so_pick X [0, 4] rfl (hj170 hh44)
    · refine so_iconst (v := (5 : Int32)) X (dkX12_reads (50, .iconst 5, 1) (pgm 33 rfl)) ic_5 ?_
      refine so_iload_n (i := 2) X 2 (dkX12_reads (51, .iload_n 2, 1) (pgm 34 rfl)) rfl rfl ?_
      refine so_imul X (dkX12_reads (52, .imul, 1) (pgm 35 rfl)) ?_
      refine so_iload (i := 5) X 5 (dkX12_reads (53, .iload 5, 2) (pgm 36 rfl)) rfl ?_
      refine so_iadd X (dkX12_reads (55, .iadd, 1) (pgm 37 rfl)) ?_
      refine so_istore (i := 6) X (dkX12_reads (56, .istore 6, 2) (pgm 38 rfl)) (by decide) (Lf := fun x8 => [(6, .int x8), (0, .ref this), (1, .int a1), (2, .int a2), (3, .int a3), (4, .int x1), (5, .int s44)]) (fun _ => rfl) (fun x8 => ?_)
      refine so_iconst (v := (5 : Int32)) X (dkX12_reads (58, .iconst 5, 1) (pgm 39 rfl)) ic_5 ?_
      refine so_iload (i := 5) X 6 (dkX12_reads (59, .iload 5, 2) (pgm 40 rfl)) rfl ?_
      refine so_iconst (v := (1 : Int32)) X (dkX12_reads (61, .iconst 1, 1) (pgm 41 rfl)) ic_1 ?_
      refine so_iadd X (dkX12_reads (62, .iadd, 1) (pgm 42 rfl)) ?_
      refine so_imul X (dkX12_reads (63, .imul, 1) (pgm 43 rfl)) ?_
      refine so_iload_n (i := 3) X 4 (dkX12_reads (64, .iload_n 3, 1) (pgm 44 rfl)) rfl rfl ?_
      refine so_iadd X (dkX12_reads (65, .iadd, 1) (pgm 45 rfl)) ?_
      refine so_istore (i := 7) X (dkX12_reads (66, .istore 7, 2) (pgm 46 rfl)) (by decide) (Lf := fun x9 => [(7, .int x9), (6, .int x8), (0, .ref this), (1, .int a1), (2, .int a2), (3, .int a3), (4, .int x1), (5, .int s44)]) (fun _ => rfl) (fun x9 => ?_)
      refine so_aload_n (i := 0) X 2 (dkX12_reads (68, .aload_n 0, 1) (pgm 47 rfl)) rfl rfl ?_
      refine sf_getR X ff_12_38 lk_1740 hk (dkX12_reads (69, .getfield 86, 3) (pgm 48 rfl)) ?_
      refine so_bipush (v := (30 : Int32)) X (dkX12_reads (72, .bipush 30, 2) (pgm 49 rfl)) bp_30 ?_
      refine so_iload_n (i := 1) X 3 (dkX12_reads (74, .iload_n 1, 1) (pgm 50 rfl)) rfl rfl ?_
      refine so_imul X (dkX12_reads (75, .imul, 1) (pgm 51 rfl)) ?_
      refine so_iconst (v := (2 : Int32)) X (dkX12_reads (76, .iconst 2, 1) (pgm 52 rfl)) ic_2 ?_
      refine so_iload (i := 5) X 7 (dkX12_reads (77, .iload 5, 2) (pgm 53 rfl)) rfl ?_
      refine so_imul X (dkX12_reads (79, .imul, 1) (pgm 54 rfl)) ?_
      refine so_iadd X (dkX12_reads (80, .iadd, 1) (pgm 55 rfl)) ?_
      refine so_iconst (v := (1 : Int32)) X (dkX12_reads (81, .iconst 1, 1) (pgm 56 rfl)) ic_1 ?_
      refine so_iadd X (dkX12_reads (82, .iadd, 1) (pgm 57 rfl)) ?_
      refine so_lald X (rk_12_38 this hk) (dkX12_reads (83, .laload, 1) (pgm 58 rfl)) (fun x10 => ?_)
      refine so_lconst (v := (1 : Int64)) X (dkX12_reads (84, .lconst 1, 1) (pgm 59 rfl)) lc_1 ?_
      refine so_lcmp X (dkX12_reads (85, .lcmp, 1) (pgm 60 rfl)) ?_
      refine so_join (jf := fun (t11 : Int32) (h12 : PH) => lt t11 (fun (x13 : Int32) => lt (0 : Int32) (fun (x14 : Int32) => lt (fun (h15 : PH) => lt (s44 + Int32.ofInt 1) (fun (x16 : Int32) => rec44 x16 h15)) (fun (j164 : PH → Option (Unit × PH)) => lp (b_X12_reads_99 this x8 x9 x13 j164) FU x14 h12)))) (fun (j : Int32 → PH → Option (Unit × PH)) => ∀ (t11 : Int32) (h12 : PH), SWo (QM mkV below args s D cA ad A) p l e (rmd 3) s m args below meth c 0 0 11 D cA ad A 94 [(0, .ref this), (1, .int a1), (2, .int a2), (3, .int a3), (4, .int x1), (5, .int s44), (6, .int x8), (7, .int x9)] [.int t11] h12 (j t11 h12)) ?_ (fun j94 hj94 => ?_)
      · intro t11 h12
        refine so_istore (i := 8) X (dkX12_reads (94, .istore 8, 2) (pgm 65 rfl)) (by decide) (Lf := fun x13 => [(8, .int x13), (0, .ref this), (1, .int a1), (2, .int a2), (3, .int a3), (4, .int x1), (5, .int s44), (6, .int x8), (7, .int x9)]) (fun _ => rfl) (fun x13 => ?_)
        refine so_iconst (v := (0 : Int32)) X (dkX12_reads (96, .iconst 0, 1) (pgm 66 rfl)) ic_0 ?_
        refine so_istore (i := 9) X (dkX12_reads (97, .istore 9, 2) (pgm 67 rfl)) (by decide) (Lf := fun x14 => [(9, .int x14), (8, .int x13), (0, .ref this), (1, .int a1), (2, .int a2), (3, .int a3), (4, .int x1), (5, .int s44), (6, .int x8), (7, .int x9)]) (fun _ => rfl) (fun x14 => ?_)
        refine so_join (jf := fun (h15 : PH) => lt (s44 + Int32.ofInt 1) (fun (x16 : Int32) => rec44 x16 h15)) (fun (j : PH → Option (Unit × PH)) => ∀  (h15 : PH), SWo (QM mkV below args s D cA ad A) p l e (rmd 3) s m args below meth c 0 0 11 D cA ad A 164 [(0, .ref this), (1, .int a1), (2, .int a2), (3, .int a3), (4, .int x1), (5, .int s44)] [] h15 (j h15)) ?_ (fun j164 hj164 => ?_)
        · intro h15
          refine so_iinc (i := 5) X 5 (dkX12_reads (164, .iinc 5 1, 3) (pgm 101 rfl)) rfl rfl (by decide) (Lf := fun x16 => [(5, .int x16), (0, .ref this), (1, .int a1), (2, .int a2), (3, .int a3), (4, .int x1)]) (fun _ => rfl) (fun x16 => ?_)
          refine so_goto (tgt := 44) X (dkX12_reads (167, .goto (-123), 3) (pgm 102 rfl)) rfl ?_
          exact so_pick X [1, 2, 3, 4, 5, 0] rfl (hrec44 x16 h15)
        refine so_pick (L' := [(0, .ref this), (1, .int a1), (2, .int a2), (3, .int a3), (4, .int x1), (5, .int s44), (6, .int x8), (7, .int x9), (8, .int x13), (9, .int x14)]) X [2, 3, 4, 5, 6, 7, 8, 9, 1, 0] rfl ?_
        refine so_loop (body := b_X12_reads_99 this x8 x9 x13 j164) (fun (s99 : Int32) => [(0, .ref this), (1, .int a1), (2, .int a2), (3, .int a3), (4, .int x1), (5, .int s44), (6, .int x8), (7, .int x9), (8, .int x13), (9, .int s99)]) (fun rec99 hrec99 s99 hh99 => ?_) FU x14 h12
        unfold b_X12_reads_99
        refine so_iload (i := 9) X 9 (dkX12_reads (99, .iload 9, 2) (pgm 68 rfl)) rfl ?_
        refine so_aload_n (i := 0) X 0 (dkX12_reads (101, .aload_n 0, 1) (pgm 69 rfl)) rfl rfl ?_
        refine sf_getR X ff_12_32 lk_1734 hk (dkX12_reads (102, .getfield 74, 3) (pgm 70 rfl)) ?_
        refine so_iload (i := 6) X 6 (dkX12_reads (105, .iload 6, 2) (pgm 71 rfl)) rfl ?_
        refine so_iald X (rk_12_32 this hk) (dkX12_reads (107, .iaload, 1) (pgm 72 rfl)) (fun x17 => ?_)
        refine so_icmp_ge (tgt := 164) X (dkX12_reads (108, .if_icmp .ge 56, 3) (pgm 73 rfl)) rfl (fun _ => ?_) (fun _ => ?_)
        · exact so_pick X [0, 1, 2, 3, 4, 5] rfl (hj164 hh99)
        · refine so_iconst (v := (0 : Int32)) X (dkX12_reads (111, .iconst 0, 1) (pgm 74 rfl)) ic_0 ?_
          refine so_istore (i := 10) X (dkX12_reads (112, .istore 10, 2) (pgm 75 rfl)) (by decide) (Lf := fun x18 => [(10, .int x18), (0, .ref this), (1, .int a1), (2, .int a2), (3, .int a3), (4, .int x1), (5, .int s44), (6, .int x8), (7, .int x9), (8, .int x13), (9, .int s99)]) (fun _ => rfl) (fun x18 => ?_)
          refine so_join (jf := fun (h19 : PH) => lt (s99 + Int32.ofInt 1) (fun (x20 : Int32) => rec99 x20 h19)) (fun (j : PH → Option (Unit × PH)) => ∀  (h19 : PH), SWo (QM mkV below args s D cA ad A) p l e (rmd 3) s m args below meth c 0 0 11 D cA ad A 158 [(0, .ref this), (1, .int a1), (2, .int a2), (3, .int a3), (4, .int x1), (5, .int s44), (6, .int x8), (7, .int x9), (8, .int x13), (9, .int s99)] [] h19 (j h19)) ?_ (fun j158 hj158 => ?_)
          · intro h19
            refine so_iinc (i := 9) X 9 (dkX12_reads (158, .iinc 9 1, 3) (pgm 99 rfl)) rfl rfl (by decide) (Lf := fun x20 => [(9, .int x20), (0, .ref this), (1, .int a1), (2, .int a2), (3, .int a3), (4, .int x1), (5, .int s44), (6, .int x8), (7, .int x9), (8, .int x13)]) (fun _ => rfl) (fun x20 => ?_)
            refine so_goto (tgt := 99) X (dkX12_reads (161, .goto (-62), 3) (pgm 100 rfl)) rfl ?_
            exact so_pick X [1, 2, 3, 4, 5, 6, 7, 8, 9, 0] rfl (hrec99 x20 h19)
          refine so_pick (L' := [(0, .ref this), (1, .int a1), (2, .int a2), (3, .int a3), (4, .int x1), (5, .int s44), (6, .int x8), (7, .int x9), (8, .int x13), (9, .int s99), (10, .int x18)]) X [1, 2, 3, 4, 5, 6, 7, 8, 9, 10, 0] rfl ?_
          refine so_loop (body := b_X12_reads_114 this x8 x9 x13 s99 j158) (fun (s114 : Int32) => [(0, .ref this), (1, .int a1), (2, .int a2), (3, .int a3), (4, .int x1), (5, .int s44), (6, .int x8), (7, .int x9), (8, .int x13), (9, .int s99), (10, .int s114)]) (fun rec114 hrec114 s114 hh114 => ?_) FU x18 hh99
          unfold b_X12_reads_114
          refine so_iload (i := 10) X 10 (dkX12_reads (114, .iload 10, 2) (pgm 76 rfl)) rfl ?_
          refine so_aload_n (i := 0) X 0 (dkX12_reads (116, .aload_n 0, 1) (pgm 77 rfl)) rfl rfl ?_
          refine sf_getR X ff_12_32 lk_1734 hk (dkX12_reads (117, .getfield 74, 3) (pgm 78 rfl)) ?_
          refine so_iload (i := 7) X 7 (dkX12_reads (120, .iload 7, 2) (pgm 79 rfl)) rfl ?_
          refine so_iald X (rk_12_32 this hk) (dkX12_reads (122, .iaload, 1) (pgm 80 rfl)) (fun x21 => ?_)
          refine so_icmp_ge (tgt := 158) X (dkX12_reads (123, .if_icmp .ge 35, 3) (pgm 81 rfl)) rfl (fun _ => ?_) (fun _ => ?_)
          · exact so_pick X [0, 1, 2, 3, 4, 5, 6, 7, 8, 9] rfl (hj158 hh114)
          · refine so_aload_n (i := 0) X 0 (dkX12_reads (126, .aload_n 0, 1) (pgm 82 rfl)) rfl rfl ?_
            refine so_aload_n (i := 0) X 0 (dkX12_reads (127, .aload_n 0, 1) (pgm 83 rfl)) rfl rfl ?_
            refine sf_getR X ff_12_31 lk_1733 hk (dkX12_reads (128, .getfield 71, 3) (pgm 84 rfl)) ?_
            refine so_iload (i := 6) X 6 (dkX12_reads (131, .iload 6, 2) (pgm 85 rfl)) rfl ?_
            refine so_iald X (rk_12_31 this hk) (dkX12_reads (133, .iaload, 1) (pgm 86 rfl)) (fun x22 => ?_)
            refine so_iload (i := 9) X 9 (dkX12_reads (134, .iload 9, 2) (pgm 87 rfl)) rfl ?_
            refine so_iadd X (dkX12_reads (136, .iadd, 1) (pgm 88 rfl)) ?_
            refine so_aload_n (i := 0) X 0 (dkX12_reads (137, .aload_n 0, 1) (pgm 89 rfl)) rfl rfl ?_
            refine sf_getR X ff_12_31 lk_1733 hk (dkX12_reads (138, .getfield 71, 3) (pgm 90 rfl)) ?_
            refine so_iload (i := 7) X 7 (dkX12_reads (141, .iload 7, 2) (pgm 91 rfl)) rfl ?_
            refine so_iald X (rk_12_31 this hk) (dkX12_reads (143, .iaload, 1) (pgm 92 rfl)) (fun x23 => ?_)
            refine so_iload (i := 10) X 10 (dkX12_reads (144, .iload 10, 2) (pgm 93 rfl)) rfl ?_
            refine so_iadd X (dkX12_reads (146, .iadd, 1) (pgm 94 rfl)) ?_
            refine so_iload (i := 8) X 8 (dkX12_reads (147, .iload 8, 2) (pgm 95 rfl)) rfl ?_
            refine so_callV (n := 3) (As := [.int (x22 + s99), .int (x23 + s114), .int x13]) X (ct_X12_laysPair l this (x22 + s99) (x23 + s114) x13 hh114 hk) hk (by decide) rfl lk_2166 lk_2168 lk_109 lk_134 lk_2169 (by decide +kernel) rfl rfl rfl (rm_ok (by omega) (by decide)) ⟨Nat.zero_le _, Nat.zero_le _⟩ (Nat.le_of_ble_eq_true rfl) (dkX12_reads (149, .invokevirtual 401, 3) (pgm 96 rfl)) (fun r24 h25 => ?_) rfl
            refine so_iinc (i := 10) X 10 (dkX12_reads (152, .iinc 10 1, 3) (pgm 97 rfl)) rfl rfl (by decide) (Lf := fun x26 => [(10, .int x26), (0, .ref this), (1, .int a1), (2, .int a2), (3, .int a3), (4, .int x1), (5, .int s44), (6, .int x8), (7, .int x9), (8, .int x13), (9, .int s99)]) (fun _ => rfl) (fun x26 => ?_)
            refine so_goto (tgt := 114) X (dkX12_reads (155, .goto (-41), 3) (pgm 98 rfl)) rfl ?_
            exact so_pick X [1, 2, 3, 4, 5, 6, 7, 8, 9, 10, 0] rfl (hrec114 x26 h25)
      refine so_if_ne (tgt := 93) X (dkX12_reads (86, .ifCond .ne 7, 3) (pgm 61 rfl)) rfl (fun _ => ?_) (fun _ => ?_)
      · refine so_iconst (v := (0 : Int32)) X (dkX12_reads (93, .iconst 0, 1) (pgm 64 rfl)) ic_0 ?_
        exact so_pick X [2, 3, 4, 5, 6, 7, 1, 0] rfl (hj94 (0 : Int32) hh44)
      · refine so_iconst (v := (1 : Int32)) X (dkX12_reads (89, .iconst 1, 1) (pgm 62 rfl)) ic_1 ?_
        refine so_goto (tgt := 94) X (dkX12_reads (90, .goto 4, 3) (pgm 63 rfl)) rfl ?_
        exact so_pick X [2, 3, 4, 5, 6, 7, 1, 0] rfl (hj94 (1 : Int32) hh44)
  refine so_icmp_ne (tgt := 41) X (dkX12_reads (20, .if_icmp .ne 21, 3) (pgm 14 rfl)) rfl (fun _ => ?_) (fun _ => ?_)
  · exact so_pick X [1, 2, 3, 4, 0] rfl (hj41 h2)
  · refine so_aload_n (i := 0) X 1 (dkX12_reads (23, .aload_n 0, 1) (pgm 15 rfl)) rfl rfl ?_
    refine so_aload_n (i := 0) X 1 (dkX12_reads (24, .aload_n 0, 1) (pgm 16 rfl)) rfl rfl ?_
    refine sf_getR X ff_12_38 lk_1740 hk (dkX12_reads (25, .getfield 86, 3) (pgm 17 rfl)) ?_
    refine so_bipush (v := (30 : Int32)) X (dkX12_reads (28, .bipush 30, 2) (pgm 18 rfl)) bp_30 ?_
    refine so_iload_n (i := 1) X 2 (dkX12_reads (30, .iload_n 1, 1) (pgm 19 rfl)) rfl rfl ?_
    refine so_imul X (dkX12_reads (31, .imul, 1) (pgm 20 rfl)) ?_
    refine so_iconst (v := (2 : Int32)) X (dkX12_reads (32, .iconst 2, 1) (pgm 21 rfl)) ic_2 ?_
    refine so_iload_n (i := 2) X 3 (dkX12_reads (33, .iload_n 2, 1) (pgm 22 rfl)) rfl rfl ?_
    refine so_imul X (dkX12_reads (34, .imul, 1) (pgm 23 rfl)) ?_
    refine so_iadd X (dkX12_reads (35, .iadd, 1) (pgm 24 rfl)) ?_
    refine so_lald X (rk_12_38 this hk) (dkX12_reads (36, .laload, 1) (pgm 25 rfl)) (fun x27 => ?_)
    refine so_l2i X (dkX12_reads (37, .l2i, 1) (pgm 26 rfl)) ?_
    refine so_callV (n := 1) (As := [.int x27.toInt32]) X (ct_X12_laysReading l this x27.toInt32 h2 hk) hk (by decide) rfl lk_2162 lk_2164 lk_108 lk_134 lk_2165 (by decide +kernel) rfl rfl rfl (rm_ok (by omega) (by decide)) ⟨Nat.zero_le _, Nat.zero_le _⟩ (Nat.le_of_ble_eq_true rfl) (dkX12_reads (38, .invokevirtual 398, 3) (pgm 27 rfl)) (fun r28 h29 => ?_) rfl
    exact so_pick X [1, 2, 3, 4, 0] rfl (hj41 h29)
def pgX12_areLike : List (Nat × Instr × Nat) := [(0, .iconst 0, 1), (1, .istore_n 3, 1), (2, .iload_n 3, 1), (3, .bipush 64, 2), (5, .if_icmp .ge 37, 3), (8, .aload_n 0, 1), (9, .getfield 67, 3), (12, .bipush 64, 2), (14, .iload_n 1, 1), (15, .imul, 1), (16, .iload_n 3, 1), (17, .iadd, 1), (18, .laload, 1), (19, .aload_n 0, 1), (20, .getfield 67, 3), (23, .bipush 64, 2), (25, .iload_n 2, 1), (26, .imul, 1), (27, .iload_n 3, 1), (28, .iadd, 1), (29, .laload, 1), (30, .lcmp, 1), (31, .ifCond .eq 5, 3), (34, .iconst 0, 1), (35, .ireturn, 1), (36, .iinc 3 1, 3), (39, .goto (-37), 3), (42, .iconst 1, 1), (43, .ireturn, 1)]
theorem dkX12_areLike : ∀ q ∈ pgX12_areLike, decode cX12_areLike q.1 = .ok q.2 := by decide +kernel
def b_X12_areLike_2 (this : Nat) (a1 : Int32) (a2 : Int32) (rec2 : (Int32) → PH → Option (Int32 × PH)) (s2 : Int32) (hh2 : PH) : Option (Int32 × PH) :=
  if (64 : Int32) ≤ s2 then (zr (1 : Int32) hh2) else (ldL hh2 (rt this 30) 2496 (((64 : Int32) * a1) + s2) (fun (x2 : Int64) => ldL hh2 (rt this 30) 2496 (((64 : Int32) * a2) + s2) (fun (x3 : Int64) => if (lg_cmp x2 x3) = 0 then (lt (s2 + Int32.ofInt 1) (fun (x4 : Int32) => rec2 x4 hh2)) else (zr (0 : Int32) hh2))))
def f_X12_areLike (this : Nat) (a1 : Int32) (a2 : Int32) (h0 : PH) : Option (Int32 × PH) :=
  lt (0 : Int32) (fun (x1 : Int32) => lp (b_X12_areLike_2 this a1 a2) FU x1 h0)
set_option maxRecDepth 100000 in
set_option maxHeartbeats 4000000 in
theorem ct_X12_areLike (l : Launch) (this : Nat) (a1 : Int32) (a2 : Int32) (h0 : PH) (hk : (kd this).1 = 12) : CT mkI l yX12_areLike cX12_areLike 4 (some .boolean) (rmd 0) [.ref this, .int a1, .int a2] h0 (f_X12_areLike this a1 a2 h0) := by
  refine ct_of (by decide) (Nat.le_of_ble_eq_true rfl) ?_
  intro p e s m args below meth c D cA ad A X hr hlk
  have X : Cx p s m args c RX12 cX12_areLike 4 D cA ad A := X
  unfold f_X12_areLike
  refine so_pick (L' := [(0, .ref this), (1, .int a1), (2, .int a2)]) X [0, 1, 2] rfl ?_
  refine so_iconst (v := (0 : Int32)) X (dkX12_areLike (0, .iconst 0, 1) (pgm 0 rfl)) ic_0 ?_
  refine so_istore_n (i := 3) X (dkX12_areLike (1, .istore_n 3, 1) (pgm 1 rfl)) rfl (by decide) (Lf := fun x1 => [(3, .int x1), (0, .ref this), (1, .int a1), (2, .int a2)]) (fun _ => rfl) (fun x1 => ?_)
  refine so_pick (L' := [(0, .ref this), (1, .int a1), (2, .int a2), (3, .int x1)]) X [1, 2, 3, 0] rfl ?_
  refine so_loop (body := b_X12_areLike_2 this a1 a2) (fun (s2 : Int32) => [(0, .ref this), (1, .int a1), (2, .int a2), (3, .int s2)]) (fun rec2 hrec2 s2 hh2 => ?_) FU x1 h0
  unfold b_X12_areLike_2
  refine so_iload_n (i := 3) X 3 (dkX12_areLike (2, .iload_n 3, 1) (pgm 2 rfl)) rfl rfl ?_
  refine so_bipush (v := (64 : Int32)) X (dkX12_areLike (3, .bipush 64, 2) (pgm 3 rfl)) bp_64 ?_
  refine so_icmp_ge (tgt := 42) X (dkX12_areLike (5, .if_icmp .ge 37, 3) (pgm 4 rfl)) rfl (fun _ => ?_) (fun _ => ?_)
  · refine so_iconst (v := (1 : Int32)) X (dkX12_areLike (42, .iconst 1, 1) (pgm 27 rfl)) ic_1 ?_
    exact so_zret X hr hlk (dkX12_areLike (43, .ireturn, 1) (pgm 28 rfl))
  · refine so_aload_n (i := 0) X 0 (dkX12_areLike (8, .aload_n 0, 1) (pgm 5 rfl)) rfl rfl ?_
    refine sf_getR X ff_12_30 lk_1732 hk (dkX12_areLike (9, .getfield 67, 3) (pgm 6 rfl)) ?_
    refine so_bipush (v := (64 : Int32)) X (dkX12_areLike (12, .bipush 64, 2) (pgm 7 rfl)) bp_64 ?_
    refine so_iload_n (i := 1) X 1 (dkX12_areLike (14, .iload_n 1, 1) (pgm 8 rfl)) rfl rfl ?_
    refine so_imul X (dkX12_areLike (15, .imul, 1) (pgm 9 rfl)) ?_
    refine so_iload_n (i := 3) X 3 (dkX12_areLike (16, .iload_n 3, 1) (pgm 10 rfl)) rfl rfl ?_
    refine so_iadd X (dkX12_areLike (17, .iadd, 1) (pgm 11 rfl)) ?_
    refine so_lald X (rk_12_30 this hk) (dkX12_areLike (18, .laload, 1) (pgm 12 rfl)) (fun x2 => ?_)
    refine so_aload_n (i := 0) X 0 (dkX12_areLike (19, .aload_n 0, 1) (pgm 13 rfl)) rfl rfl ?_
    refine sf_getR X ff_12_30 lk_1732 hk (dkX12_areLike (20, .getfield 67, 3) (pgm 14 rfl)) ?_
    refine so_bipush (v := (64 : Int32)) X (dkX12_areLike (23, .bipush 64, 2) (pgm 15 rfl)) bp_64 ?_
    refine so_iload_n (i := 2) X 2 (dkX12_areLike (25, .iload_n 2, 1) (pgm 16 rfl)) rfl rfl ?_
    refine so_imul X (dkX12_areLike (26, .imul, 1) (pgm 17 rfl)) ?_
    refine so_iload_n (i := 3) X 3 (dkX12_areLike (27, .iload_n 3, 1) (pgm 18 rfl)) rfl rfl ?_
    refine so_iadd X (dkX12_areLike (28, .iadd, 1) (pgm 19 rfl)) ?_
    refine so_lald X (rk_12_30 this hk) (dkX12_areLike (29, .laload, 1) (pgm 20 rfl)) (fun x3 => ?_)
    refine so_lcmp X (dkX12_areLike (30, .lcmp, 1) (pgm 21 rfl)) ?_
    refine so_if_eq (tgt := 36) X (dkX12_areLike (31, .ifCond .eq 5, 3) (pgm 22 rfl)) rfl (fun _ => ?_) (fun _ => ?_)
    · refine so_iinc (i := 3) X 3 (dkX12_areLike (36, .iinc 3 1, 3) (pgm 25 rfl)) rfl rfl (by decide) (Lf := fun x4 => [(3, .int x4), (0, .ref this), (1, .int a1), (2, .int a2)]) (fun _ => rfl) (fun x4 => ?_)
      refine so_goto (tgt := 2) X (dkX12_areLike (39, .goto (-37), 3) (pgm 26 rfl)) rfl ?_
      exact so_pick X [1, 2, 3, 0] rfl (hrec2 x4 hh2)
    · refine so_iconst (v := (0 : Int32)) X (dkX12_areLike (34, .iconst 0, 1) (pgm 23 rfl)) ic_0 ?_
      exact so_zret X hr hlk (dkX12_areLike (35, .ireturn, 1) (pgm 24 rfl))
def pgX12_unlike : List (Nat × Instr × Nat) := [(0, .iconst 0, 1), (1, .istore_n 3, 1), (2, .iconst 0, 1), (3, .istore 4, 2), (5, .iload 4, 2), (7, .iload_n 2, 1), (8, .if_icmp .ge 68, 3), (11, .iconst 1, 1), (12, .istore 5, 2), (14, .iconst 0, 1), (15, .istore 6, 2), (17, .iload 6, 2), (19, .iload 4, 2), (21, .if_icmp .ge 36, 3), (24, .iload 5, 2), (26, .ifCond .eq 22, 3), (29, .aload_n 0, 1), (30, .iload_n 1, 1), (31, .iload 4, 2), (33, .iadd, 1), (34, .iload_n 1, 1), (35, .iload 6, 2), (37, .iadd, 1), (38, .invokevirtual 405, 3), (41, .ifCond .ne 7, 3), (44, .iconst 1, 1), (45, .goto 4, 3), (48, .iconst 0, 1), (49, .istore 5, 2), (51, .iinc 6 1, 3), (54, .goto (-37), 3), (57, .iload_n 3, 1), (58, .iload 5, 2), (60, .ifCond .eq 7, 3), (63, .iconst 1, 1), (64, .goto 4, 3), (67, .iconst 0, 1), (68, .iadd, 1), (69, .istore_n 3, 1), (70, .iinc 4 1, 3), (73, .goto (-68), 3), (76, .iload_n 3, 1), (77, .ireturn, 1)]
theorem dkX12_unlike : ∀ q ∈ pgX12_unlike, decode cX12_unlike q.1 = .ok q.2 := by decide +kernel
def b_X12_unlike_17 (this : Nat) (a1 : Int32) (s5 : Int32 × Int32) (j57 : Int32 → PH → Option (Int32 × PH)) (rec17 : (Int32 × Int32) → PH → Option (Int32 × PH)) (s17 : Int32 × Int32) (hh17 : PH) : Option (Int32 × PH) :=
  if s5.2 ≤ s17.2 then (j57 s17.1 hh17) else (lt (fun (t11 : Int32) (h12 : PH) => lt t11 (fun (x13 : Int32) => lt (s17.2 + Int32.ofInt 1) (fun (x14 : Int32) => rec17 (x13, x14) h12))) (fun (j49 : Int32 → PH → Option (Int32 × PH)) => lt (fun (h15 : PH) => j49 (0 : Int32) h15) (fun (j48 : PH → Option (Int32 × PH)) => if s17.1 = 0 then (j48 hh17) else (cb (f_X12_areLike this (a1 + s5.2) (a1 + s17.2) hh17) (fun (r16 : Int32) (h17 : PH) => if r16 = 0 then (j49 (1 : Int32) h17) else (j48 h17))))))
def b_X12_unlike_5 (this : Nat) (a1 : Int32) (a2 : Int32) (rec5 : (Int32 × Int32) → PH → Option (Int32 × PH)) (s5 : Int32 × Int32) (hh5 : PH) : Option (Int32 × PH) :=
  if a2 ≤ s5.2 then (some (s5.1, hh5)) else (lt (1 : Int32) (fun (x3 : Int32) => lt (0 : Int32) (fun (x4 : Int32) => lt (fun (y5 : Int32) (h6 : PH) => lt (fun (t7 : Int32) (h8 : PH) => lt (s5.1 + t7) (fun (x9 : Int32) => lt (s5.2 + Int32.ofInt 1) (fun (x10 : Int32) => rec5 (x9, x10) h8))) (fun (j68 : Int32 → PH → Option (Int32 × PH)) => if y5 = 0 then (j68 (0 : Int32) h6) else (j68 (1 : Int32) h6))) (fun (j57 : Int32 → PH → Option (Int32 × PH)) => lp (b_X12_unlike_17 this a1 s5 j57) FU (x3, x4) hh5))))
def f_X12_unlike (this : Nat) (a1 : Int32) (a2 : Int32) (h0 : PH) : Option (Int32 × PH) :=
  lt (0 : Int32) (fun (x1 : Int32) => lt (0 : Int32) (fun (x2 : Int32) => lp (b_X12_unlike_5 this a1 a2) FU (x1, x2) h0))
set_option maxRecDepth 100000 in
set_option maxHeartbeats 4000000 in
theorem ct_X12_unlike (l : Launch) (this : Nat) (a1 : Int32) (a2 : Int32) (h0 : PH) (hk : (kd this).1 = 12) : CT mkI l yX12_unlike cX12_unlike 7 (some .int) (rmd 1) [.ref this, .int a1, .int a2] h0 (f_X12_unlike this a1 a2 h0) := by
  refine ct_of (by decide) (Nat.le_of_ble_eq_true rfl) ?_
  intro p e s m args below meth c D cA ad A X hr hlk
  have X : Cx p s m args c RX12 cX12_unlike 7 D cA ad A := X
  unfold f_X12_unlike
  refine so_pick (L' := [(0, .ref this), (1, .int a1), (2, .int a2)]) X [0, 1, 2] rfl ?_
  refine so_iconst (v := (0 : Int32)) X (dkX12_unlike (0, .iconst 0, 1) (pgm 0 rfl)) ic_0 ?_
  refine so_istore_n (i := 3) X (dkX12_unlike (1, .istore_n 3, 1) (pgm 1 rfl)) rfl (by decide) (Lf := fun x1 => [(3, .int x1), (0, .ref this), (1, .int a1), (2, .int a2)]) (fun _ => rfl) (fun x1 => ?_)
  refine so_iconst (v := (0 : Int32)) X (dkX12_unlike (2, .iconst 0, 1) (pgm 2 rfl)) ic_0 ?_
  refine so_istore (i := 4) X (dkX12_unlike (3, .istore 4, 2) (pgm 3 rfl)) (by decide) (Lf := fun x2 => [(4, .int x2), (3, .int x1), (0, .ref this), (1, .int a1), (2, .int a2)]) (fun _ => rfl) (fun x2 => ?_)
  refine so_pick (L' := [(0, .ref this), (1, .int a1), (2, .int a2), (3, .int x1), (4, .int x2)]) X [2, 3, 4, 1, 0] rfl ?_
  refine so_loop (body := b_X12_unlike_5 this a1 a2) (fun (s5 : Int32 × Int32) => [(0, .ref this), (1, .int a1), (2, .int a2), (3, .int s5.1), (4, .int s5.2)]) (fun rec5 hrec5 s5 hh5 => ?_) FU (x1, x2) h0
  unfold b_X12_unlike_5
  refine so_iload (i := 4) X 4 (dkX12_unlike (5, .iload 4, 2) (pgm 4 rfl)) rfl ?_
  refine so_iload_n (i := 2) X 2 (dkX12_unlike (7, .iload_n 2, 1) (pgm 5 rfl)) rfl rfl ?_
  refine so_icmp_ge (tgt := 76) X (dkX12_unlike (8, .if_icmp .ge 68, 3) (pgm 6 rfl)) rfl (fun _ => ?_) (fun _ => ?_)
  · refine so_iload_n (i := 3) X 3 (dkX12_unlike (76, .iload_n 3, 1) (pgm 41 rfl)) rfl rfl ?_
    exact so_iret X hr hlk (dkX12_unlike (77, .ireturn, 1) (pgm 42 rfl))
  · refine so_iconst (v := (1 : Int32)) X (dkX12_unlike (11, .iconst 1, 1) (pgm 7 rfl)) ic_1 ?_
    refine so_istore (i := 5) X (dkX12_unlike (12, .istore 5, 2) (pgm 8 rfl)) (by decide) (Lf := fun x3 => [(5, .int x3), (0, .ref this), (1, .int a1), (2, .int a2), (3, .int s5.1), (4, .int s5.2)]) (fun _ => rfl) (fun x3 => ?_)
    refine so_iconst (v := (0 : Int32)) X (dkX12_unlike (14, .iconst 0, 1) (pgm 9 rfl)) ic_0 ?_
    refine so_istore (i := 6) X (dkX12_unlike (15, .istore 6, 2) (pgm 10 rfl)) (by decide) (Lf := fun x4 => [(6, .int x4), (5, .int x3), (0, .ref this), (1, .int a1), (2, .int a2), (3, .int s5.1), (4, .int s5.2)]) (fun _ => rfl) (fun x4 => ?_)
    refine so_join (jf := fun (y5 : Int32) (h6 : PH) => lt (fun (t7 : Int32) (h8 : PH) => lt (s5.1 + t7) (fun (x9 : Int32) => lt (s5.2 + Int32.ofInt 1) (fun (x10 : Int32) => rec5 (x9, x10) h8))) (fun (j68 : Int32 → PH → Option (Int32 × PH)) => if y5 = 0 then (j68 (0 : Int32) h6) else (j68 (1 : Int32) h6))) (fun (j : Int32 → PH → Option (Int32 × PH)) => ∀ (y5 : Int32) (h6 : PH), SWo (QM mkI below args s D cA ad A) p l e (rmd 1) s m args below meth c 0 0 7 D cA ad A 57 [(0, .ref this), (1, .int a1), (2, .int a2), (3, .int s5.1), (4, .int s5.2), (5, .int y5)] [] h6 (j y5 h6)) ?_ (fun j57 hj57 => ?_)
    · intro y5 h6
      refine so_iload_n (i := 3) X 3 (dkX12_unlike (57, .iload_n 3, 1) (pgm 31 rfl)) rfl rfl ?_
      refine so_iload (i := 5) X 5 (dkX12_unlike (58, .iload 5, 2) (pgm 32 rfl)) rfl ?_
      refine so_join (jf := fun (t7 : Int32) (h8 : PH) => lt (s5.1 + t7) (fun (x9 : Int32) => lt (s5.2 + Int32.ofInt 1) (fun (x10 : Int32) => rec5 (x9, x10) h8))) (fun (j : Int32 → PH → Option (Int32 × PH)) => ∀ (t7 : Int32) (h8 : PH), SWo (QM mkI below args s D cA ad A) p l e (rmd 1) s m args below meth c 0 0 7 D cA ad A 68 [(0, .ref this), (1, .int a1), (2, .int a2), (4, .int s5.2)] [.int t7, .int s5.1] h8 (j t7 h8)) ?_ (fun j68 hj68 => ?_)
      · intro t7 h8
        refine so_iadd X (dkX12_unlike (68, .iadd, 1) (pgm 37 rfl)) ?_
        refine so_istore_n (i := 3) X (dkX12_unlike (69, .istore_n 3, 1) (pgm 38 rfl)) rfl (by decide) (Lf := fun x9 => [(3, .int x9), (0, .ref this), (1, .int a1), (2, .int a2), (4, .int s5.2)]) (fun _ => rfl) (fun x9 => ?_)
        refine so_iinc (i := 4) X 4 (dkX12_unlike (70, .iinc 4 1, 3) (pgm 39 rfl)) rfl rfl (by decide) (Lf := fun x10 => [(4, .int x10), (3, .int x9), (0, .ref this), (1, .int a1), (2, .int a2)]) (fun _ => rfl) (fun x10 => ?_)
        refine so_goto (tgt := 5) X (dkX12_unlike (73, .goto (-68), 3) (pgm 40 rfl)) rfl ?_
        exact so_pick X [2, 3, 4, 1, 0] rfl (hrec5 (x9, x10) h8)
      refine so_if_eq (tgt := 67) X (dkX12_unlike (60, .ifCond .eq 7, 3) (pgm 33 rfl)) rfl (fun _ => ?_) (fun _ => ?_)
      · refine so_iconst (v := (0 : Int32)) X (dkX12_unlike (67, .iconst 0, 1) (pgm 36 rfl)) ic_0 ?_
        exact so_pick X [0, 1, 2, 4] rfl (hj68 (0 : Int32) h6)
      · refine so_iconst (v := (1 : Int32)) X (dkX12_unlike (63, .iconst 1, 1) (pgm 34 rfl)) ic_1 ?_
        refine so_goto (tgt := 68) X (dkX12_unlike (64, .goto 4, 3) (pgm 35 rfl)) rfl ?_
        exact so_pick X [0, 1, 2, 4] rfl (hj68 (1 : Int32) h6)
    refine so_pick (L' := [(0, .ref this), (1, .int a1), (2, .int a2), (3, .int s5.1), (4, .int s5.2), (5, .int x3), (6, .int x4)]) X [2, 3, 4, 5, 6, 1, 0] rfl ?_
    refine so_loop (body := b_X12_unlike_17 this a1 s5 j57) (fun (s17 : Int32 × Int32) => [(0, .ref this), (1, .int a1), (2, .int a2), (3, .int s5.1), (4, .int s5.2), (5, .int s17.1), (6, .int s17.2)]) (fun rec17 hrec17 s17 hh17 => ?_) FU (x3, x4) hh5
    unfold b_X12_unlike_17
    refine so_iload (i := 6) X 6 (dkX12_unlike (17, .iload 6, 2) (pgm 11 rfl)) rfl ?_
    refine so_iload (i := 4) X 4 (dkX12_unlike (19, .iload 4, 2) (pgm 12 rfl)) rfl ?_
    refine so_icmp_ge (tgt := 57) X (dkX12_unlike (21, .if_icmp .ge 36, 3) (pgm 13 rfl)) rfl (fun _ => ?_) (fun _ => ?_)
    · exact so_pick X [0, 1, 2, 3, 4, 5] rfl (hj57 s17.1 hh17)
    · refine so_iload (i := 5) X 5 (dkX12_unlike (24, .iload 5, 2) (pgm 14 rfl)) rfl ?_
      refine so_join (jf := fun (t11 : Int32) (h12 : PH) => lt t11 (fun (x13 : Int32) => lt (s17.2 + Int32.ofInt 1) (fun (x14 : Int32) => rec17 (x13, x14) h12))) (fun (j : Int32 → PH → Option (Int32 × PH)) => ∀ (t11 : Int32) (h12 : PH), SWo (QM mkI below args s D cA ad A) p l e (rmd 1) s m args below meth c 0 0 7 D cA ad A 49 [(0, .ref this), (1, .int a1), (2, .int a2), (3, .int s5.1), (4, .int s5.2), (6, .int s17.2)] [.int t11] h12 (j t11 h12)) ?_ (fun j49 hj49 => ?_)
      · intro t11 h12
        refine so_istore (i := 5) X (dkX12_unlike (49, .istore 5, 2) (pgm 28 rfl)) (by decide) (Lf := fun x13 => [(5, .int x13), (0, .ref this), (1, .int a1), (2, .int a2), (3, .int s5.1), (4, .int s5.2), (6, .int s17.2)]) (fun _ => rfl) (fun x13 => ?_)
        refine so_iinc (i := 6) X 6 (dkX12_unlike (51, .iinc 6 1, 3) (pgm 29 rfl)) rfl rfl (by decide) (Lf := fun x14 => [(6, .int x14), (5, .int x13), (0, .ref this), (1, .int a1), (2, .int a2), (3, .int s5.1), (4, .int s5.2)]) (fun _ => rfl) (fun x14 => ?_)
        refine so_goto (tgt := 17) X (dkX12_unlike (54, .goto (-37), 3) (pgm 30 rfl)) rfl ?_
        exact so_pick X [2, 3, 4, 5, 6, 1, 0] rfl (hrec17 (x13, x14) h12)
      refine so_join (jf := fun (h15 : PH) => j49 (0 : Int32) h15) (fun (j : PH → Option (Int32 × PH)) => ∀  (h15 : PH), SWo (QM mkI below args s D cA ad A) p l e (rmd 1) s m args below meth c 0 0 7 D cA ad A 48 [(0, .ref this), (1, .int a1), (2, .int a2), (3, .int s5.1), (4, .int s5.2), (6, .int s17.2)] [] h15 (j h15)) ?_ (fun j48 hj48 => ?_)
      · intro h15
        refine so_iconst (v := (0 : Int32)) X (dkX12_unlike (48, .iconst 0, 1) (pgm 27 rfl)) ic_0 ?_
        exact so_pick X [0, 1, 2, 3, 4, 5] rfl (hj49 (0 : Int32) h15)
      refine so_if_eq (tgt := 48) X (dkX12_unlike (26, .ifCond .eq 22, 3) (pgm 15 rfl)) rfl (fun _ => ?_) (fun _ => ?_)
      · exact so_pick X [0, 1, 2, 3, 4, 6] rfl (hj48 hh17)
      · refine so_aload_n (i := 0) X 0 (dkX12_unlike (29, .aload_n 0, 1) (pgm 16 rfl)) rfl rfl ?_
        refine so_iload_n (i := 1) X 1 (dkX12_unlike (30, .iload_n 1, 1) (pgm 17 rfl)) rfl rfl ?_
        refine so_iload (i := 4) X 4 (dkX12_unlike (31, .iload 4, 2) (pgm 18 rfl)) rfl ?_
        refine so_iadd X (dkX12_unlike (33, .iadd, 1) (pgm 19 rfl)) ?_
        refine so_iload_n (i := 1) X 1 (dkX12_unlike (34, .iload_n 1, 1) (pgm 20 rfl)) rfl rfl ?_
        refine so_iload (i := 6) X 6 (dkX12_unlike (35, .iload 6, 2) (pgm 21 rfl)) rfl ?_
        refine so_iadd X (dkX12_unlike (37, .iadd, 1) (pgm 22 rfl)) ?_
        refine so_callV (n := 2) (As := [.int (a1 + s5.2), .int (a1 + s17.2)]) X (ct_X12_areLike l this (a1 + s5.2) (a1 + s17.2) hh17 hk) hk (by decide) rfl lk_2174 lk_2176 lk_111 lk_134 lk_2177 (by decide +kernel) rfl rfl rfl (rm_ok (by omega) (by decide)) ⟨Nat.zero_le _, Nat.zero_le _⟩ (Nat.le_of_ble_eq_true rfl) (dkX12_unlike (38, .invokevirtual 405, 3) (pgm 23 rfl)) (fun r16 h17 => ?_) rfl
        refine so_if_ne (tgt := 48) X (dkX12_unlike (41, .ifCond .ne 7, 3) (pgm 24 rfl)) rfl (fun _ => ?_) (fun _ => ?_)
        · exact so_pick X [0, 1, 2, 3, 4, 6] rfl (hj48 h17)
        · refine so_iconst (v := (1 : Int32)) X (dkX12_unlike (44, .iconst 1, 1) (pgm 25 rfl)) ic_1 ?_
          refine so_goto (tgt := 49) X (dkX12_unlike (45, .goto 4, 3) (pgm 26 rfl)) rfl ?_
          exact so_pick X [0, 1, 2, 3, 4, 6] rfl (hj49 (1 : Int32) h17)
def pgX12_holdsIn : List (Nat × Instr × Nat) := [(0, .iconst 0, 1), (1, .istore_n 2, 1), (2, .iconst 0, 1), (3, .istore_n 3, 1), (4, .iload_n 3, 1), (5, .aload_n 0, 1), (6, .invokevirtual 252, 3), (9, .if_icmp .gt 62, 3), (12, .iload_n 2, 1), (13, .aload_n 0, 1), (14, .iload_n 3, 1), (15, .i2l, 1), (16, .invokevirtual 310, 3), (19, .ifCond .ne 43, 3), (22, .aload_n 0, 1), (23, .getfield 67, 3), (26, .bipush 64, 2), (28, .iload_n 1, 1), (29, .imul, 1), (30, .aload_n 0, 1), (31, .getfield 37, 3), (34, .iload_n 3, 1), (35, .iaload, 1), (36, .bipush 64, 2), (38, .idiv, 1), (39, .iadd, 1), (40, .laload, 1), (41, .aload_n 0, 1), (42, .getfield 37, 3), (45, .iload_n 3, 1), (46, .iaload, 1), (47, .bipush 64, 2), (49, .irem, 1), (50, .lshr, 1), (51, .lconst 1, 1), (52, .land, 1), (53, .lconst 1, 1), (54, .lcmp, 1), (55, .ifCond .ne 7, 3), (58, .iconst 1, 1), (59, .goto 4, 3), (62, .iconst 0, 1), (63, .iadd, 1), (64, .istore_n 2, 1), (65, .iinc 3 1, 3), (68, .goto (-64), 3), (71, .iload_n 2, 1), (72, .ireturn, 1)]
theorem dkX12_holdsIn : ∀ q ∈ pgX12_holdsIn, decode cX12_holdsIn q.1 = .ok q.2 := by decide +kernel
def b_X12_holdsIn_4 (this : Nat) (a1 : Int32) (rec4 : (Int32 × Int32) → PH → Option (Int32 × PH)) (s4 : Int32 × Int32) (hh4 : PH) : Option (Int32 × PH) :=
  cb (f_X12_everywhere this hh4) (fun (r3 : Int32) (h4 : PH) => if r3 < s4.2 then (some (s4.1, h4)) else (cb (f_X12_whyNot this s4.2.toInt64 h4) (fun (r5 : Int32) (h6 : PH) => lt (fun (t7 : Int32) (h8 : PH) => lt (s4.1 + t7) (fun (x9 : Int32) => lt (s4.2 + Int32.ofInt 1) (fun (x10 : Int32) => rec4 (x9, x10) h8))) (fun (j63 : Int32 → PH → Option (Int32 × PH)) => lt (fun (h11 : PH) => j63 (0 : Int32) h11) (fun (j62 : PH → Option (Int32 × PH)) => if r5 = 0 then (ldI h6 (rt this 19) 4096 s4.2 (fun (x12 : Int32) => nz (64 : Int32) (ldL h6 (rt this 30) 2496 (((64 : Int32) * a1) + (x12 / (64 : Int32))) (fun (x13 : Int64) => ldI h6 (rt this 19) 4096 s4.2 (fun (x14 : Int32) => nz (64 : Int32) (if (lg_cmp ((x13 >>> ((x14 - x14 / (64 : Int32) * (64 : Int32)).toInt64 &&& 63)) &&& (1 : Int64)) (1 : Int64)) = 0 then (j63 (1 : Int32) h6) else (j62 h6))))))) else (j62 h6))))))
def f_X12_holdsIn (this : Nat) (a1 : Int32) (h0 : PH) : Option (Int32 × PH) :=
  lt (0 : Int32) (fun (x1 : Int32) => lt (0 : Int32) (fun (x2 : Int32) => lp (b_X12_holdsIn_4 this a1) FU (x1, x2) h0))
set_option maxRecDepth 100000 in
set_option maxHeartbeats 4000000 in
theorem ct_X12_holdsIn (l : Launch) (this : Nat) (a1 : Int32) (h0 : PH) (hk : (kd this).1 = 12) : CT mkI l yX12_holdsIn cX12_holdsIn 4 (some .int) (rmd 4) [.ref this, .int a1] h0 (f_X12_holdsIn this a1 h0) := by
  refine ct_of (by decide) (Nat.le_of_ble_eq_true rfl) ?_
  intro p e s m args below meth c D cA ad A X hr hlk
  have X : Cx p s m args c RX12 cX12_holdsIn 4 D cA ad A := X
  unfold f_X12_holdsIn
  refine so_pick (L' := [(0, .ref this), (1, .int a1)]) X [0, 1] rfl ?_
  refine so_iconst (v := (0 : Int32)) X (dkX12_holdsIn (0, .iconst 0, 1) (pgm 0 rfl)) ic_0 ?_
  refine so_istore_n (i := 2) X (dkX12_holdsIn (1, .istore_n 2, 1) (pgm 1 rfl)) rfl (by decide) (Lf := fun x1 => [(2, .int x1), (0, .ref this), (1, .int a1)]) (fun _ => rfl) (fun x1 => ?_)
  refine so_iconst (v := (0 : Int32)) X (dkX12_holdsIn (2, .iconst 0, 1) (pgm 2 rfl)) ic_0 ?_
  refine so_istore_n (i := 3) X (dkX12_holdsIn (3, .istore_n 3, 1) (pgm 3 rfl)) rfl (by decide) (Lf := fun x2 => [(3, .int x2), (2, .int x1), (0, .ref this), (1, .int a1)]) (fun _ => rfl) (fun x2 => ?_)
  refine so_pick (L' := [(0, .ref this), (1, .int a1), (2, .int x1), (3, .int x2)]) X [2, 3, 1, 0] rfl ?_
  refine so_loop (body := b_X12_holdsIn_4 this a1) (fun (s4 : Int32 × Int32) => [(0, .ref this), (1, .int a1), (2, .int s4.1), (3, .int s4.2)]) (fun rec4 hrec4 s4 hh4 => ?_) FU (x1, x2) h0
  unfold b_X12_holdsIn_4
  refine so_iload_n (i := 3) X 3 (dkX12_holdsIn (4, .iload_n 3, 1) (pgm 4 rfl)) rfl rfl ?_
  refine so_aload_n (i := 0) X 0 (dkX12_holdsIn (5, .aload_n 0, 1) (pgm 5 rfl)) rfl rfl ?_
  refine so_callV (n := 0) (As := []) X (ct_X12_everywhere l this hh4 hk) hk (by decide) rfl lk_1664 lk_1666 lk_56 lk_134 lk_1667 (by decide +kernel) rfl rfl rfl (rm_ok (by omega) (by decide)) ⟨Nat.zero_le _, Nat.zero_le _⟩ (Nat.le_of_ble_eq_true rfl) (dkX12_holdsIn (6, .invokevirtual 252, 3) (pgm 6 rfl)) (fun r3 h4 => ?_) rfl
  refine so_icmp_gt (tgt := 71) X (dkX12_holdsIn (9, .if_icmp .gt 62, 3) (pgm 7 rfl)) rfl (fun _ => ?_) (fun _ => ?_)
  · refine so_iload_n (i := 2) X 2 (dkX12_holdsIn (71, .iload_n 2, 1) (pgm 46 rfl)) rfl rfl ?_
    exact so_iret X hr hlk (dkX12_holdsIn (72, .ireturn, 1) (pgm 47 rfl))
  · refine so_iload_n (i := 2) X 2 (dkX12_holdsIn (12, .iload_n 2, 1) (pgm 8 rfl)) rfl rfl ?_
    refine so_aload_n (i := 0) X 0 (dkX12_holdsIn (13, .aload_n 0, 1) (pgm 9 rfl)) rfl rfl ?_
    refine so_iload_n (i := 3) X 3 (dkX12_holdsIn (14, .iload_n 3, 1) (pgm 10 rfl)) rfl rfl ?_
    refine so_i2l X (dkX12_holdsIn (15, .i2l, 1) (pgm 11 rfl)) ?_
    refine so_callV (n := 1) (As := [.long s4.2.toInt64]) X (ct_X12_whyNot l this s4.2.toInt64 h4 hk) hk (by decide) rfl lk_1982 lk_1984 lk_86 lk_134 lk_1985 (by decide +kernel) rfl rfl rfl (rm_ok (by omega) (by decide)) ⟨Nat.zero_le _, Nat.zero_le _⟩ (Nat.le_of_ble_eq_true rfl) (dkX12_holdsIn (16, .invokevirtual 310, 3) (pgm 12 rfl)) (fun r5 h6 => ?_) rfl
    refine so_join (jf := fun (t7 : Int32) (h8 : PH) => lt (s4.1 + t7) (fun (x9 : Int32) => lt (s4.2 + Int32.ofInt 1) (fun (x10 : Int32) => rec4 (x9, x10) h8))) (fun (j : Int32 → PH → Option (Int32 × PH)) => ∀ (t7 : Int32) (h8 : PH), SWo (QM mkI below args s D cA ad A) p l e (rmd 4) s m args below meth c 0 0 4 D cA ad A 63 [(0, .ref this), (1, .int a1), (3, .int s4.2)] [.int t7, .int s4.1] h8 (j t7 h8)) ?_ (fun j63 hj63 => ?_)
    · intro t7 h8
      refine so_iadd X (dkX12_holdsIn (63, .iadd, 1) (pgm 42 rfl)) ?_
      refine so_istore_n (i := 2) X (dkX12_holdsIn (64, .istore_n 2, 1) (pgm 43 rfl)) rfl (by decide) (Lf := fun x9 => [(2, .int x9), (0, .ref this), (1, .int a1), (3, .int s4.2)]) (fun _ => rfl) (fun x9 => ?_)
      refine so_iinc (i := 3) X 3 (dkX12_holdsIn (65, .iinc 3 1, 3) (pgm 44 rfl)) rfl rfl (by decide) (Lf := fun x10 => [(3, .int x10), (2, .int x9), (0, .ref this), (1, .int a1)]) (fun _ => rfl) (fun x10 => ?_)
      refine so_goto (tgt := 4) X (dkX12_holdsIn (68, .goto (-64), 3) (pgm 45 rfl)) rfl ?_
      exact so_pick X [2, 3, 1, 0] rfl (hrec4 (x9, x10) h8)
    refine so_join (jf := fun (h11 : PH) => j63 (0 : Int32) h11) (fun (j : PH → Option (Int32 × PH)) => ∀  (h11 : PH), SWo (QM mkI below args s D cA ad A) p l e (rmd 4) s m args below meth c 0 0 4 D cA ad A 62 [(0, .ref this), (1, .int a1), (3, .int s4.2)] [.int s4.1] h11 (j h11)) ?_ (fun j62 hj62 => ?_)
    · intro h11
      refine so_iconst (v := (0 : Int32)) X (dkX12_holdsIn (62, .iconst 0, 1) (pgm 41 rfl)) ic_0 ?_
      exact so_pick X [0, 1, 2] rfl (hj63 (0 : Int32) h11)
    refine so_if_ne (tgt := 62) X (dkX12_holdsIn (19, .ifCond .ne 43, 3) (pgm 13 rfl)) rfl (fun _ => ?_) (fun _ => ?_)
    · exact so_pick X [0, 1, 3] rfl (hj62 h6)
    · refine so_aload_n (i := 0) X 0 (dkX12_holdsIn (22, .aload_n 0, 1) (pgm 14 rfl)) rfl rfl ?_
      refine sf_getR X ff_12_30 lk_1732 hk (dkX12_holdsIn (23, .getfield 67, 3) (pgm 15 rfl)) ?_
      refine so_bipush (v := (64 : Int32)) X (dkX12_holdsIn (26, .bipush 64, 2) (pgm 16 rfl)) bp_64 ?_
      refine so_iload_n (i := 1) X 1 (dkX12_holdsIn (28, .iload_n 1, 1) (pgm 17 rfl)) rfl rfl ?_
      refine so_imul X (dkX12_holdsIn (29, .imul, 1) (pgm 18 rfl)) ?_
      refine so_aload_n (i := 0) X 0 (dkX12_holdsIn (30, .aload_n 0, 1) (pgm 19 rfl)) rfl rfl ?_
      refine sf_getR X ff_12_19 lk_1721 hk (dkX12_holdsIn (31, .getfield 37, 3) (pgm 20 rfl)) ?_
      refine so_iload_n (i := 3) X 3 (dkX12_holdsIn (34, .iload_n 3, 1) (pgm 21 rfl)) rfl rfl ?_
      refine so_iald X (rk_12_19 this hk) (dkX12_holdsIn (35, .iaload, 1) (pgm 22 rfl)) (fun x12 => ?_)
      refine so_bipush (v := (64 : Int32)) X (dkX12_holdsIn (36, .bipush 64, 2) (pgm 23 rfl)) bp_64 ?_
      refine so_idiv X (dkX12_holdsIn (38, .idiv, 1) (pgm 24 rfl)) (fun _ => ?_)
      refine so_iadd X (dkX12_holdsIn (39, .iadd, 1) (pgm 25 rfl)) ?_
      refine so_lald X (rk_12_30 this hk) (dkX12_holdsIn (40, .laload, 1) (pgm 26 rfl)) (fun x13 => ?_)
      refine so_aload_n (i := 0) X 0 (dkX12_holdsIn (41, .aload_n 0, 1) (pgm 27 rfl)) rfl rfl ?_
      refine sf_getR X ff_12_19 lk_1721 hk (dkX12_holdsIn (42, .getfield 37, 3) (pgm 28 rfl)) ?_
      refine so_iload_n (i := 3) X 3 (dkX12_holdsIn (45, .iload_n 3, 1) (pgm 29 rfl)) rfl rfl ?_
      refine so_iald X (rk_12_19 this hk) (dkX12_holdsIn (46, .iaload, 1) (pgm 30 rfl)) (fun x14 => ?_)
      refine so_bipush (v := (64 : Int32)) X (dkX12_holdsIn (47, .bipush 64, 2) (pgm 31 rfl)) bp_64 ?_
      refine so_irem X (dkX12_holdsIn (49, .irem, 1) (pgm 32 rfl)) (fun _ => ?_)
      refine so_lshr X (dkX12_holdsIn (50, .lshr, 1) (pgm 33 rfl)) ?_
      refine so_lconst (v := (1 : Int64)) X (dkX12_holdsIn (51, .lconst 1, 1) (pgm 34 rfl)) lc_1 ?_
      refine so_land X (dkX12_holdsIn (52, .land, 1) (pgm 35 rfl)) ?_
      refine so_lconst (v := (1 : Int64)) X (dkX12_holdsIn (53, .lconst 1, 1) (pgm 36 rfl)) lc_1 ?_
      refine so_lcmp X (dkX12_holdsIn (54, .lcmp, 1) (pgm 37 rfl)) ?_
      refine so_if_ne (tgt := 62) X (dkX12_holdsIn (55, .ifCond .ne 7, 3) (pgm 38 rfl)) rfl (fun _ => ?_) (fun _ => ?_)
      · exact so_pick X [0, 1, 3] rfl (hj62 h6)
      · refine so_iconst (v := (1 : Int32)) X (dkX12_holdsIn (58, .iconst 1, 1) (pgm 39 rfl)) ic_1 ?_
        refine so_goto (tgt := 63) X (dkX12_holdsIn (59, .goto 4, 3) (pgm 40 rfl)) rfl ?_
        exact so_pick X [0, 1, 3] rfl (hj63 (1 : Int32) h6)
def pgX12_keeps : List (Nat × Instr × Nat) := [(0, .aload_n 0, 1), (1, .getfield 9, 3), (4, .bipush 6, 2), (6, .iaload, 1), (7, .bipush 10, 2), (9, .if_icmp .ne 45, 3), (12, .bipush 66, 2), (14, .istore_n 1, 1), (15, .iload_n 1, 1), (16, .sipush 219, 3), (19, .if_icmp .ge 24, 3), (22, .aload_n 0, 1), (23, .getfield 9, 3), (26, .iload_n 1, 1), (27, .aload_n 0, 1), (28, .getfield 9, 3), (31, .iload_n 1, 1), (32, .bipush 17, 2), (34, .iadd, 1), (35, .iaload, 1), (36, .iastore, 1), (37, .iinc 1 1, 3), (40, .goto (-25), 3), (43, .aload_n 0, 1), (44, .getfield 9, 3), (47, .bipush 6, 2), (49, .dup2, 1), (50, .iaload, 1), (51, .iconst 1, 1), (52, .isub, 1), (53, .iastore, 1), (54, .iconst 0, 1), (55, .istore_n 1, 1), (56, .iload_n 1, 1), (57, .bipush 17, 2), (59, .if_icmp .ge 38, 3), (62, .aload_n 0, 1), (63, .getfield 9, 3), (66, .bipush 66, 2), (68, .bipush 17, 2), (70, .aload_n 0, 1), (71, .getfield 9, 3), (74, .bipush 6, 2), (76, .iaload, 1), (77, .imul, 1), (78, .iadd, 1), (79, .iload_n 1, 1), (80, .iadd, 1), (81, .aload_n 0, 1), (82, .getfield 9, 3), (85, .bipush 7, 2), (87, .iload_n 1, 1), (88, .iadd, 1), (89, .iaload, 1), (90, .iastore, 1), (91, .iinc 1 1, 3), (94, .goto (-38), 3), (97, .aload_n 0, 1), (98, .getfield 9, 3), (101, .bipush 6, 2), (103, .dup2, 1), (104, .iaload, 1), (105, .iconst 1, 1), (106, .iadd, 1), (107, .iastore, 1), (108, .return_, 1)]
theorem dkX12_keeps : ∀ q ∈ pgX12_keeps, decode cX12_keeps q.1 = .ok q.2 := by decide +kernel
def b_X12_keeps_56 (this : Nat) (j97 : PH → Option (Unit × PH)) (rec56 : (Int32) → PH → Option (Unit × PH)) (s56 : Int32) (hh56 : PH) : Option (Unit × PH) :=
  if (17 : Int32) ≤ s56 then (j97 hh56) else (ldI hh56 (rt this 0) 1200 (6 : Int32) (fun (x7 : Int32) => ldI hh56 (rt this 0) 1200 ((7 : Int32) + s56) (fun (x8 : Int32) => stI hh56 (rt this 0) 1200 (((66 : Int32) + ((17 : Int32) * x7)) + s56) x8 (fun (h9 : PH) => lt (s56 + Int32.ofInt 1) (fun (x10 : Int32) => rec56 x10 h9)))))
def b_X12_keeps_15 (this : Nat) (j43 : PH → Option (Unit × PH)) (rec15 : (Int32) → PH → Option (Unit × PH)) (s15 : Int32) (hh15 : PH) : Option (Unit × PH) :=
  if (219 : Int32) ≤ s15 then (j43 hh15) else (ldI hh15 (rt this 0) 1200 (s15 + (17 : Int32)) (fun (x15 : Int32) => stI hh15 (rt this 0) 1200 s15 x15 (fun (h16 : PH) => lt (s15 + Int32.ofInt 1) (fun (x17 : Int32) => rec15 x17 h16))))
def f_X12_keeps (this : Nat) (h0 : PH) : Option (Unit × PH) :=
  ldI h0 (rt this 0) 1200 (6 : Int32) (fun (x1 : Int32) => lt (fun (h2 : PH) => lt (0 : Int32) (fun (x3 : Int32) => lt (fun (h4 : PH) => ldI h4 (rt this 0) 1200 (6 : Int32) (fun (x5 : Int32) => stI h4 (rt this 0) 1200 (6 : Int32) (x5 + (1 : Int32)) (fun (h6 : PH) => some ((), h6)))) (fun (j97 : PH → Option (Unit × PH)) => lp (b_X12_keeps_56 this j97) FU x3 h2))) (fun (j54 : PH → Option (Unit × PH)) => if x1 = (10 : Int32) then (lt (66 : Int32) (fun (x11 : Int32) => lt (fun (h12 : PH) => ldI h12 (rt this 0) 1200 (6 : Int32) (fun (x13 : Int32) => stI h12 (rt this 0) 1200 (6 : Int32) (x13 - (1 : Int32)) (fun (h14 : PH) => j54 h14))) (fun (j43 : PH → Option (Unit × PH)) => lp (b_X12_keeps_15 this j43) FU x11 h0))) else (j54 h0)))
set_option maxRecDepth 100000 in
set_option maxHeartbeats 4000000 in
theorem ct_X12_keeps (l : Launch) (this : Nat) (h0 : PH) (hk : (kd this).1 = 12) : CT mkV l yX12_keeps cX12_keeps 2 none (rmd 0) [.ref this] h0 (f_X12_keeps this h0) := by
  refine ct_of (by decide) (Nat.le_of_ble_eq_true rfl) ?_
  intro p e s m args below meth c D cA ad A X hr hlk
  have X : Cx p s m args c RX12 cX12_keeps 2 D cA ad A := X
  unfold f_X12_keeps
  refine so_pick (L' := [(0, .ref this)]) X [0] rfl ?_
  refine so_aload_n (i := 0) X 0 (dkX12_keeps (0, .aload_n 0, 1) (pgm 0 rfl)) rfl rfl ?_
  refine sf_getR X ff_12_0 lk_1702 hk (dkX12_keeps (1, .getfield 9, 3) (pgm 1 rfl)) ?_
  refine so_bipush (v := (6 : Int32)) X (dkX12_keeps (4, .bipush 6, 2) (pgm 2 rfl)) bp_6 ?_
  refine so_iald X (rk_12_0 this hk) (dkX12_keeps (6, .iaload, 1) (pgm 3 rfl)) (fun x1 => ?_)
  refine so_bipush (v := (10 : Int32)) X (dkX12_keeps (7, .bipush 10, 2) (pgm 4 rfl)) bp_10 ?_
  refine so_join (jf := fun (h2 : PH) => lt (0 : Int32) (fun (x3 : Int32) => lt (fun (h4 : PH) => ldI h4 (rt this 0) 1200 (6 : Int32) (fun (x5 : Int32) => stI h4 (rt this 0) 1200 (6 : Int32) (x5 + (1 : Int32)) (fun (h6 : PH) => some ((), h6)))) (fun (j97 : PH → Option (Unit × PH)) => lp (b_X12_keeps_56 this j97) FU x3 h2))) (fun (j : PH → Option (Unit × PH)) => ∀  (h2 : PH), SWo (QM mkV below args s D cA ad A) p l e (rmd 0) s m args below meth c 0 0 2 D cA ad A 54 [(0, .ref this)] [] h2 (j h2)) ?_ (fun j54 hj54 => ?_)
  · intro h2
    refine so_iconst (v := (0 : Int32)) X (dkX12_keeps (54, .iconst 0, 1) (pgm 31 rfl)) ic_0 ?_
    refine so_istore_n (i := 1) X (dkX12_keeps (55, .istore_n 1, 1) (pgm 32 rfl)) rfl (by decide) (Lf := fun x3 => [(1, .int x3), (0, .ref this)]) (fun _ => rfl) (fun x3 => ?_)
    refine so_join (jf := fun (h4 : PH) => ldI h4 (rt this 0) 1200 (6 : Int32) (fun (x5 : Int32) => stI h4 (rt this 0) 1200 (6 : Int32) (x5 + (1 : Int32)) (fun (h6 : PH) => some ((), h6)))) (fun (j : PH → Option (Unit × PH)) => ∀  (h4 : PH), SWo (QM mkV below args s D cA ad A) p l e (rmd 0) s m args below meth c 0 0 2 D cA ad A 97 [(0, .ref this)] [] h4 (j h4)) ?_ (fun j97 hj97 => ?_)
    · intro h4
      refine so_aload_n (i := 0) X 0 (dkX12_keeps (97, .aload_n 0, 1) (pgm 57 rfl)) rfl rfl ?_
      refine sf_getR X ff_12_0 lk_1702 hk (dkX12_keeps (98, .getfield 9, 3) (pgm 58 rfl)) ?_
      refine so_bipush (v := (6 : Int32)) X (dkX12_keeps (101, .bipush 6, 2) (pgm 59 rfl)) bp_6 ?_
      refine so_dup2 X (dkX12_keeps (103, .dup2, 1) (pgm 60 rfl)) rfl rfl ?_
      refine so_iald X (rk_12_0 this hk) (dkX12_keeps (104, .iaload, 1) (pgm 61 rfl)) (fun x5 => ?_)
      refine so_iconst (v := (1 : Int32)) X (dkX12_keeps (105, .iconst 1, 1) (pgm 62 rfl)) ic_1 ?_
      refine so_iadd X (dkX12_keeps (106, .iadd, 1) (pgm 63 rfl)) ?_
      refine so_iast X (rk_12_0 this hk) (dkX12_keeps (107, .iastore, 1) (pgm 64 rfl)) (fun h6 => ?_)
      exact so_vret X hr hlk (dkX12_keeps (108, .return_, 1) (pgm 65 rfl))
    refine so_pick (L' := [(0, .ref this), (1, .int x3)]) X [1, 0] rfl ?_
    refine so_loop (body := b_X12_keeps_56 this j97) (fun (s56 : Int32) => [(0, .ref this), (1, .int s56)]) (fun rec56 hrec56 s56 hh56 => ?_) FU x3 h2
    unfold b_X12_keeps_56
    refine so_iload_n (i := 1) X 1 (dkX12_keeps (56, .iload_n 1, 1) (pgm 33 rfl)) rfl rfl ?_
    refine so_bipush (v := (17 : Int32)) X (dkX12_keeps (57, .bipush 17, 2) (pgm 34 rfl)) bp_17 ?_
    refine so_icmp_ge (tgt := 97) X (dkX12_keeps (59, .if_icmp .ge 38, 3) (pgm 35 rfl)) rfl (fun _ => ?_) (fun _ => ?_)
    · exact so_pick X [0] rfl (hj97 hh56)
    · refine so_aload_n (i := 0) X 0 (dkX12_keeps (62, .aload_n 0, 1) (pgm 36 rfl)) rfl rfl ?_
      refine sf_getR X ff_12_0 lk_1702 hk (dkX12_keeps (63, .getfield 9, 3) (pgm 37 rfl)) ?_
      refine so_bipush (v := (66 : Int32)) X (dkX12_keeps (66, .bipush 66, 2) (pgm 38 rfl)) bp_66 ?_
      refine so_bipush (v := (17 : Int32)) X (dkX12_keeps (68, .bipush 17, 2) (pgm 39 rfl)) bp_17 ?_
      refine so_aload_n (i := 0) X 0 (dkX12_keeps (70, .aload_n 0, 1) (pgm 40 rfl)) rfl rfl ?_
      refine sf_getR X ff_12_0 lk_1702 hk (dkX12_keeps (71, .getfield 9, 3) (pgm 41 rfl)) ?_
      refine so_bipush (v := (6 : Int32)) X (dkX12_keeps (74, .bipush 6, 2) (pgm 42 rfl)) bp_6 ?_
      refine so_iald X (rk_12_0 this hk) (dkX12_keeps (76, .iaload, 1) (pgm 43 rfl)) (fun x7 => ?_)
      refine so_imul X (dkX12_keeps (77, .imul, 1) (pgm 44 rfl)) ?_
      refine so_iadd X (dkX12_keeps (78, .iadd, 1) (pgm 45 rfl)) ?_
      refine so_iload_n (i := 1) X 1 (dkX12_keeps (79, .iload_n 1, 1) (pgm 46 rfl)) rfl rfl ?_
      refine so_iadd X (dkX12_keeps (80, .iadd, 1) (pgm 47 rfl)) ?_
      refine so_aload_n (i := 0) X 0 (dkX12_keeps (81, .aload_n 0, 1) (pgm 48 rfl)) rfl rfl ?_
      refine sf_getR X ff_12_0 lk_1702 hk (dkX12_keeps (82, .getfield 9, 3) (pgm 49 rfl)) ?_
      refine so_bipush (v := (7 : Int32)) X (dkX12_keeps (85, .bipush 7, 2) (pgm 50 rfl)) bp_7 ?_
      refine so_iload_n (i := 1) X 1 (dkX12_keeps (87, .iload_n 1, 1) (pgm 51 rfl)) rfl rfl ?_
      refine so_iadd X (dkX12_keeps (88, .iadd, 1) (pgm 52 rfl)) ?_
      refine so_iald X (rk_12_0 this hk) (dkX12_keeps (89, .iaload, 1) (pgm 53 rfl)) (fun x8 => ?_)
      refine so_iast X (rk_12_0 this hk) (dkX12_keeps (90, .iastore, 1) (pgm 54 rfl)) (fun h9 => ?_)
      refine so_iinc (i := 1) X 1 (dkX12_keeps (91, .iinc 1 1, 3) (pgm 55 rfl)) rfl rfl (by decide) (Lf := fun x10 => [(1, .int x10), (0, .ref this)]) (fun _ => rfl) (fun x10 => ?_)
      refine so_goto (tgt := 56) X (dkX12_keeps (94, .goto (-38), 3) (pgm 56 rfl)) rfl ?_
      exact so_pick X [1, 0] rfl (hrec56 x10 h9)
  refine so_icmp_ne (tgt := 54) X (dkX12_keeps (9, .if_icmp .ne 45, 3) (pgm 5 rfl)) rfl (fun _ => ?_) (fun _ => ?_)
  · exact so_pick X [0] rfl (hj54 h0)
  · refine so_bipush (v := (66 : Int32)) X (dkX12_keeps (12, .bipush 66, 2) (pgm 6 rfl)) bp_66 ?_
    refine so_istore_n (i := 1) X (dkX12_keeps (14, .istore_n 1, 1) (pgm 7 rfl)) rfl (by decide) (Lf := fun x11 => [(1, .int x11), (0, .ref this)]) (fun _ => rfl) (fun x11 => ?_)
    refine so_join (jf := fun (h12 : PH) => ldI h12 (rt this 0) 1200 (6 : Int32) (fun (x13 : Int32) => stI h12 (rt this 0) 1200 (6 : Int32) (x13 - (1 : Int32)) (fun (h14 : PH) => j54 h14))) (fun (j : PH → Option (Unit × PH)) => ∀  (h12 : PH), SWo (QM mkV below args s D cA ad A) p l e (rmd 0) s m args below meth c 0 0 2 D cA ad A 43 [(0, .ref this)] [] h12 (j h12)) ?_ (fun j43 hj43 => ?_)
    · intro h12
      refine so_aload_n (i := 0) X 0 (dkX12_keeps (43, .aload_n 0, 1) (pgm 23 rfl)) rfl rfl ?_
      refine sf_getR X ff_12_0 lk_1702 hk (dkX12_keeps (44, .getfield 9, 3) (pgm 24 rfl)) ?_
      refine so_bipush (v := (6 : Int32)) X (dkX12_keeps (47, .bipush 6, 2) (pgm 25 rfl)) bp_6 ?_
      refine so_dup2 X (dkX12_keeps (49, .dup2, 1) (pgm 26 rfl)) rfl rfl ?_
      refine so_iald X (rk_12_0 this hk) (dkX12_keeps (50, .iaload, 1) (pgm 27 rfl)) (fun x13 => ?_)
      refine so_iconst (v := (1 : Int32)) X (dkX12_keeps (51, .iconst 1, 1) (pgm 28 rfl)) ic_1 ?_
      refine so_isub X (dkX12_keeps (52, .isub, 1) (pgm 29 rfl)) ?_
      refine so_iast X (rk_12_0 this hk) (dkX12_keeps (53, .iastore, 1) (pgm 30 rfl)) (fun h14 => ?_)
      exact so_pick X [0] rfl (hj54 h14)
    refine so_pick (L' := [(0, .ref this), (1, .int x11)]) X [1, 0] rfl ?_
    refine so_loop (body := b_X12_keeps_15 this j43) (fun (s15 : Int32) => [(0, .ref this), (1, .int s15)]) (fun rec15 hrec15 s15 hh15 => ?_) FU x11 h0
    unfold b_X12_keeps_15
    refine so_iload_n (i := 1) X 1 (dkX12_keeps (15, .iload_n 1, 1) (pgm 8 rfl)) rfl rfl ?_
    refine so_sipush (v := (219 : Int32)) X (dkX12_keeps (16, .sipush 219, 3) (pgm 9 rfl)) sp_219 ?_
    refine so_icmp_ge (tgt := 43) X (dkX12_keeps (19, .if_icmp .ge 24, 3) (pgm 10 rfl)) rfl (fun _ => ?_) (fun _ => ?_)
    · exact so_pick X [0] rfl (hj43 hh15)
    · refine so_aload_n (i := 0) X 0 (dkX12_keeps (22, .aload_n 0, 1) (pgm 11 rfl)) rfl rfl ?_
      refine sf_getR X ff_12_0 lk_1702 hk (dkX12_keeps (23, .getfield 9, 3) (pgm 12 rfl)) ?_
      refine so_iload_n (i := 1) X 1 (dkX12_keeps (26, .iload_n 1, 1) (pgm 13 rfl)) rfl rfl ?_
      refine so_aload_n (i := 0) X 0 (dkX12_keeps (27, .aload_n 0, 1) (pgm 14 rfl)) rfl rfl ?_
      refine sf_getR X ff_12_0 lk_1702 hk (dkX12_keeps (28, .getfield 9, 3) (pgm 15 rfl)) ?_
      refine so_iload_n (i := 1) X 1 (dkX12_keeps (31, .iload_n 1, 1) (pgm 16 rfl)) rfl rfl ?_
      refine so_bipush (v := (17 : Int32)) X (dkX12_keeps (32, .bipush 17, 2) (pgm 17 rfl)) bp_17 ?_
      refine so_iadd X (dkX12_keeps (34, .iadd, 1) (pgm 18 rfl)) ?_
      refine so_iald X (rk_12_0 this hk) (dkX12_keeps (35, .iaload, 1) (pgm 19 rfl)) (fun x15 => ?_)
      refine so_iast X (rk_12_0 this hk) (dkX12_keeps (36, .iastore, 1) (pgm 20 rfl)) (fun h16 => ?_)
      refine so_iinc (i := 1) X 1 (dkX12_keeps (37, .iinc 1 1, 3) (pgm 21 rfl)) rfl rfl (by decide) (Lf := fun x17 => [(1, .int x17), (0, .ref this)]) (fun _ => rfl) (fun x17 => ?_)
      refine so_goto (tgt := 15) X (dkX12_keeps (40, .goto (-25), 3) (pgm 22 rfl)) rfl ?_
      exact so_pick X [1, 0] rfl (hrec15 x17 h16)
def pgX12_goesBy : List (Nat × Instr × Nat) := [(0, .aload_n 0, 1), (1, .aload_n 0, 1), (2, .getfield 37, 3), (5, .iload_n 1, 1), (6, .iaload, 1), (7, .invokevirtual 302, 3), (10, .istore_n 2, 1), (11, .aload_n 0, 1), (12, .getfield 9, 3), (15, .bipush 7, 2), (17, .dup2, 1), (18, .iaload, 1), (19, .iload_n 2, 1), (20, .iconst (-1), 1), (21, .ixor, 1), (22, .iand, 1), (23, .iastore, 1), (24, .iconst 0, 1), (25, .istore_n 3, 1), (26, .iload_n 3, 1), (27, .aload_n 0, 1), (28, .getfield 9, 3), (31, .iconst 5, 1), (32, .iaload, 1), (33, .if_icmp .ge 67, 3), (36, .iload_n 2, 1), (37, .iload_n 3, 1), (38, .invokestatic 279, 3), (41, .ifCond .eq 32, 3), (44, .aload_n 0, 1), (45, .getfield 9, 3), (48, .bipush 18, 2), (50, .aload_n 0, 1), (51, .getfield 9, 3), (54, .bipush 24, 2), (56, .iload_n 3, 1), (57, .iadd, 1), (58, .iaload, 1), (59, .iadd, 1), (60, .dup2, 1), (61, .iaload, 1), (62, .aload_n 0, 1), (63, .getfield 9, 3), (66, .bipush 34, 2), (68, .iload_n 3, 1), (69, .iadd, 1), (70, .iaload, 1), (71, .iadd, 1), (72, .iastore, 1), (73, .aload_n 0, 1), (74, .iload_n 3, 1), (75, .invokevirtual 289, 3), (78, .ifCond .eq 16, 3), (81, .aload_n 0, 1), (82, .getfield 9, 3), (85, .bipush 8, 2), (87, .iload_n 3, 1), (88, .iadd, 1), (89, .dup2, 1), (90, .iaload, 1), (91, .iconst 1, 1), (92, .iadd, 1), (93, .iastore, 1), (94, .iinc 3 1, 3), (97, .goto (-71), 3), (100, .aload_n 0, 1), (101, .iload_n 2, 1), (102, .invokevirtual 327, 3), (105, .ireturn, 1)]
theorem dkX12_goesBy : ∀ q ∈ pgX12_goesBy, decode cX12_goesBy q.1 = .ok q.2 := by decide +kernel
def b_X12_goesBy_26 (this : Nat) (x4 : Int32) (j100 : PH → Option (Int32 × PH)) (rec26 : (Int32) → PH → Option (Int32 × PH)) (s26 : Int32) (hh26 : PH) : Option (Int32 × PH) :=
  ldI hh26 (rt this 0) 1200 (5 : Int32) (fun (x11 : Int32) => if x11 ≤ s26 then (j100 hh26) else (cb (f_X12_has x4 s26 hh26) (fun (r12 : Int32) (h13 : PH) => lt (fun (h14 : PH) => cb (f_X12_isOpen this s26 h14) (fun (r15 : Int32) (h16 : PH) => lt (fun (h17 : PH) => lt (s26 + Int32.ofInt 1) (fun (x18 : Int32) => rec26 x18 h17)) (fun (j94 : PH → Option (Int32 × PH)) => if r15 = 0 then (j94 h16) else (ldI h16 (rt this 0) 1200 ((8 : Int32) + s26) (fun (x19 : Int32) => stI h16 (rt this 0) 1200 ((8 : Int32) + s26) (x19 + (1 : Int32)) (fun (h20 : PH) => j94 h20)))))) (fun (j73 : PH → Option (Int32 × PH)) => if r12 = 0 then (j73 h13) else (ldI h13 (rt this 0) 1200 ((24 : Int32) + s26) (fun (x21 : Int32) => ldI h13 (rt this 0) 1200 ((18 : Int32) + x21) (fun (x22 : Int32) => ldI h13 (rt this 0) 1200 ((34 : Int32) + s26) (fun (x23 : Int32) => stI h13 (rt this 0) 1200 ((18 : Int32) + x21) (x22 + x23) (fun (h24 : PH) => j73 h24)))))))))
def f_X12_goesBy (this : Nat) (a1 : Int32) (h0 : PH) : Option (Int32 × PH) :=
  ldI h0 (rt this 19) 4096 a1 (fun (x1 : Int32) => cb (f_X12_grantedIn this x1 h0) (fun (r2 : Int32) (h3 : PH) => lt r2 (fun (x4 : Int32) => ldI h3 (rt this 0) 1200 (7 : Int32) (fun (x5 : Int32) => stI h3 (rt this 0) 1200 (7 : Int32) (x5 &&& (x4 ^^^ (-1 : Int32))) (fun (h6 : PH) => lt (0 : Int32) (fun (x7 : Int32) => lt (fun (h8 : PH) => cb (f_X12_weight this x4 h8) (fun (r9 : Int32) (h10 : PH) => some (r9, h10))) (fun (j100 : PH → Option (Int32 × PH)) => lp (b_X12_goesBy_26 this x4 j100) FU x7 h6)))))))
set_option maxRecDepth 100000 in
set_option maxHeartbeats 4000000 in
theorem ct_X12_goesBy (l : Launch) (this : Nat) (a1 : Int32) (h0 : PH) (hk : (kd this).1 = 12) : CT mkI l yX12_goesBy cX12_goesBy 4 (some .int) (rmd 3) [.ref this, .int a1] h0 (f_X12_goesBy this a1 h0) := by
  refine ct_of (by decide) (Nat.le_of_ble_eq_true rfl) ?_
  intro p e s m args below meth c D cA ad A X hr hlk
  have X : Cx p s m args c RX12 cX12_goesBy 4 D cA ad A := X
  unfold f_X12_goesBy
  refine so_pick (L' := [(0, .ref this), (1, .int a1)]) X [0, 1] rfl ?_
  refine so_aload_n (i := 0) X 0 (dkX12_goesBy (0, .aload_n 0, 1) (pgm 0 rfl)) rfl rfl ?_
  refine so_aload_n (i := 0) X 0 (dkX12_goesBy (1, .aload_n 0, 1) (pgm 1 rfl)) rfl rfl ?_
  refine sf_getR X ff_12_19 lk_1721 hk (dkX12_goesBy (2, .getfield 37, 3) (pgm 2 rfl)) ?_
  refine so_iload_n (i := 1) X 1 (dkX12_goesBy (5, .iload_n 1, 1) (pgm 3 rfl)) rfl rfl ?_
  refine so_iald X (rk_12_19 this hk) (dkX12_goesBy (6, .iaload, 1) (pgm 4 rfl)) (fun x1 => ?_)
  refine so_callV (n := 1) (As := [.int x1]) X (ct_X12_grantedIn l this x1 h0 hk) hk (by decide) rfl lk_1990 lk_1992 lk_88 lk_134 lk_1993 (by decide +kernel) rfl rfl rfl (rm_ok (by omega) (by decide)) ⟨Nat.zero_le _, Nat.zero_le _⟩ (Nat.le_of_ble_eq_true rfl) (dkX12_goesBy (7, .invokevirtual 302, 3) (pgm 5 rfl)) (fun r2 h3 => ?_) rfl
  refine so_istore_n (i := 2) X (dkX12_goesBy (10, .istore_n 2, 1) (pgm 6 rfl)) rfl (by decide) (Lf := fun x4 => [(2, .int x4), (0, .ref this), (1, .int a1)]) (fun _ => rfl) (fun x4 => ?_)
  refine so_aload_n (i := 0) X 1 (dkX12_goesBy (11, .aload_n 0, 1) (pgm 7 rfl)) rfl rfl ?_
  refine sf_getR X ff_12_0 lk_1702 hk (dkX12_goesBy (12, .getfield 9, 3) (pgm 8 rfl)) ?_
  refine so_bipush (v := (7 : Int32)) X (dkX12_goesBy (15, .bipush 7, 2) (pgm 9 rfl)) bp_7 ?_
  refine so_dup2 X (dkX12_goesBy (17, .dup2, 1) (pgm 10 rfl)) rfl rfl ?_
  refine so_iald X (rk_12_0 this hk) (dkX12_goesBy (18, .iaload, 1) (pgm 11 rfl)) (fun x5 => ?_)
  refine so_iload_n (i := 2) X 0 (dkX12_goesBy (19, .iload_n 2, 1) (pgm 12 rfl)) rfl rfl ?_
  refine so_iconst (v := (-1 : Int32)) X (dkX12_goesBy (20, .iconst (-1), 1) (pgm 13 rfl)) ic_m1 ?_
  refine so_ixor X (dkX12_goesBy (21, .ixor, 1) (pgm 14 rfl)) ?_
  refine so_iand X (dkX12_goesBy (22, .iand, 1) (pgm 15 rfl)) ?_
  refine so_iast X (rk_12_0 this hk) (dkX12_goesBy (23, .iastore, 1) (pgm 16 rfl)) (fun h6 => ?_)
  refine so_iconst (v := (0 : Int32)) X (dkX12_goesBy (24, .iconst 0, 1) (pgm 17 rfl)) ic_0 ?_
  refine so_istore_n (i := 3) X (dkX12_goesBy (25, .istore_n 3, 1) (pgm 18 rfl)) rfl (by decide) (Lf := fun x7 => [(3, .int x7), (2, .int x4), (0, .ref this), (1, .int a1)]) (fun _ => rfl) (fun x7 => ?_)
  refine so_join (jf := fun (h8 : PH) => cb (f_X12_weight this x4 h8) (fun (r9 : Int32) (h10 : PH) => some (r9, h10))) (fun (j : PH → Option (Int32 × PH)) => ∀  (h8 : PH), SWo (QM mkI below args s D cA ad A) p l e (rmd 3) s m args below meth c 0 0 4 D cA ad A 100 [(0, .ref this), (2, .int x4)] [] h8 (j h8)) ?_ (fun j100 hj100 => ?_)
  · intro h8
    refine so_aload_n (i := 0) X 0 (dkX12_goesBy (100, .aload_n 0, 1) (pgm 65 rfl)) rfl rfl ?_
    refine so_iload_n (i := 2) X 1 (dkX12_goesBy (101, .iload_n 2, 1) (pgm 66 rfl)) rfl rfl ?_
    refine so_callV (n := 1) (As := [.int x4]) X (ct_X12_weight l this x4 h8 hk) hk (by decide) rfl lk_2035 lk_2037 lk_93 lk_134 lk_2038 (by decide +kernel) rfl rfl rfl (rm_ok (by omega) (by decide)) ⟨Nat.zero_le _, Nat.zero_le _⟩ (Nat.le_of_ble_eq_true rfl) (dkX12_goesBy (102, .invokevirtual 327, 3) (pgm 67 rfl)) (fun r9 h10 => ?_) rfl
    exact so_iret X hr hlk (dkX12_goesBy (105, .ireturn, 1) (pgm 68 rfl))
  refine so_pick (L' := [(0, .ref this), (2, .int x4), (3, .int x7)]) X [2, 1, 0] rfl ?_
  refine so_loop (body := b_X12_goesBy_26 this x4 j100) (fun (s26 : Int32) => [(0, .ref this), (2, .int x4), (3, .int s26)]) (fun rec26 hrec26 s26 hh26 => ?_) FU x7 h6
  unfold b_X12_goesBy_26
  refine so_iload_n (i := 3) X 2 (dkX12_goesBy (26, .iload_n 3, 1) (pgm 19 rfl)) rfl rfl ?_
  refine so_aload_n (i := 0) X 0 (dkX12_goesBy (27, .aload_n 0, 1) (pgm 20 rfl)) rfl rfl ?_
  refine sf_getR X ff_12_0 lk_1702 hk (dkX12_goesBy (28, .getfield 9, 3) (pgm 21 rfl)) ?_
  refine so_iconst (v := (5 : Int32)) X (dkX12_goesBy (31, .iconst 5, 1) (pgm 22 rfl)) ic_5 ?_
  refine so_iald X (rk_12_0 this hk) (dkX12_goesBy (32, .iaload, 1) (pgm 23 rfl)) (fun x11 => ?_)
  refine so_icmp_ge (tgt := 100) X (dkX12_goesBy (33, .if_icmp .ge 67, 3) (pgm 24 rfl)) rfl (fun _ => ?_) (fun _ => ?_)
  · exact so_pick X [0, 1] rfl (hj100 hh26)
  · refine so_iload_n (i := 2) X 1 (dkX12_goesBy (36, .iload_n 2, 1) (pgm 25 rfl)) rfl rfl ?_
    refine so_iload_n (i := 3) X 2 (dkX12_goesBy (37, .iload_n 3, 1) (pgm 26 rfl)) rfl rfl ?_
    refine so_callS (n := 2) (As := [.int x4, .int s26]) X (ct_X12_has l x4 s26 hh26 ) lk_1676 lk_1677 lk_134 lk_1678 (by decide +kernel) rfl rfl rfl (rm_ok (by omega) (by decide)) ⟨Nat.zero_le _, Nat.zero_le _⟩ (Nat.le_of_ble_eq_true rfl) (dkX12_goesBy (38, .invokestatic 279, 3) (pgm 27 rfl)) (fun r12 h13 => ?_) rfl
    refine so_join (jf := fun (h14 : PH) => cb (f_X12_isOpen this s26 h14) (fun (r15 : Int32) (h16 : PH) => lt (fun (h17 : PH) => lt (s26 + Int32.ofInt 1) (fun (x18 : Int32) => rec26 x18 h17)) (fun (j94 : PH → Option (Int32 × PH)) => if r15 = 0 then (j94 h16) else (ldI h16 (rt this 0) 1200 ((8 : Int32) + s26) (fun (x19 : Int32) => stI h16 (rt this 0) 1200 ((8 : Int32) + s26) (x19 + (1 : Int32)) (fun (h20 : PH) => j94 h20)))))) (fun (j : PH → Option (Int32 × PH)) => ∀  (h14 : PH), SWo (QM mkI below args s D cA ad A) p l e (rmd 3) s m args below meth c 0 0 4 D cA ad A 73 [(0, .ref this), (2, .int x4), (3, .int s26)] [] h14 (j h14)) ?_ (fun j73 hj73 => ?_)
    · intro h14
      refine so_aload_n (i := 0) X 0 (dkX12_goesBy (73, .aload_n 0, 1) (pgm 49 rfl)) rfl rfl ?_
      refine so_iload_n (i := 3) X 2 (dkX12_goesBy (74, .iload_n 3, 1) (pgm 50 rfl)) rfl rfl ?_
      refine so_callV (n := 1) (As := [.int s26]) X (ct_X12_isOpen l this s26 h14 hk) hk (by decide) rfl lk_1962 lk_1964 lk_84 lk_134 lk_1965 (by decide +kernel) rfl rfl rfl (rm_ok (by omega) (by decide)) ⟨Nat.zero_le _, Nat.zero_le _⟩ (Nat.le_of_ble_eq_true rfl) (dkX12_goesBy (75, .invokevirtual 289, 3) (pgm 51 rfl)) (fun r15 h16 => ?_) rfl
      refine so_join (jf := fun (h17 : PH) => lt (s26 + Int32.ofInt 1) (fun (x18 : Int32) => rec26 x18 h17)) (fun (j : PH → Option (Int32 × PH)) => ∀  (h17 : PH), SWo (QM mkI below args s D cA ad A) p l e (rmd 3) s m args below meth c 0 0 4 D cA ad A 94 [(0, .ref this), (2, .int x4), (3, .int s26)] [] h17 (j h17)) ?_ (fun j94 hj94 => ?_)
      · intro h17
        refine so_iinc (i := 3) X 2 (dkX12_goesBy (94, .iinc 3 1, 3) (pgm 63 rfl)) rfl rfl (by decide) (Lf := fun x18 => [(3, .int x18), (0, .ref this), (2, .int x4)]) (fun _ => rfl) (fun x18 => ?_)
        refine so_goto (tgt := 26) X (dkX12_goesBy (97, .goto (-71), 3) (pgm 64 rfl)) rfl ?_
        exact so_pick X [1, 2, 0] rfl (hrec26 x18 h17)
      refine so_if_eq (tgt := 94) X (dkX12_goesBy (78, .ifCond .eq 16, 3) (pgm 52 rfl)) rfl (fun _ => ?_) (fun _ => ?_)
      · exact so_pick X [0, 1, 2] rfl (hj94 h16)
      · refine so_aload_n (i := 0) X 0 (dkX12_goesBy (81, .aload_n 0, 1) (pgm 53 rfl)) rfl rfl ?_
        refine sf_getR X ff_12_0 lk_1702 hk (dkX12_goesBy (82, .getfield 9, 3) (pgm 54 rfl)) ?_
        refine so_bipush (v := (8 : Int32)) X (dkX12_goesBy (85, .bipush 8, 2) (pgm 55 rfl)) bp_8 ?_
        refine so_iload_n (i := 3) X 2 (dkX12_goesBy (87, .iload_n 3, 1) (pgm 56 rfl)) rfl rfl ?_
        refine so_iadd X (dkX12_goesBy (88, .iadd, 1) (pgm 57 rfl)) ?_
        refine so_dup2 X (dkX12_goesBy (89, .dup2, 1) (pgm 58 rfl)) rfl rfl ?_
        refine so_iald X (rk_12_0 this hk) (dkX12_goesBy (90, .iaload, 1) (pgm 59 rfl)) (fun x19 => ?_)
        refine so_iconst (v := (1 : Int32)) X (dkX12_goesBy (91, .iconst 1, 1) (pgm 60 rfl)) ic_1 ?_
        refine so_iadd X (dkX12_goesBy (92, .iadd, 1) (pgm 61 rfl)) ?_
        refine so_iast X (rk_12_0 this hk) (dkX12_goesBy (93, .iastore, 1) (pgm 62 rfl)) (fun h20 => ?_)
        exact so_pick X [0, 1, 2] rfl (hj94 h20)
    refine so_if_eq (tgt := 73) X (dkX12_goesBy (41, .ifCond .eq 32, 3) (pgm 28 rfl)) rfl (fun _ => ?_) (fun _ => ?_)
    · exact so_pick X [0, 1, 2] rfl (hj73 h13)
    · refine so_aload_n (i := 0) X 0 (dkX12_goesBy (44, .aload_n 0, 1) (pgm 29 rfl)) rfl rfl ?_
      refine sf_getR X ff_12_0 lk_1702 hk (dkX12_goesBy (45, .getfield 9, 3) (pgm 30 rfl)) ?_
      refine so_bipush (v := (18 : Int32)) X (dkX12_goesBy (48, .bipush 18, 2) (pgm 31 rfl)) bp_18 ?_
      refine so_aload_n (i := 0) X 0 (dkX12_goesBy (50, .aload_n 0, 1) (pgm 32 rfl)) rfl rfl ?_
      refine sf_getR X ff_12_0 lk_1702 hk (dkX12_goesBy (51, .getfield 9, 3) (pgm 33 rfl)) ?_
      refine so_bipush (v := (24 : Int32)) X (dkX12_goesBy (54, .bipush 24, 2) (pgm 34 rfl)) bp_24 ?_
      refine so_iload_n (i := 3) X 2 (dkX12_goesBy (56, .iload_n 3, 1) (pgm 35 rfl)) rfl rfl ?_
      refine so_iadd X (dkX12_goesBy (57, .iadd, 1) (pgm 36 rfl)) ?_
      refine so_iald X (rk_12_0 this hk) (dkX12_goesBy (58, .iaload, 1) (pgm 37 rfl)) (fun x21 => ?_)
      refine so_iadd X (dkX12_goesBy (59, .iadd, 1) (pgm 38 rfl)) ?_
      refine so_dup2 X (dkX12_goesBy (60, .dup2, 1) (pgm 39 rfl)) rfl rfl ?_
      refine so_iald X (rk_12_0 this hk) (dkX12_goesBy (61, .iaload, 1) (pgm 40 rfl)) (fun x22 => ?_)
      refine so_aload_n (i := 0) X 0 (dkX12_goesBy (62, .aload_n 0, 1) (pgm 41 rfl)) rfl rfl ?_
      refine sf_getR X ff_12_0 lk_1702 hk (dkX12_goesBy (63, .getfield 9, 3) (pgm 42 rfl)) ?_
      refine so_bipush (v := (34 : Int32)) X (dkX12_goesBy (66, .bipush 34, 2) (pgm 43 rfl)) bp_34 ?_
      refine so_iload_n (i := 3) X 2 (dkX12_goesBy (68, .iload_n 3, 1) (pgm 44 rfl)) rfl rfl ?_
      refine so_iadd X (dkX12_goesBy (69, .iadd, 1) (pgm 45 rfl)) ?_
      refine so_iald X (rk_12_0 this hk) (dkX12_goesBy (70, .iaload, 1) (pgm 46 rfl)) (fun x23 => ?_)
      refine so_iadd X (dkX12_goesBy (71, .iadd, 1) (pgm 47 rfl)) ?_
      refine so_iast X (rk_12_0 this hk) (dkX12_goesBy (72, .iastore, 1) (pgm 48 rfl)) (fun h24 => ?_)
      exact so_pick X [0, 1, 2] rfl (hj73 h24)
def pgX12_night : List (Nat × Instr × Nat) := [(0, .aload_n 0, 1), (1, .iconst 0, 1), (2, .putfield 92, 3), (5, .aload_n 0, 1), (6, .iload_n 1, 1), (7, .i2l, 1), (8, .invokevirtual 310, 3), (11, .istore_n 2, 1), (12, .iload_n 2, 1), (13, .ifCond .eq 6, 3), (16, .iload_n 2, 1), (17, .ineg, 1), (18, .ireturn, 1), (19, .aload_n 0, 1), (20, .invokevirtual 423, 3), (23, .aload_n 0, 1), (24, .iload_n 1, 1), (25, .invokevirtual 426, 3), (28, .ireturn, 1)]
theorem dkX12_night : ∀ q ∈ pgX12_night, decode cX12_night q.1 = .ok q.2 := by decide +kernel
def f_X12_night (this : Nat) (a1 : Int32) (h0 : PH) : Option (Int32 × PH) :=
  lt (pI h0 this 5 (0 : Int32)) (fun (h1 : PH) => cb (f_X12_whyNot this a1.toInt64 h1) (fun (r2 : Int32) (h3 : PH) => lt r2 (fun (x4 : Int32) => if x4 = 0 then (cb (f_X12_keeps this h3) (fun (r5 : Unit) (h6 : PH) => cb (f_X12_goesBy this a1 h6) (fun (r7 : Int32) (h8 : PH) => some (r7, h8)))) else (some ((-x4), h3)))))
set_option maxRecDepth 100000 in
set_option maxHeartbeats 4000000 in
theorem ct_X12_night (l : Launch) (this : Nat) (a1 : Int32) (h0 : PH) (hk : (kd this).1 = 12) : CT mkI l yX12_night cX12_night 3 (some .int) (rmd 4) [.ref this, .int a1] h0 (f_X12_night this a1 h0) := by
  refine ct_of (by decide) (Nat.le_of_ble_eq_true rfl) ?_
  intro p e s m args below meth c D cA ad A X hr hlk
  have X : Cx p s m args c RX12 cX12_night 3 D cA ad A := X
  unfold f_X12_night
  refine so_pick (L' := [(0, .ref this), (1, .int a1)]) X [0, 1] rfl ?_
  refine so_aload_n (i := 0) X 0 (dkX12_night (0, .aload_n 0, 1) (pgm 0 rfl)) rfl rfl ?_
  refine so_iconst (v := (0 : Int32)) X (dkX12_night (1, .iconst 0, 1) (pgm 1 rfl)) ic_0 ?_
  refine sf_putI X ff_12_5 ft_12 rfl lk_1707 hk rfl rfl (dkX12_night (2, .putfield 92, 3) (pgm 2 rfl)) (fun h1 => ?_)
  refine so_aload_n (i := 0) X 0 (dkX12_night (5, .aload_n 0, 1) (pgm 3 rfl)) rfl rfl ?_
  refine so_iload_n (i := 1) X 1 (dkX12_night (6, .iload_n 1, 1) (pgm 4 rfl)) rfl rfl ?_
  refine so_i2l X (dkX12_night (7, .i2l, 1) (pgm 5 rfl)) ?_
  refine so_callV (n := 1) (As := [.long a1.toInt64]) X (ct_X12_whyNot l this a1.toInt64 h1 hk) hk (by decide) rfl lk_1982 lk_1984 lk_86 lk_134 lk_1985 (by decide +kernel) rfl rfl rfl (rm_ok (by omega) (by decide)) ⟨Nat.zero_le _, Nat.zero_le _⟩ (Nat.le_of_ble_eq_true rfl) (dkX12_night (8, .invokevirtual 310, 3) (pgm 6 rfl)) (fun r2 h3 => ?_) rfl
  refine so_istore_n (i := 2) X (dkX12_night (11, .istore_n 2, 1) (pgm 7 rfl)) rfl (by decide) (Lf := fun x4 => [(2, .int x4), (0, .ref this), (1, .int a1)]) (fun _ => rfl) (fun x4 => ?_)
  refine so_iload_n (i := 2) X 0 (dkX12_night (12, .iload_n 2, 1) (pgm 8 rfl)) rfl rfl ?_
  refine so_if_eq (tgt := 19) X (dkX12_night (13, .ifCond .eq 6, 3) (pgm 9 rfl)) rfl (fun _ => ?_) (fun _ => ?_)
  · refine so_aload_n (i := 0) X 1 (dkX12_night (19, .aload_n 0, 1) (pgm 13 rfl)) rfl rfl ?_
    refine so_callV (n := 0) (As := []) X (ct_X12_keeps l this h3 hk) hk (by decide) rfl lk_2187 lk_2189 lk_113 lk_134 lk_2190 (by decide +kernel) rfl rfl rfl (rm_ok (by omega) (by decide)) ⟨Nat.zero_le _, Nat.zero_le _⟩ (Nat.le_of_ble_eq_true rfl) (dkX12_night (20, .invokevirtual 423, 3) (pgm 14 rfl)) (fun r5 h6 => ?_) rfl
    refine so_aload_n (i := 0) X 1 (dkX12_night (23, .aload_n 0, 1) (pgm 15 rfl)) rfl rfl ?_
    refine so_iload_n (i := 1) X 2 (dkX12_night (24, .iload_n 1, 1) (pgm 16 rfl)) rfl rfl ?_
    refine so_callV (n := 1) (As := [.int a1]) X (ct_X12_goesBy l this a1 h6 hk) hk (by decide) rfl lk_2191 lk_2193 lk_114 lk_134 lk_2194 (by decide +kernel) rfl rfl rfl (rm_ok (by omega) (by decide)) ⟨Nat.zero_le _, Nat.zero_le _⟩ (Nat.le_of_ble_eq_true rfl) (dkX12_night (25, .invokevirtual 426, 3) (pgm 17 rfl)) (fun r7 h8 => ?_) rfl
    exact so_iret X hr hlk (dkX12_night (28, .ireturn, 1) (pgm 18 rfl))
  · refine so_iload_n (i := 2) X 0 (dkX12_night (16, .iload_n 2, 1) (pgm 10 rfl)) rfl rfl ?_
    refine so_ineg X (dkX12_night (17, .ineg, 1) (pgm 11 rfl)) ?_
    exact so_iret X hr hlk (dkX12_night (18, .ireturn, 1) (pgm 12 rfl))
def pgX12_thank : List (Nat × Instr × Nat) := [(0, .aload_n 0, 1), (1, .iconst 0, 1), (2, .putfield 92, 3), (5, .iload_n 1, 1), (6, .invokestatic 360, 3), (9, .ifCond .eq 15, 3), (12, .iload_n 2, 1), (13, .i2l, 1), (14, .lconst 1, 1), (15, .ldc2_w 429, 3), (18, .invokestatic 156, 3), (21, .ifCond .ne 9, 3), (24, .aload_n 0, 1), (25, .iconst 1, 1), (26, .invokevirtual 233, 3), (29, .ireturn, 1), (30, .aload_n 0, 1), (31, .invokevirtual 423, 3), (34, .aload_n 0, 1), (35, .getfield 9, 3), (38, .bipush 18, 2), (40, .iload_n 1, 1), (41, .iadd, 1), (42, .dup2, 1), (43, .iaload, 1), (44, .iload_n 2, 1), (45, .isub, 1), (46, .iastore, 1), (47, .aload_n 0, 1), (48, .getfield 9, 3), (51, .bipush 18, 2), (53, .iload_n 1, 1), (54, .iadd, 1), (55, .iaload, 1), (56, .ireturn, 1)]
theorem dkX12_thank : ∀ q ∈ pgX12_thank, decode cX12_thank q.1 = .ok q.2 := by decide +kernel
def f_X12_thank (this : Nat) (a1 : Int32) (a2 : Int32) (h0 : PH) : Option (Int32 × PH) :=
  lt (pI h0 this 5 (0 : Int32)) (fun (h1 : PH) => cb (f_X12_isBody a1 h1) (fun (r2 : Int32) (h3 : PH) => lt (fun (h4 : PH) => cb (f_X12_fails this (1 : Int32) h4) (fun (r5 : Int32) (h6 : PH) => some (r5, h6))) (fun (j24 : PH → Option (Int32 × PH)) => if r2 = 0 then (j24 h3) else (cb (f_X12_within a2.toInt64 (1 : Int64) (99 : Int64) h3) (fun (r7 : Int32) (h8 : PH) => if r7 = 0 then (j24 h8) else (cb (f_X12_keeps this h8) (fun (r9 : Unit) (h10 : PH) => ldI h10 (rt this 0) 1200 ((18 : Int32) + a1) (fun (x11 : Int32) => stI h10 (rt this 0) 1200 ((18 : Int32) + a1) (x11 - a2) (fun (h12 : PH) => ldI h12 (rt this 0) 1200 ((18 : Int32) + a1) (fun (x13 : Int32) => some (x13, h12)))))))))))
set_option maxRecDepth 100000 in
set_option maxHeartbeats 4000000 in
theorem ct_X12_thank (l : Launch) (this : Nat) (a1 : Int32) (a2 : Int32) (h0 : PH) (hk : (kd this).1 = 12) : CT mkI l yX12_thank cX12_thank 3 (some .int) (rmd 2) [.ref this, .int a1, .int a2] h0 (f_X12_thank this a1 a2 h0) := by
  refine ct_of (by decide) (Nat.le_of_ble_eq_true rfl) ?_
  intro p e s m args below meth c D cA ad A X hr hlk
  have X : Cx p s m args c RX12 cX12_thank 3 D cA ad A := X
  unfold f_X12_thank
  refine so_pick (L' := [(0, .ref this), (1, .int a1), (2, .int a2)]) X [0, 1, 2] rfl ?_
  refine so_aload_n (i := 0) X 0 (dkX12_thank (0, .aload_n 0, 1) (pgm 0 rfl)) rfl rfl ?_
  refine so_iconst (v := (0 : Int32)) X (dkX12_thank (1, .iconst 0, 1) (pgm 1 rfl)) ic_0 ?_
  refine sf_putI X ff_12_5 ft_12 rfl lk_1707 hk rfl rfl (dkX12_thank (2, .putfield 92, 3) (pgm 2 rfl)) (fun h1 => ?_)
  refine so_iload_n (i := 1) X 1 (dkX12_thank (5, .iload_n 1, 1) (pgm 3 rfl)) rfl rfl ?_
  refine so_callS (n := 1) (As := [.int a1]) X (ct_X12_isBody l a1 h1 ) lk_2103 lk_2104 lk_134 lk_2105 (by decide +kernel) rfl rfl rfl (rm_ok (by omega) (by decide)) ⟨Nat.zero_le _, Nat.zero_le _⟩ (Nat.le_of_ble_eq_true rfl) (dkX12_thank (6, .invokestatic 360, 3) (pgm 4 rfl)) (fun r2 h3 => ?_) rfl
  refine so_join (jf := fun (h4 : PH) => cb (f_X12_fails this (1 : Int32) h4) (fun (r5 : Int32) (h6 : PH) => some (r5, h6))) (fun (j : PH → Option (Int32 × PH)) => ∀  (h4 : PH), SWo (QM mkI below args s D cA ad A) p l e (rmd 2) s m args below meth c 0 0 3 D cA ad A 24 [(0, .ref this)] [] h4 (j h4)) ?_ (fun j24 hj24 => ?_)
  · intro h4
    refine so_aload_n (i := 0) X 0 (dkX12_thank (24, .aload_n 0, 1) (pgm 12 rfl)) rfl rfl ?_
    refine so_iconst (v := (1 : Int32)) X (dkX12_thank (25, .iconst 1, 1) (pgm 13 rfl)) ic_1 ?_
    refine so_callV (n := 1) (As := [.int (1 : Int32)]) X (ct_X12_fails l this (1 : Int32) h4 hk) hk (by decide) rfl lk_1835 lk_1837 lk_61 lk_134 lk_1838 (by decide +kernel) rfl rfl rfl (rm_ok (by omega) (by decide)) ⟨Nat.zero_le _, Nat.zero_le _⟩ (Nat.le_of_ble_eq_true rfl) (dkX12_thank (26, .invokevirtual 233, 3) (pgm 14 rfl)) (fun r5 h6 => ?_) rfl
    exact so_iret X hr hlk (dkX12_thank (29, .ireturn, 1) (pgm 15 rfl))
  refine so_if_eq (tgt := 24) X (dkX12_thank (9, .ifCond .eq 15, 3) (pgm 5 rfl)) rfl (fun _ => ?_) (fun _ => ?_)
  · exact so_pick X [0] rfl (hj24 h3)
  · refine so_iload_n (i := 2) X 2 (dkX12_thank (12, .iload_n 2, 1) (pgm 6 rfl)) rfl rfl ?_
    refine so_i2l X (dkX12_thank (13, .i2l, 1) (pgm 7 rfl)) ?_
    refine so_lconst (v := (1 : Int64)) X (dkX12_thank (14, .lconst 1, 1) (pgm 8 rfl)) lc_1 ?_
    refine so_ldc2 X lk_2199 (dkX12_thank (15, .ldc2_w 429, 3) (pgm 9 rfl)) ?_
    refine so_callS (n := 3) (As := [.long a2.toInt64, .long (1 : Int64), .long (99 : Int64)]) X (ct_X12_within l a2.toInt64 (1 : Int64) (99 : Int64) h3 ) lk_1832 lk_1833 lk_134 lk_1834 (by decide +kernel) rfl rfl rfl (rm_ok (by omega) (by decide)) ⟨Nat.zero_le _, Nat.zero_le _⟩ (Nat.le_of_ble_eq_true rfl) (dkX12_thank (18, .invokestatic 156, 3) (pgm 10 rfl)) (fun r7 h8 => ?_) rfl
    refine so_if_ne (tgt := 30) X (dkX12_thank (21, .ifCond .ne 9, 3) (pgm 11 rfl)) rfl (fun _ => ?_) (fun _ => ?_)
    · refine so_aload_n (i := 0) X 0 (dkX12_thank (30, .aload_n 0, 1) (pgm 16 rfl)) rfl rfl ?_
      refine so_callV (n := 0) (As := []) X (ct_X12_keeps l this h8 hk) hk (by decide) rfl lk_2187 lk_2189 lk_113 lk_134 lk_2190 (by decide +kernel) rfl rfl rfl (rm_ok (by omega) (by decide)) ⟨Nat.zero_le _, Nat.zero_le _⟩ (Nat.le_of_ble_eq_true rfl) (dkX12_thank (31, .invokevirtual 423, 3) (pgm 17 rfl)) (fun r9 h10 => ?_) rfl
      refine so_aload_n (i := 0) X 0 (dkX12_thank (34, .aload_n 0, 1) (pgm 18 rfl)) rfl rfl ?_
      refine sf_getR X ff_12_0 lk_1702 hk (dkX12_thank (35, .getfield 9, 3) (pgm 19 rfl)) ?_
      refine so_bipush (v := (18 : Int32)) X (dkX12_thank (38, .bipush 18, 2) (pgm 20 rfl)) bp_18 ?_
      refine so_iload_n (i := 1) X 1 (dkX12_thank (40, .iload_n 1, 1) (pgm 21 rfl)) rfl rfl ?_
      refine so_iadd X (dkX12_thank (41, .iadd, 1) (pgm 22 rfl)) ?_
      refine so_dup2 X (dkX12_thank (42, .dup2, 1) (pgm 23 rfl)) rfl rfl ?_
      refine so_iald X (rk_12_0 this hk) (dkX12_thank (43, .iaload, 1) (pgm 24 rfl)) (fun x11 => ?_)
      refine so_iload_n (i := 2) X 2 (dkX12_thank (44, .iload_n 2, 1) (pgm 25 rfl)) rfl rfl ?_
      refine so_isub X (dkX12_thank (45, .isub, 1) (pgm 26 rfl)) ?_
      refine so_iast X (rk_12_0 this hk) (dkX12_thank (46, .iastore, 1) (pgm 27 rfl)) (fun h12 => ?_)
      refine so_aload_n (i := 0) X 0 (dkX12_thank (47, .aload_n 0, 1) (pgm 28 rfl)) rfl rfl ?_
      refine sf_getR X ff_12_0 lk_1702 hk (dkX12_thank (48, .getfield 9, 3) (pgm 29 rfl)) ?_
      refine so_bipush (v := (18 : Int32)) X (dkX12_thank (51, .bipush 18, 2) (pgm 30 rfl)) bp_18 ?_
      refine so_iload_n (i := 1) X 1 (dkX12_thank (53, .iload_n 1, 1) (pgm 31 rfl)) rfl rfl ?_
      refine so_iadd X (dkX12_thank (54, .iadd, 1) (pgm 32 rfl)) ?_
      refine so_iald X (rk_12_0 this hk) (dkX12_thank (55, .iaload, 1) (pgm 33 rfl)) (fun x13 => ?_)
      exact so_iret X hr hlk (dkX12_thank (56, .ireturn, 1) (pgm 34 rfl))
    · exact so_pick X [0] rfl (hj24 h8)
def pgX12_owes : List (Nat × Instr × Nat) := [(0, .aload_n 0, 1), (1, .iconst 0, 1), (2, .putfield 92, 3), (5, .iload_n 1, 1), (6, .invokestatic 360, 3), (9, .ifCond .eq 15, 3), (12, .aload_n 0, 1), (13, .getfield 9, 3), (16, .bipush 18, 2), (18, .iload_n 1, 1), (19, .iadd, 1), (20, .iaload, 1), (21, .goto 8, 3), (24, .aload_n 0, 1), (25, .iconst 1, 1), (26, .invokevirtual 233, 3), (29, .ireturn, 1)]
theorem dkX12_owes : ∀ q ∈ pgX12_owes, decode cX12_owes q.1 = .ok q.2 := by decide +kernel
def f_X12_owes (this : Nat) (a1 : Int32) (h0 : PH) : Option (Int32 × PH) :=
  lt (pI h0 this 5 (0 : Int32)) (fun (h1 : PH) => cb (f_X12_isBody a1 h1) (fun (r2 : Int32) (h3 : PH) => lt (fun (t4 : Int32) (h5 : PH) => some (t4, h5)) (fun (j29 : Int32 → PH → Option (Int32 × PH)) => if r2 = 0 then (cb (f_X12_fails this (1 : Int32) h3) (fun (r6 : Int32) (h7 : PH) => j29 r6 h7)) else (ldI h3 (rt this 0) 1200 ((18 : Int32) + a1) (fun (x8 : Int32) => j29 x8 h3)))))
set_option maxRecDepth 100000 in
set_option maxHeartbeats 4000000 in
theorem ct_X12_owes (l : Launch) (this : Nat) (a1 : Int32) (h0 : PH) (hk : (kd this).1 = 12) : CT mkI l yX12_owes cX12_owes 2 (some .int) (rmd 2) [.ref this, .int a1] h0 (f_X12_owes this a1 h0) := by
  refine ct_of (by decide) (Nat.le_of_ble_eq_true rfl) ?_
  intro p e s m args below meth c D cA ad A X hr hlk
  have X : Cx p s m args c RX12 cX12_owes 2 D cA ad A := X
  unfold f_X12_owes
  refine so_pick (L' := [(0, .ref this), (1, .int a1)]) X [0, 1] rfl ?_
  refine so_aload_n (i := 0) X 0 (dkX12_owes (0, .aload_n 0, 1) (pgm 0 rfl)) rfl rfl ?_
  refine so_iconst (v := (0 : Int32)) X (dkX12_owes (1, .iconst 0, 1) (pgm 1 rfl)) ic_0 ?_
  refine sf_putI X ff_12_5 ft_12 rfl lk_1707 hk rfl rfl (dkX12_owes (2, .putfield 92, 3) (pgm 2 rfl)) (fun h1 => ?_)
  refine so_iload_n (i := 1) X 1 (dkX12_owes (5, .iload_n 1, 1) (pgm 3 rfl)) rfl rfl ?_
  refine so_callS (n := 1) (As := [.int a1]) X (ct_X12_isBody l a1 h1 ) lk_2103 lk_2104 lk_134 lk_2105 (by decide +kernel) rfl rfl rfl (rm_ok (by omega) (by decide)) ⟨Nat.zero_le _, Nat.zero_le _⟩ (Nat.le_of_ble_eq_true rfl) (dkX12_owes (6, .invokestatic 360, 3) (pgm 4 rfl)) (fun r2 h3 => ?_) rfl
  refine so_join (jf := fun (t4 : Int32) (h5 : PH) => some (t4, h5)) (fun (j : Int32 → PH → Option (Int32 × PH)) => ∀ (t4 : Int32) (h5 : PH), SWo (QM mkI below args s D cA ad A) p l e (rmd 2) s m args below meth c 0 0 2 D cA ad A 29 [] [.int t4] h5 (j t4 h5)) ?_ (fun j29 hj29 => ?_)
  · intro t4 h5
    exact so_iret X hr hlk (dkX12_owes (29, .ireturn, 1) (pgm 16 rfl))
  refine so_if_eq (tgt := 24) X (dkX12_owes (9, .ifCond .eq 15, 3) (pgm 5 rfl)) rfl (fun _ => ?_) (fun _ => ?_)
  · refine so_aload_n (i := 0) X 0 (dkX12_owes (24, .aload_n 0, 1) (pgm 13 rfl)) rfl rfl ?_
    refine so_iconst (v := (1 : Int32)) X (dkX12_owes (25, .iconst 1, 1) (pgm 14 rfl)) ic_1 ?_
    refine so_callV (n := 1) (As := [.int (1 : Int32)]) X (ct_X12_fails l this (1 : Int32) h3 hk) hk (by decide) rfl lk_1835 lk_1837 lk_61 lk_134 lk_1838 (by decide +kernel) rfl rfl rfl (rm_ok (by omega) (by decide)) ⟨Nat.zero_le _, Nat.zero_le _⟩ (Nat.le_of_ble_eq_true rfl) (dkX12_owes (26, .invokevirtual 233, 3) (pgm 15 rfl)) (fun r6 h7 => ?_) rfl
    exact so_pick X [] rfl (hj29 r6 h7)
  · refine so_aload_n (i := 0) X 0 (dkX12_owes (12, .aload_n 0, 1) (pgm 6 rfl)) rfl rfl ?_
    refine sf_getR X ff_12_0 lk_1702 hk (dkX12_owes (13, .getfield 9, 3) (pgm 7 rfl)) ?_
    refine so_bipush (v := (18 : Int32)) X (dkX12_owes (16, .bipush 18, 2) (pgm 8 rfl)) bp_18 ?_
    refine so_iload_n (i := 1) X 1 (dkX12_owes (18, .iload_n 1, 1) (pgm 9 rfl)) rfl rfl ?_
    refine so_iadd X (dkX12_owes (19, .iadd, 1) (pgm 10 rfl)) ?_
    refine so_iald X (rk_12_0 this hk) (dkX12_owes (20, .iaload, 1) (pgm 11 rfl)) (fun x8 => ?_)
    refine so_goto (tgt := 29) X (dkX12_owes (21, .goto 8, 3) (pgm 12 rfl)) rfl ?_
    exact so_pick X [] rfl (hj29 x8 h3)
def pgX12_withdraw : List (Nat × Instr × Nat) := [(0, .aload_n 0, 1), (1, .aload_n 0, 1), (2, .iload_n 1, 1), (3, .invokevirtual 322, 3), (6, .putfield 92, 3), (9, .aload_n 0, 1), (10, .getfield 92, 3), (13, .ifCond .le 5, 3), (16, .iconst 0, 1), (17, .ireturn, 1), (18, .aload_n 0, 1), (19, .invokevirtual 423, 3), (22, .aload_n 0, 1), (23, .getfield 9, 3), (26, .bipush 7, 2), (28, .dup2, 1), (29, .iaload, 1), (30, .iconst 1, 1), (31, .iload_n 1, 1), (32, .ishl, 1), (33, .iconst (-1), 1), (34, .ixor, 1), (35, .iand, 1), (36, .iastore, 1), (37, .aload_n 0, 1), (38, .getfield 9, 3), (41, .bipush 7, 2), (43, .iaload, 1), (44, .invokestatic 269, 3), (47, .ireturn, 1)]
theorem dkX12_withdraw : ∀ q ∈ pgX12_withdraw, decode cX12_withdraw q.1 = .ok q.2 := by decide +kernel
def f_X12_withdraw (this : Nat) (a1 : Int32) (h0 : PH) : Option (Int32 × PH) :=
  cb (f_X12_openFault this a1 h0) (fun (r1 : Int32) (h2 : PH) => lt (pI h2 this 5 r1) (fun (h3 : PH) => if (h3.1 this 5) ≤ 0 then (cb (f_X12_keeps this h3) (fun (r4 : Unit) (h5 : PH) => ldI h5 (rt this 0) 1200 (7 : Int32) (fun (x6 : Int32) => stI h5 (rt this 0) 1200 (7 : Int32) (x6 &&& (((1 : Int32) <<< (a1 &&& 31)) ^^^ (-1 : Int32))) (fun (h7 : PH) => ldI h7 (rt this 0) 1200 (7 : Int32) (fun (x8 : Int32) => cb (f_X12_size x8 h7) (fun (r9 : Int32) (h10 : PH) => some (r9, h10))))))) else (some ((0 : Int32), h3))))
set_option maxRecDepth 100000 in
set_option maxHeartbeats 4000000 in
theorem ct_X12_withdraw (l : Launch) (this : Nat) (a1 : Int32) (h0 : PH) (hk : (kd this).1 = 12) : CT mkI l yX12_withdraw cX12_withdraw 2 (some .int) (rmd 3) [.ref this, .int a1] h0 (f_X12_withdraw this a1 h0) := by
  refine ct_of (by decide) (Nat.le_of_ble_eq_true rfl) ?_
  intro p e s m args below meth c D cA ad A X hr hlk
  have X : Cx p s m args c RX12 cX12_withdraw 2 D cA ad A := X
  unfold f_X12_withdraw
  refine so_pick (L' := [(0, .ref this), (1, .int a1)]) X [0, 1] rfl ?_
  refine so_aload_n (i := 0) X 0 (dkX12_withdraw (0, .aload_n 0, 1) (pgm 0 rfl)) rfl rfl ?_
  refine so_aload_n (i := 0) X 0 (dkX12_withdraw (1, .aload_n 0, 1) (pgm 1 rfl)) rfl rfl ?_
  refine so_iload_n (i := 1) X 1 (dkX12_withdraw (2, .iload_n 1, 1) (pgm 2 rfl)) rfl rfl ?_
  refine so_callV (n := 1) (As := [.int a1]) X (ct_X12_openFault l this a1 h0 hk) hk (by decide) rfl lk_2026 lk_2028 lk_92 lk_134 lk_2029 (by decide +kernel) rfl rfl rfl (rm_ok (by omega) (by decide)) ⟨Nat.zero_le _, Nat.zero_le _⟩ (Nat.le_of_ble_eq_true rfl) (dkX12_withdraw (3, .invokevirtual 322, 3) (pgm 3 rfl)) (fun r1 h2 => ?_) rfl
  refine sf_putI X ff_12_5 ft_12 rfl lk_1707 hk rfl rfl (dkX12_withdraw (6, .putfield 92, 3) (pgm 4 rfl)) (fun h3 => ?_)
  refine so_aload_n (i := 0) X 0 (dkX12_withdraw (9, .aload_n 0, 1) (pgm 5 rfl)) rfl rfl ?_
  refine sf_getI X ff_12_5 lk_1707 hk (dkX12_withdraw (10, .getfield 92, 3) (pgm 6 rfl)) ?_
  refine so_if_le (tgt := 18) X (dkX12_withdraw (13, .ifCond .le 5, 3) (pgm 7 rfl)) rfl (fun _ => ?_) (fun _ => ?_)
  · refine so_aload_n (i := 0) X 0 (dkX12_withdraw (18, .aload_n 0, 1) (pgm 10 rfl)) rfl rfl ?_
    refine so_callV (n := 0) (As := []) X (ct_X12_keeps l this h3 hk) hk (by decide) rfl lk_2187 lk_2189 lk_113 lk_134 lk_2190 (by decide +kernel) rfl rfl rfl (rm_ok (by omega) (by decide)) ⟨Nat.zero_le _, Nat.zero_le _⟩ (Nat.le_of_ble_eq_true rfl) (dkX12_withdraw (19, .invokevirtual 423, 3) (pgm 11 rfl)) (fun r4 h5 => ?_) rfl
    refine so_aload_n (i := 0) X 0 (dkX12_withdraw (22, .aload_n 0, 1) (pgm 12 rfl)) rfl rfl ?_
    refine sf_getR X ff_12_0 lk_1702 hk (dkX12_withdraw (23, .getfield 9, 3) (pgm 13 rfl)) ?_
    refine so_bipush (v := (7 : Int32)) X (dkX12_withdraw (26, .bipush 7, 2) (pgm 14 rfl)) bp_7 ?_
    refine so_dup2 X (dkX12_withdraw (28, .dup2, 1) (pgm 15 rfl)) rfl rfl ?_
    refine so_iald X (rk_12_0 this hk) (dkX12_withdraw (29, .iaload, 1) (pgm 16 rfl)) (fun x6 => ?_)
    refine so_iconst (v := (1 : Int32)) X (dkX12_withdraw (30, .iconst 1, 1) (pgm 17 rfl)) ic_1 ?_
    refine so_iload_n (i := 1) X 1 (dkX12_withdraw (31, .iload_n 1, 1) (pgm 18 rfl)) rfl rfl ?_
    refine so_ishl X (dkX12_withdraw (32, .ishl, 1) (pgm 19 rfl)) ?_
    refine so_iconst (v := (-1 : Int32)) X (dkX12_withdraw (33, .iconst (-1), 1) (pgm 20 rfl)) ic_m1 ?_
    refine so_ixor X (dkX12_withdraw (34, .ixor, 1) (pgm 21 rfl)) ?_
    refine so_iand X (dkX12_withdraw (35, .iand, 1) (pgm 22 rfl)) ?_
    refine so_iast X (rk_12_0 this hk) (dkX12_withdraw (36, .iastore, 1) (pgm 23 rfl)) (fun h7 => ?_)
    refine so_aload_n (i := 0) X 0 (dkX12_withdraw (37, .aload_n 0, 1) (pgm 24 rfl)) rfl rfl ?_
    refine sf_getR X ff_12_0 lk_1702 hk (dkX12_withdraw (38, .getfield 9, 3) (pgm 25 rfl)) ?_
    refine so_bipush (v := (7 : Int32)) X (dkX12_withdraw (41, .bipush 7, 2) (pgm 26 rfl)) bp_7 ?_
    refine so_iald X (rk_12_0 this hk) (dkX12_withdraw (43, .iaload, 1) (pgm 27 rfl)) (fun x8 => ?_)
    refine so_callS (n := 1) (As := [.int x8]) X (ct_X12_size l x8 h7 ) lk_1687 lk_1688 lk_134 lk_1689 (by decide +kernel) rfl rfl rfl (rm_ok (by omega) (by decide)) ⟨Nat.zero_le _, Nat.zero_le _⟩ (Nat.le_of_ble_eq_true rfl) (dkX12_withdraw (44, .invokestatic 269, 3) (pgm 28 rfl)) (fun r9 h10 => ?_) rfl
    exact so_iret X hr hlk (dkX12_withdraw (47, .ireturn, 1) (pgm 29 rfl))
  · refine so_iconst (v := (0 : Int32)) X (dkX12_withdraw (16, .iconst 0, 1) (pgm 8 rfl)) ic_0 ?_
    exact so_iret X hr hlk (dkX12_withdraw (17, .ireturn, 1) (pgm 9 rfl))
def pgX12_again : List (Nat × Instr × Nat) := [(0, .aload_n 0, 1), (1, .aload_n 0, 1), (2, .iload_n 1, 1), (3, .invokevirtual 305, 3), (6, .ifCond .ne 7, 3), (9, .iconst 1, 1), (10, .goto 16, 3), (13, .aload_n 0, 1), (14, .iload_n 1, 1), (15, .invokevirtual 289, 3), (18, .ifCond .eq 7, 3), (21, .iconst 2, 1), (22, .goto 4, 3), (25, .iconst 0, 1), (26, .putfield 92, 3), (29, .aload_n 0, 1), (30, .getfield 92, 3), (33, .ifCond .le 5, 3), (36, .iconst 0, 1), (37, .ireturn, 1), (38, .aload_n 0, 1), (39, .invokevirtual 423, 3), (42, .aload_n 0, 1), (43, .getfield 9, 3), (46, .bipush 7, 2), (48, .dup2, 1), (49, .iaload, 1), (50, .iconst 1, 1), (51, .iload_n 1, 1), (52, .ishl, 1), (53, .ior, 1), (54, .iastore, 1), (55, .aload_n 0, 1), (56, .getfield 9, 3), (59, .bipush 8, 2), (61, .iload_n 1, 1), (62, .iadd, 1), (63, .iconst 0, 1), (64, .iastore, 1), (65, .aload_n 0, 1), (66, .getfield 9, 3), (69, .bipush 7, 2), (71, .iaload, 1), (72, .invokestatic 269, 3), (75, .ireturn, 1)]
theorem dkX12_again : ∀ q ∈ pgX12_again, decode cX12_again q.1 = .ok q.2 := by decide +kernel
def f_X12_again (this : Nat) (a1 : Int32) (h0 : PH) : Option (Int32 × PH) :=
  cb (f_X12_isWish this a1 h0) (fun (r1 : Int32) (h2 : PH) => lt (fun (t3 : Int32) (h4 : PH) => lt (pI h4 this 5 t3) (fun (h5 : PH) => if (h5.1 this 5) ≤ 0 then (cb (f_X12_keeps this h5) (fun (r6 : Unit) (h7 : PH) => ldI h7 (rt this 0) 1200 (7 : Int32) (fun (x8 : Int32) => stI h7 (rt this 0) 1200 (7 : Int32) (x8 ||| ((1 : Int32) <<< (a1 &&& 31))) (fun (h9 : PH) => stI h9 (rt this 0) 1200 ((8 : Int32) + a1) (0 : Int32) (fun (h10 : PH) => ldI h10 (rt this 0) 1200 (7 : Int32) (fun (x11 : Int32) => cb (f_X12_size x11 h10) (fun (r12 : Int32) (h13 : PH) => some (r12, h13)))))))) else (some ((0 : Int32), h5)))) (fun (j26 : Int32 → PH → Option (Int32 × PH)) => if r1 = 0 then (j26 (1 : Int32) h2) else (cb (f_X12_isOpen this a1 h2) (fun (r14 : Int32) (h15 : PH) => if r14 = 0 then (j26 (0 : Int32) h15) else (j26 (2 : Int32) h15)))))
set_option maxRecDepth 100000 in
set_option maxHeartbeats 4000000 in
theorem ct_X12_again (l : Launch) (this : Nat) (a1 : Int32) (h0 : PH) (hk : (kd this).1 = 12) : CT mkI l yX12_again cX12_again 2 (some .int) (rmd 2) [.ref this, .int a1] h0 (f_X12_again this a1 h0) := by
  refine ct_of (by decide) (Nat.le_of_ble_eq_true rfl) ?_
  intro p e s m args below meth c D cA ad A X hr hlk
  have X : Cx p s m args c RX12 cX12_again 2 D cA ad A := X
  unfold f_X12_again
  refine so_pick (L' := [(0, .ref this), (1, .int a1)]) X [0, 1] rfl ?_
  refine so_aload_n (i := 0) X 0 (dkX12_again (0, .aload_n 0, 1) (pgm 0 rfl)) rfl rfl ?_
  refine so_aload_n (i := 0) X 0 (dkX12_again (1, .aload_n 0, 1) (pgm 1 rfl)) rfl rfl ?_
  refine so_iload_n (i := 1) X 1 (dkX12_again (2, .iload_n 1, 1) (pgm 2 rfl)) rfl rfl ?_
  refine so_callV (n := 1) (As := [.int a1]) X (ct_X12_isWish l this a1 h0 hk) hk (by decide) rfl lk_1953 lk_1955 lk_82 lk_134 lk_1956 (by decide +kernel) rfl rfl rfl (rm_ok (by omega) (by decide)) ⟨Nat.zero_le _, Nat.zero_le _⟩ (Nat.le_of_ble_eq_true rfl) (dkX12_again (3, .invokevirtual 305, 3) (pgm 3 rfl)) (fun r1 h2 => ?_) rfl
  refine so_join (jf := fun (t3 : Int32) (h4 : PH) => lt (pI h4 this 5 t3) (fun (h5 : PH) => if (h5.1 this 5) ≤ 0 then (cb (f_X12_keeps this h5) (fun (r6 : Unit) (h7 : PH) => ldI h7 (rt this 0) 1200 (7 : Int32) (fun (x8 : Int32) => stI h7 (rt this 0) 1200 (7 : Int32) (x8 ||| ((1 : Int32) <<< (a1 &&& 31))) (fun (h9 : PH) => stI h9 (rt this 0) 1200 ((8 : Int32) + a1) (0 : Int32) (fun (h10 : PH) => ldI h10 (rt this 0) 1200 (7 : Int32) (fun (x11 : Int32) => cb (f_X12_size x11 h10) (fun (r12 : Int32) (h13 : PH) => some (r12, h13)))))))) else (some ((0 : Int32), h5)))) (fun (j : Int32 → PH → Option (Int32 × PH)) => ∀ (t3 : Int32) (h4 : PH), SWo (QM mkI below args s D cA ad A) p l e (rmd 2) s m args below meth c 0 0 2 D cA ad A 26 [(0, .ref this), (1, .int a1)] [.int t3, .ref this] h4 (j t3 h4)) ?_ (fun j26 hj26 => ?_)
  · intro t3 h4
    refine sf_putI X ff_12_5 ft_12 rfl lk_1707 hk rfl rfl (dkX12_again (26, .putfield 92, 3) (pgm 14 rfl)) (fun h5 => ?_)
    refine so_aload_n (i := 0) X 0 (dkX12_again (29, .aload_n 0, 1) (pgm 15 rfl)) rfl rfl ?_
    refine sf_getI X ff_12_5 lk_1707 hk (dkX12_again (30, .getfield 92, 3) (pgm 16 rfl)) ?_
    refine so_if_le (tgt := 38) X (dkX12_again (33, .ifCond .le 5, 3) (pgm 17 rfl)) rfl (fun _ => ?_) (fun _ => ?_)
    · refine so_aload_n (i := 0) X 0 (dkX12_again (38, .aload_n 0, 1) (pgm 20 rfl)) rfl rfl ?_
      refine so_callV (n := 0) (As := []) X (ct_X12_keeps l this h5 hk) hk (by decide) rfl lk_2187 lk_2189 lk_113 lk_134 lk_2190 (by decide +kernel) rfl rfl rfl (rm_ok (by omega) (by decide)) ⟨Nat.zero_le _, Nat.zero_le _⟩ (Nat.le_of_ble_eq_true rfl) (dkX12_again (39, .invokevirtual 423, 3) (pgm 21 rfl)) (fun r6 h7 => ?_) rfl
      refine so_aload_n (i := 0) X 0 (dkX12_again (42, .aload_n 0, 1) (pgm 22 rfl)) rfl rfl ?_
      refine sf_getR X ff_12_0 lk_1702 hk (dkX12_again (43, .getfield 9, 3) (pgm 23 rfl)) ?_
      refine so_bipush (v := (7 : Int32)) X (dkX12_again (46, .bipush 7, 2) (pgm 24 rfl)) bp_7 ?_
      refine so_dup2 X (dkX12_again (48, .dup2, 1) (pgm 25 rfl)) rfl rfl ?_
      refine so_iald X (rk_12_0 this hk) (dkX12_again (49, .iaload, 1) (pgm 26 rfl)) (fun x8 => ?_)
      refine so_iconst (v := (1 : Int32)) X (dkX12_again (50, .iconst 1, 1) (pgm 27 rfl)) ic_1 ?_
      refine so_iload_n (i := 1) X 1 (dkX12_again (51, .iload_n 1, 1) (pgm 28 rfl)) rfl rfl ?_
      refine so_ishl X (dkX12_again (52, .ishl, 1) (pgm 29 rfl)) ?_
      refine so_ior X (dkX12_again (53, .ior, 1) (pgm 30 rfl)) ?_
      refine so_iast X (rk_12_0 this hk) (dkX12_again (54, .iastore, 1) (pgm 31 rfl)) (fun h9 => ?_)
      refine so_aload_n (i := 0) X 0 (dkX12_again (55, .aload_n 0, 1) (pgm 32 rfl)) rfl rfl ?_
      refine sf_getR X ff_12_0 lk_1702 hk (dkX12_again (56, .getfield 9, 3) (pgm 33 rfl)) ?_
      refine so_bipush (v := (8 : Int32)) X (dkX12_again (59, .bipush 8, 2) (pgm 34 rfl)) bp_8 ?_
      refine so_iload_n (i := 1) X 1 (dkX12_again (61, .iload_n 1, 1) (pgm 35 rfl)) rfl rfl ?_
      refine so_iadd X (dkX12_again (62, .iadd, 1) (pgm 36 rfl)) ?_
      refine so_iconst (v := (0 : Int32)) X (dkX12_again (63, .iconst 0, 1) (pgm 37 rfl)) ic_0 ?_
      refine so_iast X (rk_12_0 this hk) (dkX12_again (64, .iastore, 1) (pgm 38 rfl)) (fun h10 => ?_)
      refine so_aload_n (i := 0) X 0 (dkX12_again (65, .aload_n 0, 1) (pgm 39 rfl)) rfl rfl ?_
      refine sf_getR X ff_12_0 lk_1702 hk (dkX12_again (66, .getfield 9, 3) (pgm 40 rfl)) ?_
      refine so_bipush (v := (7 : Int32)) X (dkX12_again (69, .bipush 7, 2) (pgm 41 rfl)) bp_7 ?_
      refine so_iald X (rk_12_0 this hk) (dkX12_again (71, .iaload, 1) (pgm 42 rfl)) (fun x11 => ?_)
      refine so_callS (n := 1) (As := [.int x11]) X (ct_X12_size l x11 h10 ) lk_1687 lk_1688 lk_134 lk_1689 (by decide +kernel) rfl rfl rfl (rm_ok (by omega) (by decide)) ⟨Nat.zero_le _, Nat.zero_le _⟩ (Nat.le_of_ble_eq_true rfl) (dkX12_again (72, .invokestatic 269, 3) (pgm 43 rfl)) (fun r12 h13 => ?_) rfl
      exact so_iret X hr hlk (dkX12_again (75, .ireturn, 1) (pgm 44 rfl))
    · refine so_iconst (v := (0 : Int32)) X (dkX12_again (36, .iconst 0, 1) (pgm 18 rfl)) ic_0 ?_
      exact so_iret X hr hlk (dkX12_again (37, .ireturn, 1) (pgm 19 rfl))
  refine so_if_ne (tgt := 13) X (dkX12_again (6, .ifCond .ne 7, 3) (pgm 4 rfl)) rfl (fun _ => ?_) (fun _ => ?_)
  · refine so_aload_n (i := 0) X 0 (dkX12_again (13, .aload_n 0, 1) (pgm 7 rfl)) rfl rfl ?_
    refine so_iload_n (i := 1) X 1 (dkX12_again (14, .iload_n 1, 1) (pgm 8 rfl)) rfl rfl ?_
    refine so_callV (n := 1) (As := [.int a1]) X (ct_X12_isOpen l this a1 h2 hk) hk (by decide) rfl lk_1962 lk_1964 lk_84 lk_134 lk_1965 (by decide +kernel) rfl rfl rfl (rm_ok (by omega) (by decide)) ⟨Nat.zero_le _, Nat.zero_le _⟩ (Nat.le_of_ble_eq_true rfl) (dkX12_again (15, .invokevirtual 289, 3) (pgm 9 rfl)) (fun r14 h15 => ?_) rfl
    refine so_if_eq (tgt := 25) X (dkX12_again (18, .ifCond .eq 7, 3) (pgm 10 rfl)) rfl (fun _ => ?_) (fun _ => ?_)
    · refine so_iconst (v := (0 : Int32)) X (dkX12_again (25, .iconst 0, 1) (pgm 13 rfl)) ic_0 ?_
      exact so_pick X [0, 1] rfl (hj26 (0 : Int32) h15)
    · refine so_iconst (v := (2 : Int32)) X (dkX12_again (21, .iconst 2, 1) (pgm 11 rfl)) ic_2 ?_
      refine so_goto (tgt := 26) X (dkX12_again (22, .goto 4, 3) (pgm 12 rfl)) rfl ?_
      exact so_pick X [0, 1] rfl (hj26 (2 : Int32) h15)
  · refine so_iconst (v := (1 : Int32)) X (dkX12_again (9, .iconst 1, 1) (pgm 5 rfl)) ic_1 ?_
    refine so_goto (tgt := 26) X (dkX12_again (10, .goto 16, 3) (pgm 6 rfl)) rfl ?_
    exact so_pick X [0, 1] rfl (hj26 (1 : Int32) h2)
def pgX12_undo : List (Nat × Instr × Nat) := [(0, .aload_n 0, 1), (1, .iconst 0, 1), (2, .putfield 92, 3), (5, .iload_n 1, 1), (6, .i2l, 1), (7, .lconst 1, 1), (8, .ldc2_w 388, 3), (11, .invokestatic 156, 3), (14, .ifCond .eq 14, 3), (17, .iload_n 1, 1), (18, .aload_n 0, 1), (19, .getfield 9, 3), (22, .bipush 6, 2), (24, .iaload, 1), (25, .if_icmp .le 9, 3), (28, .aload_n 0, 1), (29, .iconst 1, 1), (30, .invokevirtual 233, 3), (33, .ireturn, 1), (34, .aload_n 0, 1), (35, .getfield 9, 3), (38, .bipush 6, 2), (40, .dup2, 1), (41, .iaload, 1), (42, .iload_n 1, 1), (43, .isub, 1), (44, .iastore, 1), (45, .iconst 0, 1), (46, .istore_n 2, 1), (47, .iload_n 2, 1), (48, .bipush 17, 2), (50, .if_icmp .ge 38, 3), (53, .aload_n 0, 1), (54, .getfield 9, 3), (57, .bipush 7, 2), (59, .iload_n 2, 1), (60, .iadd, 1), (61, .aload_n 0, 1), (62, .getfield 9, 3), (65, .bipush 66, 2), (67, .bipush 17, 2), (69, .aload_n 0, 1), (70, .getfield 9, 3), (73, .bipush 6, 2), (75, .iaload, 1), (76, .imul, 1), (77, .iadd, 1), (78, .iload_n 2, 1), (79, .iadd, 1), (80, .iaload, 1), (81, .iastore, 1), (82, .iinc 2 1, 3), (85, .goto (-38), 3), (88, .aload_n 0, 1), (89, .getfield 9, 3), (92, .bipush 6, 2), (94, .iaload, 1), (95, .ireturn, 1)]
theorem dkX12_undo : ∀ q ∈ pgX12_undo, decode cX12_undo q.1 = .ok q.2 := by decide +kernel
def b_X12_undo_47 (this : Nat) (rec47 : (Int32) → PH → Option (Int32 × PH)) (s47 : Int32) (hh47 : PH) : Option (Int32 × PH) :=
  if (17 : Int32) ≤ s47 then (ldI hh47 (rt this 0) 1200 (6 : Int32) (fun (x11 : Int32) => some (x11, hh47))) else (ldI hh47 (rt this 0) 1200 (6 : Int32) (fun (x12 : Int32) => ldI hh47 (rt this 0) 1200 (((66 : Int32) + ((17 : Int32) * x12)) + s47) (fun (x13 : Int32) => stI hh47 (rt this 0) 1200 ((7 : Int32) + s47) x13 (fun (h14 : PH) => lt (s47 + Int32.ofInt 1) (fun (x15 : Int32) => rec47 x15 h14)))))
def f_X12_undo (this : Nat) (a1 : Int32) (h0 : PH) : Option (Int32 × PH) :=
  lt (pI h0 this 5 (0 : Int32)) (fun (h1 : PH) => cb (f_X12_within a1.toInt64 (1 : Int64) (10 : Int64) h1) (fun (r2 : Int32) (h3 : PH) => lt (fun (h4 : PH) => cb (f_X12_fails this (1 : Int32) h4) (fun (r5 : Int32) (h6 : PH) => some (r5, h6))) (fun (j28 : PH → Option (Int32 × PH)) => if r2 = 0 then (j28 h3) else (ldI h3 (rt this 0) 1200 (6 : Int32) (fun (x7 : Int32) => if a1 ≤ x7 then (ldI h3 (rt this 0) 1200 (6 : Int32) (fun (x8 : Int32) => stI h3 (rt this 0) 1200 (6 : Int32) (x8 - a1) (fun (h9 : PH) => lt (0 : Int32) (fun (x10 : Int32) => lp (b_X12_undo_47 this) FU x10 h9)))) else (j28 h3))))))
set_option maxRecDepth 100000 in
set_option maxHeartbeats 4000000 in
theorem ct_X12_undo (l : Launch) (this : Nat) (a1 : Int32) (h0 : PH) (hk : (kd this).1 = 12) : CT mkI l yX12_undo cX12_undo 3 (some .int) (rmd 1) [.ref this, .int a1] h0 (f_X12_undo this a1 h0) := by
  refine ct_of (by decide) (Nat.le_of_ble_eq_true rfl) ?_
  intro p e s m args below meth c D cA ad A X hr hlk
  have X : Cx p s m args c RX12 cX12_undo 3 D cA ad A := X
  unfold f_X12_undo
  refine so_pick (L' := [(0, .ref this), (1, .int a1)]) X [0, 1] rfl ?_
  refine so_aload_n (i := 0) X 0 (dkX12_undo (0, .aload_n 0, 1) (pgm 0 rfl)) rfl rfl ?_
  refine so_iconst (v := (0 : Int32)) X (dkX12_undo (1, .iconst 0, 1) (pgm 1 rfl)) ic_0 ?_
  refine sf_putI X ff_12_5 ft_12 rfl lk_1707 hk rfl rfl (dkX12_undo (2, .putfield 92, 3) (pgm 2 rfl)) (fun h1 => ?_)
  refine so_iload_n (i := 1) X 1 (dkX12_undo (5, .iload_n 1, 1) (pgm 3 rfl)) rfl rfl ?_
  refine so_i2l X (dkX12_undo (6, .i2l, 1) (pgm 4 rfl)) ?_
  refine so_lconst (v := (1 : Int64)) X (dkX12_undo (7, .lconst 1, 1) (pgm 5 rfl)) lc_1 ?_
  refine so_ldc2 X lk_2137 (dkX12_undo (8, .ldc2_w 388, 3) (pgm 6 rfl)) ?_
  refine so_callS (n := 3) (As := [.long a1.toInt64, .long (1 : Int64), .long (10 : Int64)]) X (ct_X12_within l a1.toInt64 (1 : Int64) (10 : Int64) h1 ) lk_1832 lk_1833 lk_134 lk_1834 (by decide +kernel) rfl rfl rfl (rm_ok (by omega) (by decide)) ⟨Nat.zero_le _, Nat.zero_le _⟩ (Nat.le_of_ble_eq_true rfl) (dkX12_undo (11, .invokestatic 156, 3) (pgm 7 rfl)) (fun r2 h3 => ?_) rfl
  refine so_join (jf := fun (h4 : PH) => cb (f_X12_fails this (1 : Int32) h4) (fun (r5 : Int32) (h6 : PH) => some (r5, h6))) (fun (j : PH → Option (Int32 × PH)) => ∀  (h4 : PH), SWo (QM mkI below args s D cA ad A) p l e (rmd 1) s m args below meth c 0 0 3 D cA ad A 28 [(0, .ref this)] [] h4 (j h4)) ?_ (fun j28 hj28 => ?_)
  · intro h4
    refine so_aload_n (i := 0) X 0 (dkX12_undo (28, .aload_n 0, 1) (pgm 15 rfl)) rfl rfl ?_
    refine so_iconst (v := (1 : Int32)) X (dkX12_undo (29, .iconst 1, 1) (pgm 16 rfl)) ic_1 ?_
    refine so_callV (n := 1) (As := [.int (1 : Int32)]) X (ct_X12_fails l this (1 : Int32) h4 hk) hk (by decide) rfl lk_1835 lk_1837 lk_61 lk_134 lk_1838 (by decide +kernel) rfl rfl rfl (rm_ok (by omega) (by decide)) ⟨Nat.zero_le _, Nat.zero_le _⟩ (Nat.le_of_ble_eq_true rfl) (dkX12_undo (30, .invokevirtual 233, 3) (pgm 17 rfl)) (fun r5 h6 => ?_) rfl
    exact so_iret X hr hlk (dkX12_undo (33, .ireturn, 1) (pgm 18 rfl))
  refine so_if_eq (tgt := 28) X (dkX12_undo (14, .ifCond .eq 14, 3) (pgm 8 rfl)) rfl (fun _ => ?_) (fun _ => ?_)
  · exact so_pick X [0] rfl (hj28 h3)
  · refine so_iload_n (i := 1) X 1 (dkX12_undo (17, .iload_n 1, 1) (pgm 9 rfl)) rfl rfl ?_
    refine so_aload_n (i := 0) X 0 (dkX12_undo (18, .aload_n 0, 1) (pgm 10 rfl)) rfl rfl ?_
    refine sf_getR X ff_12_0 lk_1702 hk (dkX12_undo (19, .getfield 9, 3) (pgm 11 rfl)) ?_
    refine so_bipush (v := (6 : Int32)) X (dkX12_undo (22, .bipush 6, 2) (pgm 12 rfl)) bp_6 ?_
    refine so_iald X (rk_12_0 this hk) (dkX12_undo (24, .iaload, 1) (pgm 13 rfl)) (fun x7 => ?_)
    refine so_icmp_le (tgt := 34) X (dkX12_undo (25, .if_icmp .le 9, 3) (pgm 14 rfl)) rfl (fun _ => ?_) (fun _ => ?_)
    · refine so_aload_n (i := 0) X 0 (dkX12_undo (34, .aload_n 0, 1) (pgm 19 rfl)) rfl rfl ?_
      refine sf_getR X ff_12_0 lk_1702 hk (dkX12_undo (35, .getfield 9, 3) (pgm 20 rfl)) ?_
      refine so_bipush (v := (6 : Int32)) X (dkX12_undo (38, .bipush 6, 2) (pgm 21 rfl)) bp_6 ?_
      refine so_dup2 X (dkX12_undo (40, .dup2, 1) (pgm 22 rfl)) rfl rfl ?_
      refine so_iald X (rk_12_0 this hk) (dkX12_undo (41, .iaload, 1) (pgm 23 rfl)) (fun x8 => ?_)
      refine so_iload_n (i := 1) X 1 (dkX12_undo (42, .iload_n 1, 1) (pgm 24 rfl)) rfl rfl ?_
      refine so_isub X (dkX12_undo (43, .isub, 1) (pgm 25 rfl)) ?_
      refine so_iast X (rk_12_0 this hk) (dkX12_undo (44, .iastore, 1) (pgm 26 rfl)) (fun h9 => ?_)
      refine so_iconst (v := (0 : Int32)) X (dkX12_undo (45, .iconst 0, 1) (pgm 27 rfl)) ic_0 ?_
      refine so_istore_n (i := 2) X (dkX12_undo (46, .istore_n 2, 1) (pgm 28 rfl)) rfl (by decide) (Lf := fun x10 => [(2, .int x10), (0, .ref this), (1, .int a1)]) (fun _ => rfl) (fun x10 => ?_)
      refine so_pick (L' := [(0, .ref this), (2, .int x10)]) X [1, 0] rfl ?_
      refine so_loop (body := b_X12_undo_47 this) (fun (s47 : Int32) => [(0, .ref this), (2, .int s47)]) (fun rec47 hrec47 s47 hh47 => ?_) FU x10 h9
      unfold b_X12_undo_47
      refine so_iload_n (i := 2) X 1 (dkX12_undo (47, .iload_n 2, 1) (pgm 29 rfl)) rfl rfl ?_
      refine so_bipush (v := (17 : Int32)) X (dkX12_undo (48, .bipush 17, 2) (pgm 30 rfl)) bp_17 ?_
      refine so_icmp_ge (tgt := 88) X (dkX12_undo (50, .if_icmp .ge 38, 3) (pgm 31 rfl)) rfl (fun _ => ?_) (fun _ => ?_)
      · refine so_aload_n (i := 0) X 0 (dkX12_undo (88, .aload_n 0, 1) (pgm 53 rfl)) rfl rfl ?_
        refine sf_getR X ff_12_0 lk_1702 hk (dkX12_undo (89, .getfield 9, 3) (pgm 54 rfl)) ?_
        refine so_bipush (v := (6 : Int32)) X (dkX12_undo (92, .bipush 6, 2) (pgm 55 rfl)) bp_6 ?_
        refine so_iald X (rk_12_0 this hk) (dkX12_undo (94, .iaload, 1) (pgm 56 rfl)) (fun x11 => ?_)
        exact so_iret X hr hlk (dkX12_undo (95, .ireturn, 1) (pgm 57 rfl))
      · refine so_aload_n (i := 0) X 0 (dkX12_undo (53, .aload_n 0, 1) (pgm 32 rfl)) rfl rfl ?_
        refine sf_getR X ff_12_0 lk_1702 hk (dkX12_undo (54, .getfield 9, 3) (pgm 33 rfl)) ?_
        refine so_bipush (v := (7 : Int32)) X (dkX12_undo (57, .bipush 7, 2) (pgm 34 rfl)) bp_7 ?_
        refine so_iload_n (i := 2) X 1 (dkX12_undo (59, .iload_n 2, 1) (pgm 35 rfl)) rfl rfl ?_
        refine so_iadd X (dkX12_undo (60, .iadd, 1) (pgm 36 rfl)) ?_
        refine so_aload_n (i := 0) X 0 (dkX12_undo (61, .aload_n 0, 1) (pgm 37 rfl)) rfl rfl ?_
        refine sf_getR X ff_12_0 lk_1702 hk (dkX12_undo (62, .getfield 9, 3) (pgm 38 rfl)) ?_
        refine so_bipush (v := (66 : Int32)) X (dkX12_undo (65, .bipush 66, 2) (pgm 39 rfl)) bp_66 ?_
        refine so_bipush (v := (17 : Int32)) X (dkX12_undo (67, .bipush 17, 2) (pgm 40 rfl)) bp_17 ?_
        refine so_aload_n (i := 0) X 0 (dkX12_undo (69, .aload_n 0, 1) (pgm 41 rfl)) rfl rfl ?_
        refine sf_getR X ff_12_0 lk_1702 hk (dkX12_undo (70, .getfield 9, 3) (pgm 42 rfl)) ?_
        refine so_bipush (v := (6 : Int32)) X (dkX12_undo (73, .bipush 6, 2) (pgm 43 rfl)) bp_6 ?_
        refine so_iald X (rk_12_0 this hk) (dkX12_undo (75, .iaload, 1) (pgm 44 rfl)) (fun x12 => ?_)
        refine so_imul X (dkX12_undo (76, .imul, 1) (pgm 45 rfl)) ?_
        refine so_iadd X (dkX12_undo (77, .iadd, 1) (pgm 46 rfl)) ?_
        refine so_iload_n (i := 2) X 1 (dkX12_undo (78, .iload_n 2, 1) (pgm 47 rfl)) rfl rfl ?_
        refine so_iadd X (dkX12_undo (79, .iadd, 1) (pgm 48 rfl)) ?_
        refine so_iald X (rk_12_0 this hk) (dkX12_undo (80, .iaload, 1) (pgm 49 rfl)) (fun x13 => ?_)
        refine so_iast X (rk_12_0 this hk) (dkX12_undo (81, .iastore, 1) (pgm 50 rfl)) (fun h14 => ?_)
        refine so_iinc (i := 2) X 1 (dkX12_undo (82, .iinc 2 1, 3) (pgm 51 rfl)) rfl rfl (by decide) (Lf := fun x15 => [(2, .int x15), (0, .ref this)]) (fun _ => rfl) (fun x15 => ?_)
        refine so_goto (tgt := 47) X (dkX12_undo (85, .goto (-38), 3) (pgm 52 rfl)) rfl ?_
        exact so_pick X [1, 0] rfl (hrec47 x15 h14)
    · exact so_pick X [0] rfl (hj28 h3)
def pgX12_draw : List (Nat × Instr × Nat) := [(0, .aload_n 0, 1), (1, .ldc_w 431, 3), (4, .aload_n 0, 1), (5, .getfield 432, 3), (8, .imul, 1), (9, .sipush 12345, 3), (12, .iadd, 1), (13, .putfield 432, 3), (16, .aload_n 0, 1), (17, .getfield 432, 3), (20, .bipush 16, 2), (22, .iushr, 1), (23, .iload_n 1, 1), (24, .irem, 1), (25, .ireturn, 1)]
theorem dkX12_draw : ∀ q ∈ pgX12_draw, decode cX12_draw q.1 = .ok q.2 := by decide +kernel
def f_X12_draw (this : Nat) (a1 : Int32) (h0 : PH) : Option (Int32 × PH) :=
  lt (pI h0 this 34 (((1103515245 : Int32) * (h0.1 this 34)) + (12345 : Int32))) (fun (h1 : PH) => nz a1 (some (((((h1.1 this 34).toUInt32 >>> ((16 : Int32).toUInt32 &&& Int32.toUInt32 31)).toInt32) - (((h1.1 this 34).toUInt32 >>> ((16 : Int32).toUInt32 &&& Int32.toUInt32 31)).toInt32) / a1 * a1), h1)))
set_option maxRecDepth 100000 in
set_option maxHeartbeats 4000000 in
theorem ct_X12_draw (l : Launch) (this : Nat) (a1 : Int32) (h0 : PH) (hk : (kd this).1 = 12) : CT mkI l yX12_draw cX12_draw 2 (some .int) (rmd 0) [.ref this, .int a1] h0 (f_X12_draw this a1 h0) := by
  refine ct_of (by decide) (Nat.le_of_ble_eq_true rfl) ?_
  intro p e s m args below meth c D cA ad A X hr hlk
  have X : Cx p s m args c RX12 cX12_draw 2 D cA ad A := X
  unfold f_X12_draw
  refine so_pick (L' := [(0, .ref this), (1, .int a1)]) X [0, 1] rfl ?_
  refine so_aload_n (i := 0) X 0 (dkX12_draw (0, .aload_n 0, 1) (pgm 0 rfl)) rfl rfl ?_
  refine so_ldcw X lk_2233 (dkX12_draw (1, .ldc_w 431, 3) (pgm 1 rfl)) ?_
  refine so_aload_n (i := 0) X 0 (dkX12_draw (4, .aload_n 0, 1) (pgm 2 rfl)) rfl rfl ?_
  refine sf_getI X ff_12_34 lk_1736 hk (dkX12_draw (5, .getfield 432, 3) (pgm 3 rfl)) ?_
  refine so_imul X (dkX12_draw (8, .imul, 1) (pgm 4 rfl)) ?_
  refine so_sipush (v := (12345 : Int32)) X (dkX12_draw (9, .sipush 12345, 3) (pgm 5 rfl)) sp_12345 ?_
  refine so_iadd X (dkX12_draw (12, .iadd, 1) (pgm 6 rfl)) ?_
  refine sf_putI X ff_12_34 ft_12 rfl lk_1736 hk rfl rfl (dkX12_draw (13, .putfield 432, 3) (pgm 7 rfl)) (fun h1 => ?_)
  refine so_aload_n (i := 0) X 0 (dkX12_draw (16, .aload_n 0, 1) (pgm 8 rfl)) rfl rfl ?_
  refine sf_getI X ff_12_34 lk_1736 hk (dkX12_draw (17, .getfield 432, 3) (pgm 9 rfl)) ?_
  refine so_bipush (v := (16 : Int32)) X (dkX12_draw (20, .bipush 16, 2) (pgm 10 rfl)) bp_16 ?_
  refine so_iushr X (dkX12_draw (22, .iushr, 1) (pgm 11 rfl)) rfl ?_
  refine so_iload_n (i := 1) X 1 (dkX12_draw (23, .iload_n 1, 1) (pgm 12 rfl)) rfl rfl ?_
  refine so_irem X (dkX12_draw (24, .irem, 1) (pgm 13 rfl)) (fun _ => ?_)
  exact so_iret X hr hlk (dkX12_draw (25, .ireturn, 1) (pgm 14 rfl))
def pgX12_season : List (Nat × Instr × Nat) := [(0, .aload_n 0, 1), (1, .iload_n 2, 1), (2, .i2l, 1), (3, .lconst 1, 1), (4, .ldc2_w 435, 3), (7, .invokestatic 156, 3), (10, .ifCond .ne 7, 3), (13, .iconst 1, 1), (14, .goto 17, 3), (17, .aload_n 0, 1), (18, .getfield 9, 3), (21, .iconst 1, 1), (22, .iaload, 1), (23, .ifCond .ne 7, 3), (26, .iconst 2, 1), (27, .goto 4, 3), (30, .iconst 0, 1), (31, .putfield 92, 3), (34, .aload_n 0, 1), (35, .getfield 92, 3), (38, .ifCond .le 5, 3), (41, .iconst 0, 1), (42, .ireturn, 1), (43, .aload_n 0, 1), (44, .iload_n 1, 1), (45, .putfield 432, 3), (48, .iconst 0, 1), (49, .istore_n 3, 1), (50, .iconst 0, 1), (51, .istore 4, 2), (53, .iload 4, 2), (55, .iload_n 2, 1), (56, .if_icmp .ge 79, 3), (59, .iconst 0, 1), (60, .istore 5, 2), (62, .aload_n 0, 1), (63, .aload_n 0, 1), (64, .getfield 9, 3), (67, .iconst 3, 1), (68, .iaload, 1), (69, .iconst 1, 1), (70, .iadd, 1), (71, .invokevirtual 437, 3), (74, .istore 6, 2), (76, .iload 6, 2), (78, .ifCond .le 24, 3), (81, .iload 5, 2), (83, .iconst 1, 1), (84, .aload_n 0, 1), (85, .aload_n 0, 1), (86, .invokevirtual 249, 3), (89, .invokevirtual 437, 3), (92, .ishl, 1), (93, .ior, 1), (94, .istore 5, 2), (96, .iinc 6 (-1), 3), (99, .goto (-23), 3), (102, .aload_n 0, 1), (103, .iload 5, 2), (105, .i2l, 1), (106, .invokevirtual 310, 3), (109, .ifCond .eq 6, 3), (112, .goto 17, 3), (115, .aload_n 0, 1), (116, .invokevirtual 423, 3), (119, .aload_n 0, 1), (120, .iload 5, 2), (122, .invokevirtual 426, 3), (125, .pop, 1), (126, .iinc 3 1, 3), (129, .iinc 4 1, 3), (132, .goto (-79), 3), (135, .iload_n 3, 1), (136, .ireturn, 1)]
theorem dkX12_season : ∀ q ∈ pgX12_season, decode cX12_season q.1 = .ok q.2 := by decide +kernel
def b_X12_season_76 (this : Nat) (j102 : Int32 → PH → Option (Int32 × PH)) (rec76 : (Int32 × Int32) → PH → Option (Int32 × PH)) (s76 : Int32 × Int32) (hh76 : PH) : Option (Int32 × PH) :=
  if s76.2 ≤ 0 then (j102 s76.1 hh76) else (cb (f_X12_cells this hh76) (fun (r26 : Int32) (h27 : PH) => cb (f_X12_draw this r26 h27) (fun (r28 : Int32) (h29 : PH) => lt (s76.1 ||| ((1 : Int32) <<< (r28 &&& 31))) (fun (x30 : Int32) => lt (s76.2 + Int32.ofInt (-1)) (fun (x31 : Int32) => rec76 (x30, x31) h29)))))
def b_X12_season_53 (this : Nat) (a2 : Int32) (rec53 : (Int32 × Int32) → PH → Option (Int32 × PH)) (s53 : Int32 × Int32) (hh53 : PH) : Option (Int32 × PH) :=
  if a2 ≤ s53.2 then (some (s53.1, hh53)) else (lt (0 : Int32) (fun (x9 : Int32) => ldI hh53 (rt this 0) 1200 (3 : Int32) (fun (x10 : Int32) => cb (f_X12_draw this (x10 + (1 : Int32)) hh53) (fun (r11 : Int32) (h12 : PH) => lt r11 (fun (x13 : Int32) => lt (fun (y14 : Int32) (h15 : PH) => cb (f_X12_whyNot this y14.toInt64 h15) (fun (r16 : Int32) (h17 : PH) => lt (fun (y18 : Int32) (h19 : PH) => lt (s53.2 + Int32.ofInt 1) (fun (x20 : Int32) => rec53 (y18, x20) h19)) (fun (j129 : Int32 → PH → Option (Int32 × PH)) => if r16 = 0 then (cb (f_X12_keeps this h17) (fun (r21 : Unit) (h22 : PH) => cb (f_X12_goesBy this y14 h22) (fun (r23 : Int32) (h24 : PH) => lt (s53.1 + Int32.ofInt 1) (fun (x25 : Int32) => j129 x25 h24)))) else (j129 s53.1 h17)))) (fun (j102 : Int32 → PH → Option (Int32 × PH)) => lp (b_X12_season_76 this j102) FU (x9, x13) h12))))))
def f_X12_season (this : Nat) (a1 : Int32) (a2 : Int32) (h0 : PH) : Option (Int32 × PH) :=
  cb (f_X12_within a2.toInt64 (1 : Int64) (30 : Int64) h0) (fun (r1 : Int32) (h2 : PH) => lt (fun (t3 : Int32) (h4 : PH) => lt (pI h4 this 5 t3) (fun (h5 : PH) => if (h5.1 this 5) ≤ 0 then (lt (pI h5 this 34 a1) (fun (h6 : PH) => lt (0 : Int32) (fun (x7 : Int32) => lt (0 : Int32) (fun (x8 : Int32) => lp (b_X12_season_53 this a2) FU (x7, x8) h6)))) else (some ((0 : Int32), h5)))) (fun (j31 : Int32 → PH → Option (Int32 × PH)) => if r1 = 0 then (j31 (1 : Int32) h2) else (ldI h2 (rt this 0) 1200 (1 : Int32) (fun (x32 : Int32) => if x32 = 0 then (j31 (2 : Int32) h2) else (j31 (0 : Int32) h2)))))
set_option maxRecDepth 100000 in
set_option maxHeartbeats 4000000 in
theorem ct_X12_season (l : Launch) (this : Nat) (a1 : Int32) (a2 : Int32) (h0 : PH) (hk : (kd this).1 = 12) : CT mkI l yX12_season cX12_season 7 (some .int) (rmd 4) [.ref this, .int a1, .int a2] h0 (f_X12_season this a1 a2 h0) := by
  refine ct_of (by decide) (Nat.le_of_ble_eq_true rfl) ?_
  intro p e s m args below meth c D cA ad A X hr hlk
  have X : Cx p s m args c RX12 cX12_season 7 D cA ad A := X
  unfold f_X12_season
  refine so_pick (L' := [(0, .ref this), (1, .int a1), (2, .int a2)]) X [0, 1, 2] rfl ?_
  refine so_aload_n (i := 0) X 0 (dkX12_season (0, .aload_n 0, 1) (pgm 0 rfl)) rfl rfl ?_
  refine so_iload_n (i := 2) X 2 (dkX12_season (1, .iload_n 2, 1) (pgm 1 rfl)) rfl rfl ?_
  refine so_i2l X (dkX12_season (2, .i2l, 1) (pgm 2 rfl)) ?_
  refine so_lconst (v := (1 : Int64)) X (dkX12_season (3, .lconst 1, 1) (pgm 3 rfl)) lc_1 ?_
  refine so_ldc2 X lk_2228 (dkX12_season (4, .ldc2_w 435, 3) (pgm 4 rfl)) ?_
  refine so_callS (n := 3) (As := [.long a2.toInt64, .long (1 : Int64), .long (30 : Int64)]) X (ct_X12_within l a2.toInt64 (1 : Int64) (30 : Int64) h0 ) lk_1832 lk_1833 lk_134 lk_1834 (by decide +kernel) rfl rfl rfl (rm_ok (by omega) (by decide)) ⟨Nat.zero_le _, Nat.zero_le _⟩ (Nat.le_of_ble_eq_true rfl) (dkX12_season (7, .invokestatic 156, 3) (pgm 5 rfl)) (fun r1 h2 => ?_) rfl
  refine so_join (jf := fun (t3 : Int32) (h4 : PH) => lt (pI h4 this 5 t3) (fun (h5 : PH) => if (h5.1 this 5) ≤ 0 then (lt (pI h5 this 34 a1) (fun (h6 : PH) => lt (0 : Int32) (fun (x7 : Int32) => lt (0 : Int32) (fun (x8 : Int32) => lp (b_X12_season_53 this a2) FU (x7, x8) h6)))) else (some ((0 : Int32), h5)))) (fun (j : Int32 → PH → Option (Int32 × PH)) => ∀ (t3 : Int32) (h4 : PH), SWo (QM mkI below args s D cA ad A) p l e (rmd 4) s m args below meth c 0 0 7 D cA ad A 31 [(0, .ref this), (1, .int a1), (2, .int a2)] [.int t3, .ref this] h4 (j t3 h4)) ?_ (fun j31 hj31 => ?_)
  · intro t3 h4
    refine sf_putI X ff_12_5 ft_12 rfl lk_1707 hk rfl rfl (dkX12_season (31, .putfield 92, 3) (pgm 17 rfl)) (fun h5 => ?_)
    refine so_aload_n (i := 0) X 0 (dkX12_season (34, .aload_n 0, 1) (pgm 18 rfl)) rfl rfl ?_
    refine sf_getI X ff_12_5 lk_1707 hk (dkX12_season (35, .getfield 92, 3) (pgm 19 rfl)) ?_
    refine so_if_le (tgt := 43) X (dkX12_season (38, .ifCond .le 5, 3) (pgm 20 rfl)) rfl (fun _ => ?_) (fun _ => ?_)
    · refine so_aload_n (i := 0) X 0 (dkX12_season (43, .aload_n 0, 1) (pgm 23 rfl)) rfl rfl ?_
      refine so_iload_n (i := 1) X 1 (dkX12_season (44, .iload_n 1, 1) (pgm 24 rfl)) rfl rfl ?_
      refine sf_putI X ff_12_34 ft_12 rfl lk_1736 hk rfl rfl (dkX12_season (45, .putfield 432, 3) (pgm 25 rfl)) (fun h6 => ?_)
      refine so_iconst (v := (0 : Int32)) X (dkX12_season (48, .iconst 0, 1) (pgm 26 rfl)) ic_0 ?_
      refine so_istore_n (i := 3) X (dkX12_season (49, .istore_n 3, 1) (pgm 27 rfl)) rfl (by decide) (Lf := fun x7 => [(3, .int x7), (0, .ref this), (1, .int a1), (2, .int a2)]) (fun _ => rfl) (fun x7 => ?_)
      refine so_iconst (v := (0 : Int32)) X (dkX12_season (50, .iconst 0, 1) (pgm 28 rfl)) ic_0 ?_
      refine so_istore (i := 4) X (dkX12_season (51, .istore 4, 2) (pgm 29 rfl)) (by decide) (Lf := fun x8 => [(4, .int x8), (3, .int x7), (0, .ref this), (1, .int a1), (2, .int a2)]) (fun _ => rfl) (fun x8 => ?_)
      refine so_pick (L' := [(0, .ref this), (2, .int a2), (3, .int x7), (4, .int x8)]) X [2, 4, 1, 0] rfl ?_
      refine so_loop (body := b_X12_season_53 this a2) (fun (s53 : Int32 × Int32) => [(0, .ref this), (2, .int a2), (3, .int s53.1), (4, .int s53.2)]) (fun rec53 hrec53 s53 hh53 => ?_) FU (x7, x8) h6
      unfold b_X12_season_53
      refine so_iload (i := 4) X 3 (dkX12_season (53, .iload 4, 2) (pgm 30 rfl)) rfl ?_
      refine so_iload_n (i := 2) X 1 (dkX12_season (55, .iload_n 2, 1) (pgm 31 rfl)) rfl rfl ?_
      refine so_icmp_ge (tgt := 135) X (dkX12_season (56, .if_icmp .ge 79, 3) (pgm 32 rfl)) rfl (fun _ => ?_) (fun _ => ?_)
      · refine so_iload_n (i := 3) X 2 (dkX12_season (135, .iload_n 3, 1) (pgm 72 rfl)) rfl rfl ?_
        exact so_iret X hr hlk (dkX12_season (136, .ireturn, 1) (pgm 73 rfl))
      · refine so_iconst (v := (0 : Int32)) X (dkX12_season (59, .iconst 0, 1) (pgm 33 rfl)) ic_0 ?_
        refine so_istore (i := 5) X (dkX12_season (60, .istore 5, 2) (pgm 34 rfl)) (by decide) (Lf := fun x9 => [(5, .int x9), (0, .ref this), (2, .int a2), (3, .int s53.1), (4, .int s53.2)]) (fun _ => rfl) (fun x9 => ?_)
        refine so_aload_n (i := 0) X 1 (dkX12_season (62, .aload_n 0, 1) (pgm 35 rfl)) rfl rfl ?_
        refine so_aload_n (i := 0) X 1 (dkX12_season (63, .aload_n 0, 1) (pgm 36 rfl)) rfl rfl ?_
        refine sf_getR X ff_12_0 lk_1702 hk (dkX12_season (64, .getfield 9, 3) (pgm 37 rfl)) ?_
        refine so_iconst (v := (3 : Int32)) X (dkX12_season (67, .iconst 3, 1) (pgm 38 rfl)) ic_3 ?_
        refine so_iald X (rk_12_0 this hk) (dkX12_season (68, .iaload, 1) (pgm 39 rfl)) (fun x10 => ?_)
        refine so_iconst (v := (1 : Int32)) X (dkX12_season (69, .iconst 1, 1) (pgm 40 rfl)) ic_1 ?_
        refine so_iadd X (dkX12_season (70, .iadd, 1) (pgm 41 rfl)) ?_
        refine so_callV (n := 1) (As := [.int (x10 + (1 : Int32))]) X (ct_X12_draw l this (x10 + (1 : Int32)) hh53 hk) hk (by decide) rfl lk_2229 lk_2231 lk_115 lk_134 lk_2232 (by decide +kernel) rfl rfl rfl (rm_ok (by omega) (by decide)) ⟨Nat.zero_le _, Nat.zero_le _⟩ (Nat.le_of_ble_eq_true rfl) (dkX12_season (71, .invokevirtual 437, 3) (pgm 42 rfl)) (fun r11 h12 => ?_) rfl
        refine so_istore (i := 6) X (dkX12_season (74, .istore 6, 2) (pgm 43 rfl)) (by decide) (Lf := fun x13 => [(6, .int x13), (5, .int x9), (0, .ref this), (2, .int a2), (3, .int s53.1), (4, .int s53.2)]) (fun _ => rfl) (fun x13 => ?_)
        refine so_join (jf := fun (y14 : Int32) (h15 : PH) => cb (f_X12_whyNot this y14.toInt64 h15) (fun (r16 : Int32) (h17 : PH) => lt (fun (y18 : Int32) (h19 : PH) => lt (s53.2 + Int32.ofInt 1) (fun (x20 : Int32) => rec53 (y18, x20) h19)) (fun (j129 : Int32 → PH → Option (Int32 × PH)) => if r16 = 0 then (cb (f_X12_keeps this h17) (fun (r21 : Unit) (h22 : PH) => cb (f_X12_goesBy this y14 h22) (fun (r23 : Int32) (h24 : PH) => lt (s53.1 + Int32.ofInt 1) (fun (x25 : Int32) => j129 x25 h24)))) else (j129 s53.1 h17)))) (fun (j : Int32 → PH → Option (Int32 × PH)) => ∀ (y14 : Int32) (h15 : PH), SWo (QM mkI below args s D cA ad A) p l e (rmd 4) s m args below meth c 0 0 7 D cA ad A 102 [(0, .ref this), (2, .int a2), (3, .int s53.1), (4, .int s53.2), (5, .int y14)] [] h15 (j y14 h15)) ?_ (fun j102 hj102 => ?_)
        · intro y14 h15
          refine so_aload_n (i := 0) X 0 (dkX12_season (102, .aload_n 0, 1) (pgm 57 rfl)) rfl rfl ?_
          refine so_iload (i := 5) X 4 (dkX12_season (103, .iload 5, 2) (pgm 58 rfl)) rfl ?_
          refine so_i2l X (dkX12_season (105, .i2l, 1) (pgm 59 rfl)) ?_
          refine so_callV (n := 1) (As := [.long y14.toInt64]) X (ct_X12_whyNot l this y14.toInt64 h15 hk) hk (by decide) rfl lk_1982 lk_1984 lk_86 lk_134 lk_1985 (by decide +kernel) rfl rfl rfl (rm_ok (by omega) (by decide)) ⟨Nat.zero_le _, Nat.zero_le _⟩ (Nat.le_of_ble_eq_true rfl) (dkX12_season (106, .invokevirtual 310, 3) (pgm 60 rfl)) (fun r16 h17 => ?_) rfl
          refine so_join (jf := fun (y18 : Int32) (h19 : PH) => lt (s53.2 + Int32.ofInt 1) (fun (x20 : Int32) => rec53 (y18, x20) h19)) (fun (j : Int32 → PH → Option (Int32 × PH)) => ∀ (y18 : Int32) (h19 : PH), SWo (QM mkI below args s D cA ad A) p l e (rmd 4) s m args below meth c 0 0 7 D cA ad A 129 [(0, .ref this), (2, .int a2), (3, .int y18), (4, .int s53.2)] [] h19 (j y18 h19)) ?_ (fun j129 hj129 => ?_)
          · intro y18 h19
            refine so_iinc (i := 4) X 3 (dkX12_season (129, .iinc 4 1, 3) (pgm 70 rfl)) rfl rfl (by decide) (Lf := fun x20 => [(4, .int x20), (0, .ref this), (2, .int a2), (3, .int y18)]) (fun _ => rfl) (fun x20 => ?_)
            refine so_goto (tgt := 53) X (dkX12_season (132, .goto (-79), 3) (pgm 71 rfl)) rfl ?_
            exact so_pick X [1, 2, 3, 0] rfl (hrec53 (y18, x20) h19)
          refine so_if_eq (tgt := 115) X (dkX12_season (109, .ifCond .eq 6, 3) (pgm 61 rfl)) rfl (fun _ => ?_) (fun _ => ?_)
          · refine so_aload_n (i := 0) X 0 (dkX12_season (115, .aload_n 0, 1) (pgm 63 rfl)) rfl rfl ?_
            refine so_callV (n := 0) (As := []) X (ct_X12_keeps l this h17 hk) hk (by decide) rfl lk_2187 lk_2189 lk_113 lk_134 lk_2190 (by decide +kernel) rfl rfl rfl (rm_ok (by omega) (by decide)) ⟨Nat.zero_le _, Nat.zero_le _⟩ (Nat.le_of_ble_eq_true rfl) (dkX12_season (116, .invokevirtual 423, 3) (pgm 64 rfl)) (fun r21 h22 => ?_) rfl
            refine so_aload_n (i := 0) X 0 (dkX12_season (119, .aload_n 0, 1) (pgm 65 rfl)) rfl rfl ?_
            refine so_iload (i := 5) X 4 (dkX12_season (120, .iload 5, 2) (pgm 66 rfl)) rfl ?_
            refine so_callV (n := 1) (As := [.int y14]) X (ct_X12_goesBy l this y14 h22 hk) hk (by decide) rfl lk_2191 lk_2193 lk_114 lk_134 lk_2194 (by decide +kernel) rfl rfl rfl (rm_ok (by omega) (by decide)) ⟨Nat.zero_le _, Nat.zero_le _⟩ (Nat.le_of_ble_eq_true rfl) (dkX12_season (122, .invokevirtual 426, 3) (pgm 67 rfl)) (fun r23 h24 => ?_) rfl
            refine so_pop X (dkX12_season (125, .pop, 1) (pgm 68 rfl)) rfl ?_
            refine so_iinc (i := 3) X 2 (dkX12_season (126, .iinc 3 1, 3) (pgm 69 rfl)) rfl rfl (by decide) (Lf := fun x25 => [(3, .int x25), (0, .ref this), (2, .int a2), (4, .int s53.2), (5, .int y14)]) (fun _ => rfl) (fun x25 => ?_)
            exact so_pick X [1, 2, 0, 3] rfl (hj129 x25 h24)
          · refine so_goto (tgt := 129) X (dkX12_season (112, .goto 17, 3) (pgm 62 rfl)) rfl ?_
            exact so_pick X [0, 1, 2, 3] rfl (hj129 s53.1 h17)
        refine so_pick (L' := [(0, .ref this), (2, .int a2), (3, .int s53.1), (4, .int s53.2), (5, .int x9), (6, .int x13)]) X [2, 3, 4, 5, 1, 0] rfl ?_
        refine so_loop (body := b_X12_season_76 this j102) (fun (s76 : Int32 × Int32) => [(0, .ref this), (2, .int a2), (3, .int s53.1), (4, .int s53.2), (5, .int s76.1), (6, .int s76.2)]) (fun rec76 hrec76 s76 hh76 => ?_) FU (x9, x13) h12
        unfold b_X12_season_76
        refine so_iload (i := 6) X 5 (dkX12_season (76, .iload 6, 2) (pgm 44 rfl)) rfl ?_
        refine so_if_le (tgt := 102) X (dkX12_season (78, .ifCond .le 24, 3) (pgm 45 rfl)) rfl (fun _ => ?_) (fun _ => ?_)
        · exact so_pick X [0, 1, 2, 3, 4] rfl (hj102 s76.1 hh76)
        · refine so_iload (i := 5) X 4 (dkX12_season (81, .iload 5, 2) (pgm 46 rfl)) rfl ?_
          refine so_iconst (v := (1 : Int32)) X (dkX12_season (83, .iconst 1, 1) (pgm 47 rfl)) ic_1 ?_
          refine so_aload_n (i := 0) X 0 (dkX12_season (84, .aload_n 0, 1) (pgm 48 rfl)) rfl rfl ?_
          refine so_aload_n (i := 0) X 0 (dkX12_season (85, .aload_n 0, 1) (pgm 49 rfl)) rfl rfl ?_
          refine so_callV (n := 0) (As := []) X (ct_X12_cells l this hh76 hk) hk (by decide) rfl lk_1668 lk_1670 lk_57 lk_134 lk_1671 (by decide +kernel) rfl rfl rfl (rm_ok (by omega) (by decide)) ⟨Nat.zero_le _, Nat.zero_le _⟩ (Nat.le_of_ble_eq_true rfl) (dkX12_season (86, .invokevirtual 249, 3) (pgm 50 rfl)) (fun r26 h27 => ?_) rfl
          refine so_callV (n := 1) (As := [.int r26]) X (ct_X12_draw l this r26 h27 hk) hk (by decide) rfl lk_2229 lk_2231 lk_115 lk_134 lk_2232 (by decide +kernel) rfl rfl rfl (rm_ok (by omega) (by decide)) ⟨Nat.zero_le _, Nat.zero_le _⟩ (Nat.le_of_ble_eq_true rfl) (dkX12_season (89, .invokevirtual 437, 3) (pgm 51 rfl)) (fun r28 h29 => ?_) rfl
          refine so_ishl X (dkX12_season (92, .ishl, 1) (pgm 52 rfl)) ?_
          refine so_ior X (dkX12_season (93, .ior, 1) (pgm 53 rfl)) ?_
          refine so_istore (i := 5) X (dkX12_season (94, .istore 5, 2) (pgm 54 rfl)) (by decide) (Lf := fun x30 => [(5, .int x30), (0, .ref this), (2, .int a2), (3, .int s53.1), (4, .int s53.2), (6, .int s76.2)]) (fun _ => rfl) (fun x30 => ?_)
          refine so_iinc (i := 6) X 5 (dkX12_season (96, .iinc 6 (-1), 3) (pgm 55 rfl)) rfl rfl (by decide) (Lf := fun x31 => [(6, .int x31), (5, .int x30), (0, .ref this), (2, .int a2), (3, .int s53.1), (4, .int s53.2)]) (fun _ => rfl) (fun x31 => ?_)
          refine so_goto (tgt := 76) X (dkX12_season (99, .goto (-23), 3) (pgm 56 rfl)) rfl ?_
          exact so_pick X [2, 3, 4, 5, 1, 0] rfl (hrec76 (x30, x31) h29)
    · refine so_iconst (v := (0 : Int32)) X (dkX12_season (41, .iconst 0, 1) (pgm 21 rfl)) ic_0 ?_
      exact so_iret X hr hlk (dkX12_season (42, .ireturn, 1) (pgm 22 rfl))
  refine so_if_ne (tgt := 17) X (dkX12_season (10, .ifCond .ne 7, 3) (pgm 6 rfl)) rfl (fun _ => ?_) (fun _ => ?_)
  · refine so_aload_n (i := 0) X 0 (dkX12_season (17, .aload_n 0, 1) (pgm 9 rfl)) rfl rfl ?_
    refine sf_getR X ff_12_0 lk_1702 hk (dkX12_season (18, .getfield 9, 3) (pgm 10 rfl)) ?_
    refine so_iconst (v := (1 : Int32)) X (dkX12_season (21, .iconst 1, 1) (pgm 11 rfl)) ic_1 ?_
    refine so_iald X (rk_12_0 this hk) (dkX12_season (22, .iaload, 1) (pgm 12 rfl)) (fun x32 => ?_)
    refine so_if_ne (tgt := 30) X (dkX12_season (23, .ifCond .ne 7, 3) (pgm 13 rfl)) rfl (fun _ => ?_) (fun _ => ?_)
    · refine so_iconst (v := (0 : Int32)) X (dkX12_season (30, .iconst 0, 1) (pgm 16 rfl)) ic_0 ?_
      exact so_pick X [0, 1, 2] rfl (hj31 (0 : Int32) h2)
    · refine so_iconst (v := (2 : Int32)) X (dkX12_season (26, .iconst 2, 1) (pgm 14 rfl)) ic_2 ?_
      refine so_goto (tgt := 31) X (dkX12_season (27, .goto 4, 3) (pgm 15 rfl)) rfl ?_
      exact so_pick X [0, 1, 2] rfl (hj31 (2 : Int32) h2)
  · refine so_iconst (v := (1 : Int32)) X (dkX12_season (13, .iconst 1, 1) (pgm 7 rfl)) ic_1 ?_
    refine so_goto (tgt := 31) X (dkX12_season (14, .goto 17, 3) (pgm 8 rfl)) rfl ?_
    exact so_pick X [0, 1, 2] rfl (hj31 (1 : Int32) h2)
def pgX12_grantsNow : List (Nat × Instr × Nat) := [(0, .lload_n 2, 1), (1, .aload_n 0, 1), (2, .getfield 83, 3), (5, .iload_n 1, 1), (6, .iaload, 1), (7, .i2l, 1), (8, .iload 4, 2), (10, .invokestatic 332, 3), (13, .lmul, 1), (14, .aload_n 0, 1), (15, .getfield 77, 3), (18, .bipush 7, 2), (20, .iload 4, 2), (22, .imul, 1), (23, .iload 5, 2), (25, .iadd, 1), (26, .iconst 1, 1), (27, .isub, 1), (28, .laload, 1), (29, .ladd, 1), (30, .lreturn, 1)]
theorem dkX12_grantsNow : ∀ q ∈ pgX12_grantsNow, decode cX12_grantsNow q.1 = .ok q.2 := by decide +kernel
def f_X12_grantsNow (this : Nat) (a1 : Int32) (a2 : Int64) (a3 : Int32) (a4 : Int32) (h0 : PH) : Option (Int64 × PH) :=
  ldI h0 (rt this 37) 4 a1 (fun (x1 : Int32) => cb (f_X12_power x1.toInt64 a3 h0) (fun (r2 : Int64) (h3 : PH) => ldL h3 (rt this 35) 49 ((((7 : Int32) * a3) + a4) - (1 : Int32)) (fun (x4 : Int64) => some (((a2 * r2) + x4), h3))))
set_option maxRecDepth 100000 in
set_option maxHeartbeats 4000000 in
theorem ct_X12_grantsNow (l : Launch) (this : Nat) (a1 : Int32) (a2 : Int64) (a3 : Int32) (a4 : Int32) (h0 : PH) (hk : (kd this).1 = 12) : CT mkL l yX12_grantsNow cX12_grantsNow 6 (some .long) (rmd 1) [.ref this, .int a1, .long a2, .int a3, .int a4] h0 (f_X12_grantsNow this a1 a2 a3 a4 h0) := by
  refine ct_of (by decide) (Nat.le_of_ble_eq_true rfl) ?_
  intro p e s m args below meth c D cA ad A X hr hlk
  have X : Cx p s m args c RX12 cX12_grantsNow 6 D cA ad A := X
  unfold f_X12_grantsNow
  refine so_pick (L' := [(0, .ref this), (1, .int a1), (2, .long a2), (4, .int a3), (5, .int a4)]) X [0, 1, 2, 3, 4] rfl ?_
  refine so_lload_n (i := 2) X 2 (dkX12_grantsNow (0, .lload_n 2, 1) (pgm 0 rfl)) rfl rfl ?_
  refine so_aload_n (i := 0) X 0 (dkX12_grantsNow (1, .aload_n 0, 1) (pgm 1 rfl)) rfl rfl ?_
  refine sf_getR X ff_12_37 lk_1739 hk (dkX12_grantsNow (2, .getfield 83, 3) (pgm 2 rfl)) ?_
  refine so_iload_n (i := 1) X 1 (dkX12_grantsNow (5, .iload_n 1, 1) (pgm 3 rfl)) rfl rfl ?_
  refine so_iald X (rk_12_37 this hk) (dkX12_grantsNow (6, .iaload, 1) (pgm 4 rfl)) (fun x1 => ?_)
  refine so_i2l X (dkX12_grantsNow (7, .i2l, 1) (pgm 5 rfl)) ?_
  refine so_iload (i := 4) X 3 (dkX12_grantsNow (8, .iload 4, 2) (pgm 6 rfl)) rfl ?_
  refine so_callS (n := 2) (As := [.long x1.toInt64, .int a3]) X (ct_X12_power l x1.toInt64 a3 h0 ) lk_2068 lk_2069 lk_134 lk_2070 (by decide +kernel) rfl rfl rfl (rm_ok (by omega) (by decide)) ⟨Nat.zero_le _, Nat.zero_le _⟩ (Nat.le_of_ble_eq_true rfl) (dkX12_grantsNow (10, .invokestatic 332, 3) (pgm 7 rfl)) (fun r2 h3 => ?_) rfl
  refine so_lmul X (dkX12_grantsNow (13, .lmul, 1) (pgm 8 rfl)) ?_
  refine so_aload_n (i := 0) X 0 (dkX12_grantsNow (14, .aload_n 0, 1) (pgm 9 rfl)) rfl rfl ?_
  refine sf_getR X ff_12_35 lk_1737 hk (dkX12_grantsNow (15, .getfield 77, 3) (pgm 10 rfl)) ?_
  refine so_bipush (v := (7 : Int32)) X (dkX12_grantsNow (18, .bipush 7, 2) (pgm 11 rfl)) bp_7 ?_
  refine so_iload (i := 4) X 3 (dkX12_grantsNow (20, .iload 4, 2) (pgm 12 rfl)) rfl ?_
  refine so_imul X (dkX12_grantsNow (22, .imul, 1) (pgm 13 rfl)) ?_
  refine so_iload (i := 5) X 4 (dkX12_grantsNow (23, .iload 5, 2) (pgm 14 rfl)) rfl ?_
  refine so_iadd X (dkX12_grantsNow (25, .iadd, 1) (pgm 15 rfl)) ?_
  refine so_iconst (v := (1 : Int32)) X (dkX12_grantsNow (26, .iconst 1, 1) (pgm 16 rfl)) ic_1 ?_
  refine so_isub X (dkX12_grantsNow (27, .isub, 1) (pgm 17 rfl)) ?_
  refine so_lald X (rk_12_35 this hk) (dkX12_grantsNow (28, .laload, 1) (pgm 18 rfl)) (fun x4 => ?_)
  refine so_ladd X (dkX12_grantsNow (29, .ladd, 1) (pgm 19 rfl)) ?_
  exact so_lret X hr hlk (dkX12_grantsNow (30, .lreturn, 1) (pgm 20 rfl))
def pgX12_laysWorth : List (Nat × Instr × Nat) := [(0, .iconst 0, 1), (1, .istore_n 2, 1), (2, .iload_n 2, 1), (3, .bipush 6, 2), (5, .if_icmp .gt 16, 3), (8, .aload_n 0, 1), (9, .getfield 77, 3), (12, .iload_n 2, 1), (13, .lconst 0, 1), (14, .lastore, 1), (15, .iinc 2 1, 3), (18, .goto (-16), 3), (21, .iconst 1, 1), (22, .istore_n 2, 1), (23, .iload_n 2, 1), (24, .bipush 6, 2), (26, .if_icmp .gt 114, 3), (29, .iconst 0, 1), (30, .istore_n 3, 1), (31, .iload_n 3, 1), (32, .bipush 6, 2), (34, .if_icmp .gt 100, 3), (37, .lconst 0, 1), (38, .lstore 4, 2), (40, .iconst 0, 1), (41, .istore 6, 2), (43, .iload 6, 2), (45, .aload_n 0, 1), (46, .getfield 83, 3), (49, .iload_n 1, 1), (50, .iaload, 1), (51, .if_icmp .ge 64, 3), (54, .aload_n 0, 1), (55, .getfield 77, 3), (58, .bipush 7, 2), (60, .iload_n 2, 1), (61, .iconst 1, 1), (62, .isub, 1), (63, .imul, 1), (64, .iload_n 3, 1), (65, .iadd, 1), (66, .laload, 1), (67, .lstore 7, 2), (69, .lload 4, 2), (71, .iload_n 3, 1), (72, .ifCond .ne 8, 3), (75, .lload 7, 2), (77, .goto 29, 3), (80, .lload 7, 2), (82, .aload_n 0, 1), (83, .iload_n 1, 1), (84, .aload_n 0, 1), (85, .getfield 86, 3), (88, .bipush 30, 2), (90, .iload_n 1, 1), (91, .imul, 1), (92, .iload 6, 2), (94, .iadd, 1), (95, .laload, 1), (96, .iload_n 2, 1), (97, .iconst 1, 1), (98, .isub, 1), (99, .iload_n 3, 1), (100, .invokevirtual 442, 3), (103, .invokestatic 262, 3), (106, .ladd, 1), (107, .lstore 4, 2), (109, .iinc 6 1, 3), (112, .goto (-69), 3), (115, .aload_n 0, 1), (116, .getfield 77, 3), (119, .bipush 7, 2), (121, .iload_n 2, 1), (122, .imul, 1), (123, .iload_n 3, 1), (124, .iadd, 1), (125, .lload 4, 2), (127, .lastore, 1), (128, .iinc 3 1, 3), (131, .goto (-100), 3), (134, .iinc 2 1, 3), (137, .goto (-114), 3), (140, .return_, 1)]
theorem dkX12_laysWorth : ∀ q ∈ pgX12_laysWorth, decode cX12_laysWorth q.1 = .ok q.2 := by decide +kernel
def b_X12_laysWorth_43 (this : Nat) (a1 : Int32) (s23 : Int32) (s31 : Int32) (j115 : Int64 → PH → Option (Unit × PH)) (rec43 : (Int64 × Int32) → PH → Option (Unit × PH)) (s43 : Int64 × Int32) (hh43 : PH) : Option (Unit × PH) :=
  ldI hh43 (rt this 37) 4 a1 (fun (x13 : Int32) => if x13 ≤ s43.2 then (j115 s43.1 hh43) else (ldL hh43 (rt this 35) 49 (((7 : Int32) * (s23 - (1 : Int32))) + s31) (fun (x14 : Int64) => lt x14 (fun (x15 : Int64) => lt (fun (t16 : Int64) (h17 : PH) => lt (s43.1 + t16) (fun (x18 : Int64) => lt (s43.2 + Int32.ofInt 1) (fun (x19 : Int32) => rec43 (x18, x19) h17))) (fun (j106 : Int64 → PH → Option (Unit × PH)) => if s31 = 0 then (j106 x15 hh43) else (ldL hh43 (rt this 38) 120 (((30 : Int32) * a1) + s43.2) (fun (x20 : Int64) => cb (f_X12_grantsNow this a1 x20 (s23 - (1 : Int32)) s31 hh43) (fun (r21 : Int64) (h22 : PH) => j106 (if r21 < x15 then x15 else r21) h22))))))))
def b_X12_laysWorth_31 (this : Nat) (a1 : Int32) (s23 : Int32) (j134 : PH → Option (Unit × PH)) (rec31 : (Int32) → PH → Option (Unit × PH)) (s31 : Int32) (hh31 : PH) : Option (Unit × PH) :=
  if (6 : Int32) < s31 then (j134 hh31) else (lt (0 : Int64) (fun (x7 : Int64) => lt (0 : Int32) (fun (x8 : Int32) => lt (fun (y9 : Int64) (h10 : PH) => stL h10 (rt this 35) 49 (((7 : Int32) * s23) + s31) y9 (fun (h11 : PH) => lt (s31 + Int32.ofInt 1) (fun (x12 : Int32) => rec31 x12 h11))) (fun (j115 : Int64 → PH → Option (Unit × PH)) => lp (b_X12_laysWorth_43 this a1 s23 s31 j115) FU (x7, x8) hh31))))
def b_X12_laysWorth_23 (this : Nat) (a1 : Int32) (rec23 : (Int32) → PH → Option (Unit × PH)) (s23 : Int32) (hh23 : PH) : Option (Unit × PH) :=
  if (6 : Int32) < s23 then (some ((), hh23)) else (lt (0 : Int32) (fun (x4 : Int32) => lt (fun (h5 : PH) => lt (s23 + Int32.ofInt 1) (fun (x6 : Int32) => rec23 x6 h5)) (fun (j134 : PH → Option (Unit × PH)) => lp (b_X12_laysWorth_31 this a1 s23 j134) FU x4 hh23)))
def b_X12_laysWorth_2 (this : Nat) (j21 : PH → Option (Unit × PH)) (rec2 : (Int32) → PH → Option (Unit × PH)) (s2 : Int32) (hh2 : PH) : Option (Unit × PH) :=
  if (6 : Int32) < s2 then (j21 hh2) else (stL hh2 (rt this 35) 49 s2 (0 : Int64) (fun (h23 : PH) => lt (s2 + Int32.ofInt 1) (fun (x24 : Int32) => rec2 x24 h23)))
def f_X12_laysWorth (this : Nat) (a1 : Int32) (h0 : PH) : Option (Unit × PH) :=
  lt (0 : Int32) (fun (x1 : Int32) => lt (fun (h2 : PH) => lt (1 : Int32) (fun (x3 : Int32) => lp (b_X12_laysWorth_23 this a1) FU x3 h2)) (fun (j21 : PH → Option (Unit × PH)) => lp (b_X12_laysWorth_2 this j21) FU x1 h0))
set_option maxRecDepth 100000 in
set_option maxHeartbeats 4000000 in
theorem ct_X12_laysWorth (l : Launch) (this : Nat) (a1 : Int32) (h0 : PH) (hk : (kd this).1 = 12) : CT mkV l yX12_laysWorth cX12_laysWorth 9 none (rmd 2) [.ref this, .int a1] h0 (f_X12_laysWorth this a1 h0) := by
  refine ct_of (by decide) (Nat.le_of_ble_eq_true rfl) ?_
  intro p e s m args below meth c D cA ad A X hr hlk
  have X : Cx p s m args c RX12 cX12_laysWorth 9 D cA ad A := X
  unfold f_X12_laysWorth
  refine so_pick (L' := [(0, .ref this), (1, .int a1)]) X [0, 1] rfl ?_
  refine so_iconst (v := (0 : Int32)) X (dkX12_laysWorth (0, .iconst 0, 1) (pgm 0 rfl)) ic_0 ?_
  refine so_istore_n (i := 2) X (dkX12_laysWorth (1, .istore_n 2, 1) (pgm 1 rfl)) rfl (by decide) (Lf := fun x1 => [(2, .int x1), (0, .ref this), (1, .int a1)]) (fun _ => rfl) (fun x1 => ?_)
  refine so_join (jf := fun (h2 : PH) => lt (1 : Int32) (fun (x3 : Int32) => lp (b_X12_laysWorth_23 this a1) FU x3 h2)) (fun (j : PH → Option (Unit × PH)) => ∀  (h2 : PH), SWo (QM mkV below args s D cA ad A) p l e (rmd 2) s m args below meth c 0 0 9 D cA ad A 21 [(0, .ref this), (1, .int a1)] [] h2 (j h2)) ?_ (fun j21 hj21 => ?_)
  · intro h2
    refine so_iconst (v := (1 : Int32)) X (dkX12_laysWorth (21, .iconst 1, 1) (pgm 12 rfl)) ic_1 ?_
    refine so_istore_n (i := 2) X (dkX12_laysWorth (22, .istore_n 2, 1) (pgm 13 rfl)) rfl (by decide) (Lf := fun x3 => [(2, .int x3), (0, .ref this), (1, .int a1)]) (fun _ => rfl) (fun x3 => ?_)
    refine so_pick (L' := [(0, .ref this), (1, .int a1), (2, .int x3)]) X [1, 2, 0] rfl ?_
    refine so_loop (body := b_X12_laysWorth_23 this a1) (fun (s23 : Int32) => [(0, .ref this), (1, .int a1), (2, .int s23)]) (fun rec23 hrec23 s23 hh23 => ?_) FU x3 h2
    unfold b_X12_laysWorth_23
    refine so_iload_n (i := 2) X 2 (dkX12_laysWorth (23, .iload_n 2, 1) (pgm 14 rfl)) rfl rfl ?_
    refine so_bipush (v := (6 : Int32)) X (dkX12_laysWorth (24, .bipush 6, 2) (pgm 15 rfl)) bp_6 ?_
    refine so_icmp_gt (tgt := 140) X (dkX12_laysWorth (26, .if_icmp .gt 114, 3) (pgm 16 rfl)) rfl (fun _ => ?_) (fun _ => ?_)
    · exact so_vret X hr hlk (dkX12_laysWorth (140, .return_, 1) (pgm 82 rfl))
    · refine so_iconst (v := (0 : Int32)) X (dkX12_laysWorth (29, .iconst 0, 1) (pgm 17 rfl)) ic_0 ?_
      refine so_istore_n (i := 3) X (dkX12_laysWorth (30, .istore_n 3, 1) (pgm 18 rfl)) rfl (by decide) (Lf := fun x4 => [(3, .int x4), (0, .ref this), (1, .int a1), (2, .int s23)]) (fun _ => rfl) (fun x4 => ?_)
      refine so_join (jf := fun (h5 : PH) => lt (s23 + Int32.ofInt 1) (fun (x6 : Int32) => rec23 x6 h5)) (fun (j : PH → Option (Unit × PH)) => ∀  (h5 : PH), SWo (QM mkV below args s D cA ad A) p l e (rmd 2) s m args below meth c 0 0 9 D cA ad A 134 [(0, .ref this), (1, .int a1), (2, .int s23)] [] h5 (j h5)) ?_ (fun j134 hj134 => ?_)
      · intro h5
        refine so_iinc (i := 2) X 2 (dkX12_laysWorth (134, .iinc 2 1, 3) (pgm 80 rfl)) rfl rfl (by decide) (Lf := fun x6 => [(2, .int x6), (0, .ref this), (1, .int a1)]) (fun _ => rfl) (fun x6 => ?_)
        refine so_goto (tgt := 23) X (dkX12_laysWorth (137, .goto (-114), 3) (pgm 81 rfl)) rfl ?_
        exact so_pick X [1, 2, 0] rfl (hrec23 x6 h5)
      refine so_pick (L' := [(0, .ref this), (1, .int a1), (2, .int s23), (3, .int x4)]) X [1, 2, 3, 0] rfl ?_
      refine so_loop (body := b_X12_laysWorth_31 this a1 s23 j134) (fun (s31 : Int32) => [(0, .ref this), (1, .int a1), (2, .int s23), (3, .int s31)]) (fun rec31 hrec31 s31 hh31 => ?_) FU x4 hh23
      unfold b_X12_laysWorth_31
      refine so_iload_n (i := 3) X 3 (dkX12_laysWorth (31, .iload_n 3, 1) (pgm 19 rfl)) rfl rfl ?_
      refine so_bipush (v := (6 : Int32)) X (dkX12_laysWorth (32, .bipush 6, 2) (pgm 20 rfl)) bp_6 ?_
      refine so_icmp_gt (tgt := 134) X (dkX12_laysWorth (34, .if_icmp .gt 100, 3) (pgm 21 rfl)) rfl (fun _ => ?_) (fun _ => ?_)
      · exact so_pick X [0, 1, 2] rfl (hj134 hh31)
      · refine so_lconst (v := (0 : Int64)) X (dkX12_laysWorth (37, .lconst 0, 1) (pgm 22 rfl)) lc_0 ?_
        refine so_lstore (i := 4) X (dkX12_laysWorth (38, .lstore 4, 2) (pgm 23 rfl)) (by decide) (Lf := fun x7 => [(4, .long x7), (0, .ref this), (1, .int a1), (2, .int s23), (3, .int s31)]) (fun _ => rfl) (fun x7 => ?_)
        refine so_iconst (v := (0 : Int32)) X (dkX12_laysWorth (40, .iconst 0, 1) (pgm 24 rfl)) ic_0 ?_
        refine so_istore (i := 6) X (dkX12_laysWorth (41, .istore 6, 2) (pgm 25 rfl)) (by decide) (Lf := fun x8 => [(6, .int x8), (4, .long x7), (0, .ref this), (1, .int a1), (2, .int s23), (3, .int s31)]) (fun _ => rfl) (fun x8 => ?_)
        refine so_join (jf := fun (y9 : Int64) (h10 : PH) => stL h10 (rt this 35) 49 (((7 : Int32) * s23) + s31) y9 (fun (h11 : PH) => lt (s31 + Int32.ofInt 1) (fun (x12 : Int32) => rec31 x12 h11))) (fun (j : Int64 → PH → Option (Unit × PH)) => ∀ (y9 : Int64) (h10 : PH), SWo (QM mkV below args s D cA ad A) p l e (rmd 2) s m args below meth c 0 0 9 D cA ad A 115 [(0, .ref this), (1, .int a1), (2, .int s23), (3, .int s31), (4, .long y9)] [] h10 (j y9 h10)) ?_ (fun j115 hj115 => ?_)
        · intro y9 h10
          refine so_aload_n (i := 0) X 0 (dkX12_laysWorth (115, .aload_n 0, 1) (pgm 69 rfl)) rfl rfl ?_
          refine sf_getR X ff_12_35 lk_1737 hk (dkX12_laysWorth (116, .getfield 77, 3) (pgm 70 rfl)) ?_
          refine so_bipush (v := (7 : Int32)) X (dkX12_laysWorth (119, .bipush 7, 2) (pgm 71 rfl)) bp_7 ?_
          refine so_iload_n (i := 2) X 2 (dkX12_laysWorth (121, .iload_n 2, 1) (pgm 72 rfl)) rfl rfl ?_
          refine so_imul X (dkX12_laysWorth (122, .imul, 1) (pgm 73 rfl)) ?_
          refine so_iload_n (i := 3) X 3 (dkX12_laysWorth (123, .iload_n 3, 1) (pgm 74 rfl)) rfl rfl ?_
          refine so_iadd X (dkX12_laysWorth (124, .iadd, 1) (pgm 75 rfl)) ?_
          refine so_lload (i := 4) X 4 (dkX12_laysWorth (125, .lload 4, 2) (pgm 76 rfl)) rfl ?_
          refine so_last X (rk_12_35 this hk) (dkX12_laysWorth (127, .lastore, 1) (pgm 77 rfl)) (fun h11 => ?_)
          refine so_iinc (i := 3) X 3 (dkX12_laysWorth (128, .iinc 3 1, 3) (pgm 78 rfl)) rfl rfl (by decide) (Lf := fun x12 => [(3, .int x12), (0, .ref this), (1, .int a1), (2, .int s23), (4, .long y9)]) (fun _ => rfl) (fun x12 => ?_)
          refine so_goto (tgt := 31) X (dkX12_laysWorth (131, .goto (-100), 3) (pgm 79 rfl)) rfl ?_
          exact so_pick X [1, 2, 3, 0] rfl (hrec31 x12 h11)
        refine so_pick (L' := [(0, .ref this), (1, .int a1), (2, .int s23), (3, .int s31), (4, .long x7), (6, .int x8)]) X [2, 3, 4, 5, 1, 0] rfl ?_
        refine so_loop (body := b_X12_laysWorth_43 this a1 s23 s31 j115) (fun (s43 : Int64 × Int32) => [(0, .ref this), (1, .int a1), (2, .int s23), (3, .int s31), (4, .long s43.1), (6, .int s43.2)]) (fun rec43 hrec43 s43 hh43 => ?_) FU (x7, x8) hh31
        unfold b_X12_laysWorth_43
        refine so_iload (i := 6) X 5 (dkX12_laysWorth (43, .iload 6, 2) (pgm 26 rfl)) rfl ?_
        refine so_aload_n (i := 0) X 0 (dkX12_laysWorth (45, .aload_n 0, 1) (pgm 27 rfl)) rfl rfl ?_
        refine sf_getR X ff_12_37 lk_1739 hk (dkX12_laysWorth (46, .getfield 83, 3) (pgm 28 rfl)) ?_
        refine so_iload_n (i := 1) X 1 (dkX12_laysWorth (49, .iload_n 1, 1) (pgm 29 rfl)) rfl rfl ?_
        refine so_iald X (rk_12_37 this hk) (dkX12_laysWorth (50, .iaload, 1) (pgm 30 rfl)) (fun x13 => ?_)
        refine so_icmp_ge (tgt := 115) X (dkX12_laysWorth (51, .if_icmp .ge 64, 3) (pgm 31 rfl)) rfl (fun _ => ?_) (fun _ => ?_)
        · exact so_pick X [0, 1, 2, 3, 4] rfl (hj115 s43.1 hh43)
        · refine so_aload_n (i := 0) X 0 (dkX12_laysWorth (54, .aload_n 0, 1) (pgm 32 rfl)) rfl rfl ?_
          refine sf_getR X ff_12_35 lk_1737 hk (dkX12_laysWorth (55, .getfield 77, 3) (pgm 33 rfl)) ?_
          refine so_bipush (v := (7 : Int32)) X (dkX12_laysWorth (58, .bipush 7, 2) (pgm 34 rfl)) bp_7 ?_
          refine so_iload_n (i := 2) X 2 (dkX12_laysWorth (60, .iload_n 2, 1) (pgm 35 rfl)) rfl rfl ?_
          refine so_iconst (v := (1 : Int32)) X (dkX12_laysWorth (61, .iconst 1, 1) (pgm 36 rfl)) ic_1 ?_
          refine so_isub X (dkX12_laysWorth (62, .isub, 1) (pgm 37 rfl)) ?_
          refine so_imul X (dkX12_laysWorth (63, .imul, 1) (pgm 38 rfl)) ?_
          refine so_iload_n (i := 3) X 3 (dkX12_laysWorth (64, .iload_n 3, 1) (pgm 39 rfl)) rfl rfl ?_
          refine so_iadd X (dkX12_laysWorth (65, .iadd, 1) (pgm 40 rfl)) ?_
          refine so_lald X (rk_12_35 this hk) (dkX12_laysWorth (66, .laload, 1) (pgm 41 rfl)) (fun x14 => ?_)
          refine so_lstore (i := 7) X (dkX12_laysWorth (67, .lstore 7, 2) (pgm 42 rfl)) (by decide) (Lf := fun x15 => [(7, .long x15), (0, .ref this), (1, .int a1), (2, .int s23), (3, .int s31), (4, .long s43.1), (6, .int s43.2)]) (fun _ => rfl) (fun x15 => ?_)
          refine so_lload (i := 4) X 5 (dkX12_laysWorth (69, .lload 4, 2) (pgm 43 rfl)) rfl ?_
          refine so_iload_n (i := 3) X 4 (dkX12_laysWorth (71, .iload_n 3, 1) (pgm 44 rfl)) rfl rfl ?_
          refine so_join (jf := fun (t16 : Int64) (h17 : PH) => lt (s43.1 + t16) (fun (x18 : Int64) => lt (s43.2 + Int32.ofInt 1) (fun (x19 : Int32) => rec43 (x18, x19) h17))) (fun (j : Int64 → PH → Option (Unit × PH)) => ∀ (t16 : Int64) (h17 : PH), SWo (QM mkV below args s D cA ad A) p l e (rmd 2) s m args below meth c 0 0 9 D cA ad A 106 [(0, .ref this), (1, .int a1), (2, .int s23), (3, .int s31), (6, .int s43.2)] [.long t16, .long s43.1] h17 (j t16 h17)) ?_ (fun j106 hj106 => ?_)
          · intro t16 h17
            refine so_ladd X (dkX12_laysWorth (106, .ladd, 1) (pgm 65 rfl)) ?_
            refine so_lstore (i := 4) X (dkX12_laysWorth (107, .lstore 4, 2) (pgm 66 rfl)) (by decide) (Lf := fun x18 => [(4, .long x18), (0, .ref this), (1, .int a1), (2, .int s23), (3, .int s31), (6, .int s43.2)]) (fun _ => rfl) (fun x18 => ?_)
            refine so_iinc (i := 6) X 5 (dkX12_laysWorth (109, .iinc 6 1, 3) (pgm 67 rfl)) rfl rfl (by decide) (Lf := fun x19 => [(6, .int x19), (4, .long x18), (0, .ref this), (1, .int a1), (2, .int s23), (3, .int s31)]) (fun _ => rfl) (fun x19 => ?_)
            refine so_goto (tgt := 43) X (dkX12_laysWorth (112, .goto (-69), 3) (pgm 68 rfl)) rfl ?_
            exact so_pick X [2, 3, 4, 5, 1, 0] rfl (hrec43 (x18, x19) h17)
          refine so_if_ne (tgt := 80) X (dkX12_laysWorth (72, .ifCond .ne 8, 3) (pgm 45 rfl)) rfl (fun _ => ?_) (fun _ => ?_)
          · refine so_lload (i := 7) X 0 (dkX12_laysWorth (80, .lload 7, 2) (pgm 48 rfl)) rfl ?_
            refine so_aload_n (i := 0) X 1 (dkX12_laysWorth (82, .aload_n 0, 1) (pgm 49 rfl)) rfl rfl ?_
            refine so_iload_n (i := 1) X 2 (dkX12_laysWorth (83, .iload_n 1, 1) (pgm 50 rfl)) rfl rfl ?_
            refine so_aload_n (i := 0) X 1 (dkX12_laysWorth (84, .aload_n 0, 1) (pgm 51 rfl)) rfl rfl ?_
            refine sf_getR X ff_12_38 lk_1740 hk (dkX12_laysWorth (85, .getfield 86, 3) (pgm 52 rfl)) ?_
            refine so_bipush (v := (30 : Int32)) X (dkX12_laysWorth (88, .bipush 30, 2) (pgm 53 rfl)) bp_30 ?_
            refine so_iload_n (i := 1) X 2 (dkX12_laysWorth (90, .iload_n 1, 1) (pgm 54 rfl)) rfl rfl ?_
            refine so_imul X (dkX12_laysWorth (91, .imul, 1) (pgm 55 rfl)) ?_
            refine so_iload (i := 6) X 6 (dkX12_laysWorth (92, .iload 6, 2) (pgm 56 rfl)) rfl ?_
            refine so_iadd X (dkX12_laysWorth (94, .iadd, 1) (pgm 57 rfl)) ?_
            refine so_lald X (rk_12_38 this hk) (dkX12_laysWorth (95, .laload, 1) (pgm 58 rfl)) (fun x20 => ?_)
            refine so_iload_n (i := 2) X 3 (dkX12_laysWorth (96, .iload_n 2, 1) (pgm 59 rfl)) rfl rfl ?_
            refine so_iconst (v := (1 : Int32)) X (dkX12_laysWorth (97, .iconst 1, 1) (pgm 60 rfl)) ic_1 ?_
            refine so_isub X (dkX12_laysWorth (98, .isub, 1) (pgm 61 rfl)) ?_
            refine so_iload_n (i := 3) X 4 (dkX12_laysWorth (99, .iload_n 3, 1) (pgm 62 rfl)) rfl rfl ?_
            refine so_callV (n := 4) (As := [.int a1, .long x20, .int (s23 - (1 : Int32)), .int s31]) X (ct_X12_grantsNow l this a1 x20 (s23 - (1 : Int32)) s31 hh43 hk) hk (by decide) rfl lk_2247 lk_2249 lk_118 lk_134 lk_2250 (by decide +kernel) rfl rfl rfl (rm_ok (by omega) (by decide)) ⟨Nat.zero_le _, Nat.zero_le _⟩ (Nat.le_of_ble_eq_true rfl) (dkX12_laysWorth (100, .invokevirtual 442, 3) (pgm 63 rfl)) (fun r21 h22 => ?_) rfl
            refine so_mmaxl X lk_1701 lk_1561 lk_135 lk_1562 (Nat.le_of_ble_eq_true rfl) (Nat.le_of_ble_eq_true rfl) ⟨Nat.zero_le _, Nat.zero_le _⟩ (dkX12_laysWorth (103, .invokestatic 262, 3) (pgm 64 rfl)) ?_
            exact so_pick X [1, 2, 3, 4, 6] rfl (hj106 (if r21 < x15 then x15 else r21) h22)
          · refine so_lload (i := 7) X 0 (dkX12_laysWorth (75, .lload 7, 2) (pgm 46 rfl)) rfl ?_
            refine so_goto (tgt := 106) X (dkX12_laysWorth (77, .goto 29, 3) (pgm 47 rfl)) rfl ?_
            exact so_pick X [1, 2, 3, 4, 6] rfl (hj106 x15 hh43)
  refine so_pick (L' := [(0, .ref this), (1, .int a1), (2, .int x1)]) X [1, 2, 0] rfl ?_
  refine so_loop (body := b_X12_laysWorth_2 this j21) (fun (s2 : Int32) => [(0, .ref this), (1, .int a1), (2, .int s2)]) (fun rec2 hrec2 s2 hh2 => ?_) FU x1 h0
  unfold b_X12_laysWorth_2
  refine so_iload_n (i := 2) X 2 (dkX12_laysWorth (2, .iload_n 2, 1) (pgm 2 rfl)) rfl rfl ?_
  refine so_bipush (v := (6 : Int32)) X (dkX12_laysWorth (3, .bipush 6, 2) (pgm 3 rfl)) bp_6 ?_
  refine so_icmp_gt (tgt := 21) X (dkX12_laysWorth (5, .if_icmp .gt 16, 3) (pgm 4 rfl)) rfl (fun _ => ?_) (fun _ => ?_)
  · exact so_pick X [0, 1] rfl (hj21 hh2)
  · refine so_aload_n (i := 0) X 0 (dkX12_laysWorth (8, .aload_n 0, 1) (pgm 5 rfl)) rfl rfl ?_
    refine sf_getR X ff_12_35 lk_1737 hk (dkX12_laysWorth (9, .getfield 77, 3) (pgm 6 rfl)) ?_
    refine so_iload_n (i := 2) X 2 (dkX12_laysWorth (12, .iload_n 2, 1) (pgm 7 rfl)) rfl rfl ?_
    refine so_lconst (v := (0 : Int64)) X (dkX12_laysWorth (13, .lconst 0, 1) (pgm 8 rfl)) lc_0 ?_
    refine so_last X (rk_12_35 this hk) (dkX12_laysWorth (14, .lastore, 1) (pgm 9 rfl)) (fun h23 => ?_)
    refine so_iinc (i := 2) X 2 (dkX12_laysWorth (15, .iinc 2 1, 3) (pgm 10 rfl)) rfl rfl (by decide) (Lf := fun x24 => [(2, .int x24), (0, .ref this), (1, .int a1)]) (fun _ => rfl) (fun x24 => ?_)
    refine so_goto (tgt := 2) X (dkX12_laysWorth (18, .goto (-16), 3) (pgm 11 rfl)) rfl ?_
    exact so_pick X [1, 2, 0] rfl (hrec2 x24 h23)
def pgX12_isTray : List (Nat × Instr × Nat) := [(0, .iload_n 0, 1), (1, .i2l, 1), (2, .lconst 0, 1), (3, .ldc2_w 349, 3), (6, .invokestatic 156, 3), (9, .ireturn, 1)]
theorem dkX12_isTray : ∀ q ∈ pgX12_isTray, decode cX12_isTray q.1 = .ok q.2 := by decide +kernel
def f_X12_isTray (a1 : Int32) (h0 : PH) : Option (Int32 × PH) :=
  cb (f_X12_within a1.toInt64 (0 : Int64) (3 : Int64) h0) (fun (r1 : Int32) (h2 : PH) => zr r1 h2)
set_option maxRecDepth 100000 in
set_option maxHeartbeats 4000000 in
theorem ct_X12_isTray (l : Launch) (a1 : Int32) (h0 : PH)  : CT mkI l yX12_isTray cX12_isTray 1 (some .boolean) (rmd 1) [.int a1] h0 (f_X12_isTray a1 h0) := by
  refine ct_of (by decide) (Nat.le_of_ble_eq_true rfl) ?_
  intro p e s m args below meth c D cA ad A X hr hlk
  have X : Cx p s m args c RX12 cX12_isTray 1 D cA ad A := X
  unfold f_X12_isTray
  refine so_pick (L' := [(0, .int a1)]) X [0] rfl ?_
  refine so_iload_n (i := 0) X 0 (dkX12_isTray (0, .iload_n 0, 1) (pgm 0 rfl)) rfl rfl ?_
  refine so_i2l X (dkX12_isTray (1, .i2l, 1) (pgm 1 rfl)) ?_
  refine so_lconst (v := (0 : Int64)) X (dkX12_isTray (2, .lconst 0, 1) (pgm 2 rfl)) lc_0 ?_
  refine so_ldc2 X lk_2082 (dkX12_isTray (3, .ldc2_w 349, 3) (pgm 3 rfl)) ?_
  refine so_callS (n := 3) (As := [.long a1.toInt64, .long (0 : Int64), .long (3 : Int64)]) X (ct_X12_within l a1.toInt64 (0 : Int64) (3 : Int64) h0 ) lk_1832 lk_1833 lk_134 lk_1834 (by decide +kernel) rfl rfl rfl (rm_ok (by omega) (by decide)) ⟨Nat.zero_le _, Nat.zero_le _⟩ (Nat.le_of_ble_eq_true rfl) (dkX12_isTray (6, .invokestatic 156, 3) (pgm 4 rfl)) (fun r1 h2 => ?_) rfl
  exact so_zret X hr hlk (dkX12_isTray (9, .ireturn, 1) (pgm 5 rfl))
def pgX12_tray : List (Nat × Instr × Nat) := [(0, .aload_n 0, 1), (1, .iload_n 1, 1), (2, .invokestatic 369, 3), (5, .ifCond .ne 7, 3), (8, .iconst 1, 1), (9, .goto 32, 3), (12, .iload_n 2, 1), (13, .i2l, 1), (14, .lconst 0, 1), (15, .ldc2_w 349, 3), (18, .invokestatic 156, 3), (21, .ifCond .eq 15, 3), (24, .iload_n 3, 1), (25, .i2l, 1), (26, .lconst 0, 1), (27, .ldc2_w 435, 3), (30, .invokestatic 156, 3), (33, .ifCond .ne 7, 3), (36, .iconst 2, 1), (37, .goto 4, 3), (40, .iconst 0, 1), (41, .putfield 92, 3), (44, .aload_n 0, 1), (45, .getfield 92, 3), (48, .ifCond .le 4, 3), (51, .return_, 1), (52, .aload_n 0, 1), (53, .getfield 80, 3), (56, .iload_n 1, 1), (57, .iload_n 2, 1), (58, .iastore, 1), (59, .aload_n 0, 1), (60, .getfield 83, 3), (63, .iload_n 1, 1), (64, .iload_n 3, 1), (65, .iastore, 1), (66, .iconst 0, 1), (67, .istore 4, 2), (69, .iload 4, 2), (71, .bipush 30, 2), (73, .if_icmp .ge 22, 3), (76, .aload_n 0, 1), (77, .getfield 86, 3), (80, .bipush 30, 2), (82, .iload_n 1, 1), (83, .imul, 1), (84, .iload 4, 2), (86, .iadd, 1), (87, .lconst 0, 1), (88, .lastore, 1), (89, .iinc 4 1, 3), (92, .goto (-23), 3), (95, .return_, 1)]
theorem dkX12_tray : ∀ q ∈ pgX12_tray, decode cX12_tray q.1 = .ok q.2 := by decide +kernel
def b_X12_tray_69 (this : Nat) (a1 : Int32) (rec69 : (Int32) → PH → Option (Unit × PH)) (s69 : Int32) (hh69 : PH) : Option (Unit × PH) :=
  if (30 : Int32) ≤ s69 then (some ((), hh69)) else (stL hh69 (rt this 38) 120 (((30 : Int32) * a1) + s69) (0 : Int64) (fun (h9 : PH) => lt (s69 + Int32.ofInt 1) (fun (x10 : Int32) => rec69 x10 h9)))
def f_X12_tray (this : Nat) (a1 : Int32) (a2 : Int32) (a3 : Int32) (h0 : PH) : Option (Unit × PH) :=
  cb (f_X12_isTray a1 h0) (fun (r1 : Int32) (h2 : PH) => lt (fun (t3 : Int32) (h4 : PH) => lt (pI h4 this 5 t3) (fun (h5 : PH) => if (h5.1 this 5) ≤ 0 then (stI h5 (rt this 36) 4 a1 a2 (fun (h6 : PH) => stI h6 (rt this 37) 4 a1 a3 (fun (h7 : PH) => lt (0 : Int32) (fun (x8 : Int32) => lp (b_X12_tray_69 this a1) FU x8 h7)))) else (some ((), h5)))) (fun (j41 : Int32 → PH → Option (Unit × PH)) => if r1 = 0 then (j41 (1 : Int32) h2) else (cb (f_X12_within a2.toInt64 (0 : Int64) (3 : Int64) h2) (fun (r11 : Int32) (h12 : PH) => lt (fun (h13 : PH) => j41 (2 : Int32) h13) (fun (j36 : PH → Option (Unit × PH)) => if r11 = 0 then (j36 h12) else (cb (f_X12_within a3.toInt64 (0 : Int64) (30 : Int64) h12) (fun (r14 : Int32) (h15 : PH) => if r14 = 0 then (j36 h15) else (j41 (0 : Int32) h15))))))))
set_option maxRecDepth 100000 in
set_option maxHeartbeats 4000000 in
theorem ct_X12_tray (l : Launch) (this : Nat) (a1 : Int32) (a2 : Int32) (a3 : Int32) (h0 : PH) (hk : (kd this).1 = 12) : CT mkV l yX12_tray cX12_tray 5 none (rmd 2) [.ref this, .int a1, .int a2, .int a3] h0 (f_X12_tray this a1 a2 a3 h0) := by
  refine ct_of (by decide) (Nat.le_of_ble_eq_true rfl) ?_
  intro p e s m args below meth c D cA ad A X hr hlk
  have X : Cx p s m args c RX12 cX12_tray 5 D cA ad A := X
  unfold f_X12_tray
  refine so_pick (L' := [(0, .ref this), (1, .int a1), (2, .int a2), (3, .int a3)]) X [0, 1, 2, 3] rfl ?_
  refine so_aload_n (i := 0) X 0 (dkX12_tray (0, .aload_n 0, 1) (pgm 0 rfl)) rfl rfl ?_
  refine so_iload_n (i := 1) X 1 (dkX12_tray (1, .iload_n 1, 1) (pgm 1 rfl)) rfl rfl ?_
  refine so_callS (n := 1) (As := [.int a1]) X (ct_X12_isTray l a1 h0 ) lk_2134 lk_2135 lk_134 lk_2136 (by decide +kernel) rfl rfl rfl (rm_ok (by omega) (by decide)) ⟨Nat.zero_le _, Nat.zero_le _⟩ (Nat.le_of_ble_eq_true rfl) (dkX12_tray (2, .invokestatic 369, 3) (pgm 2 rfl)) (fun r1 h2 => ?_) rfl
  refine so_join (jf := fun (t3 : Int32) (h4 : PH) => lt (pI h4 this 5 t3) (fun (h5 : PH) => if (h5.1 this 5) ≤ 0 then (stI h5 (rt this 36) 4 a1 a2 (fun (h6 : PH) => stI h6 (rt this 37) 4 a1 a3 (fun (h7 : PH) => lt (0 : Int32) (fun (x8 : Int32) => lp (b_X12_tray_69 this a1) FU x8 h7)))) else (some ((), h5)))) (fun (j : Int32 → PH → Option (Unit × PH)) => ∀ (t3 : Int32) (h4 : PH), SWo (QM mkV below args s D cA ad A) p l e (rmd 2) s m args below meth c 0 0 5 D cA ad A 41 [(0, .ref this), (1, .int a1), (2, .int a2), (3, .int a3)] [.int t3, .ref this] h4 (j t3 h4)) ?_ (fun j41 hj41 => ?_)
  · intro t3 h4
    refine sf_putI X ff_12_5 ft_12 rfl lk_1707 hk rfl rfl (dkX12_tray (41, .putfield 92, 3) (pgm 21 rfl)) (fun h5 => ?_)
    refine so_aload_n (i := 0) X 0 (dkX12_tray (44, .aload_n 0, 1) (pgm 22 rfl)) rfl rfl ?_
    refine sf_getI X ff_12_5 lk_1707 hk (dkX12_tray (45, .getfield 92, 3) (pgm 23 rfl)) ?_
    refine so_if_le (tgt := 52) X (dkX12_tray (48, .ifCond .le 4, 3) (pgm 24 rfl)) rfl (fun _ => ?_) (fun _ => ?_)
    · refine so_aload_n (i := 0) X 0 (dkX12_tray (52, .aload_n 0, 1) (pgm 26 rfl)) rfl rfl ?_
      refine sf_getR X ff_12_36 lk_1738 hk (dkX12_tray (53, .getfield 80, 3) (pgm 27 rfl)) ?_
      refine so_iload_n (i := 1) X 1 (dkX12_tray (56, .iload_n 1, 1) (pgm 28 rfl)) rfl rfl ?_
      refine so_iload_n (i := 2) X 2 (dkX12_tray (57, .iload_n 2, 1) (pgm 29 rfl)) rfl rfl ?_
      refine so_iast X (rk_12_36 this hk) (dkX12_tray (58, .iastore, 1) (pgm 30 rfl)) (fun h6 => ?_)
      refine so_aload_n (i := 0) X 0 (dkX12_tray (59, .aload_n 0, 1) (pgm 31 rfl)) rfl rfl ?_
      refine sf_getR X ff_12_37 lk_1739 hk (dkX12_tray (60, .getfield 83, 3) (pgm 32 rfl)) ?_
      refine so_iload_n (i := 1) X 1 (dkX12_tray (63, .iload_n 1, 1) (pgm 33 rfl)) rfl rfl ?_
      refine so_iload_n (i := 3) X 3 (dkX12_tray (64, .iload_n 3, 1) (pgm 34 rfl)) rfl rfl ?_
      refine so_iast X (rk_12_37 this hk) (dkX12_tray (65, .iastore, 1) (pgm 35 rfl)) (fun h7 => ?_)
      refine so_iconst (v := (0 : Int32)) X (dkX12_tray (66, .iconst 0, 1) (pgm 36 rfl)) ic_0 ?_
      refine so_istore (i := 4) X (dkX12_tray (67, .istore 4, 2) (pgm 37 rfl)) (by decide) (Lf := fun x8 => [(4, .int x8), (0, .ref this), (1, .int a1), (2, .int a2), (3, .int a3)]) (fun _ => rfl) (fun x8 => ?_)
      refine so_pick (L' := [(0, .ref this), (1, .int a1), (4, .int x8)]) X [1, 2, 0] rfl ?_
      refine so_loop (body := b_X12_tray_69 this a1) (fun (s69 : Int32) => [(0, .ref this), (1, .int a1), (4, .int s69)]) (fun rec69 hrec69 s69 hh69 => ?_) FU x8 h7
      unfold b_X12_tray_69
      refine so_iload (i := 4) X 2 (dkX12_tray (69, .iload 4, 2) (pgm 38 rfl)) rfl ?_
      refine so_bipush (v := (30 : Int32)) X (dkX12_tray (71, .bipush 30, 2) (pgm 39 rfl)) bp_30 ?_
      refine so_icmp_ge (tgt := 95) X (dkX12_tray (73, .if_icmp .ge 22, 3) (pgm 40 rfl)) rfl (fun _ => ?_) (fun _ => ?_)
      · exact so_vret X hr hlk (dkX12_tray (95, .return_, 1) (pgm 52 rfl))
      · refine so_aload_n (i := 0) X 0 (dkX12_tray (76, .aload_n 0, 1) (pgm 41 rfl)) rfl rfl ?_
        refine sf_getR X ff_12_38 lk_1740 hk (dkX12_tray (77, .getfield 86, 3) (pgm 42 rfl)) ?_
        refine so_bipush (v := (30 : Int32)) X (dkX12_tray (80, .bipush 30, 2) (pgm 43 rfl)) bp_30 ?_
        refine so_iload_n (i := 1) X 1 (dkX12_tray (82, .iload_n 1, 1) (pgm 44 rfl)) rfl rfl ?_
        refine so_imul X (dkX12_tray (83, .imul, 1) (pgm 45 rfl)) ?_
        refine so_iload (i := 4) X 2 (dkX12_tray (84, .iload 4, 2) (pgm 46 rfl)) rfl ?_
        refine so_iadd X (dkX12_tray (86, .iadd, 1) (pgm 47 rfl)) ?_
        refine so_lconst (v := (0 : Int64)) X (dkX12_tray (87, .lconst 0, 1) (pgm 48 rfl)) lc_0 ?_
        refine so_last X (rk_12_38 this hk) (dkX12_tray (88, .lastore, 1) (pgm 49 rfl)) (fun h9 => ?_)
        refine so_iinc (i := 4) X 2 (dkX12_tray (89, .iinc 4 1, 3) (pgm 50 rfl)) rfl rfl (by decide) (Lf := fun x10 => [(4, .int x10), (0, .ref this), (1, .int a1)]) (fun _ => rfl) (fun x10 => ?_)
        refine so_goto (tgt := 69) X (dkX12_tray (92, .goto (-23), 3) (pgm 51 rfl)) rfl ?_
        exact so_pick X [1, 2, 0] rfl (hrec69 x10 h9)
    · exact so_vret X hr hlk (dkX12_tray (51, .return_, 1) (pgm 25 rfl))
  refine so_if_ne (tgt := 12) X (dkX12_tray (5, .ifCond .ne 7, 3) (pgm 3 rfl)) rfl (fun _ => ?_) (fun _ => ?_)
  · refine so_iload_n (i := 2) X 2 (dkX12_tray (12, .iload_n 2, 1) (pgm 6 rfl)) rfl rfl ?_
    refine so_i2l X (dkX12_tray (13, .i2l, 1) (pgm 7 rfl)) ?_
    refine so_lconst (v := (0 : Int64)) X (dkX12_tray (14, .lconst 0, 1) (pgm 8 rfl)) lc_0 ?_
    refine so_ldc2 X lk_2082 (dkX12_tray (15, .ldc2_w 349, 3) (pgm 9 rfl)) ?_
    refine so_callS (n := 3) (As := [.long a2.toInt64, .long (0 : Int64), .long (3 : Int64)]) X (ct_X12_within l a2.toInt64 (0 : Int64) (3 : Int64) h2 ) lk_1832 lk_1833 lk_134 lk_1834 (by decide +kernel) rfl rfl rfl (rm_ok (by omega) (by decide)) ⟨Nat.zero_le _, Nat.zero_le _⟩ (Nat.le_of_ble_eq_true rfl) (dkX12_tray (18, .invokestatic 156, 3) (pgm 10 rfl)) (fun r11 h12 => ?_) rfl
    refine so_join (jf := fun (h13 : PH) => j41 (2 : Int32) h13) (fun (j : PH → Option (Unit × PH)) => ∀  (h13 : PH), SWo (QM mkV below args s D cA ad A) p l e (rmd 2) s m args below meth c 0 0 5 D cA ad A 36 [(0, .ref this), (1, .int a1), (2, .int a2), (3, .int a3)] [.ref this] h13 (j h13)) ?_ (fun j36 hj36 => ?_)
    · intro h13
      refine so_iconst (v := (2 : Int32)) X (dkX12_tray (36, .iconst 2, 1) (pgm 18 rfl)) ic_2 ?_
      refine so_goto (tgt := 41) X (dkX12_tray (37, .goto 4, 3) (pgm 19 rfl)) rfl ?_
      exact so_pick X [0, 1, 2, 3] rfl (hj41 (2 : Int32) h13)
    refine so_if_eq (tgt := 36) X (dkX12_tray (21, .ifCond .eq 15, 3) (pgm 11 rfl)) rfl (fun _ => ?_) (fun _ => ?_)
    · exact so_pick X [0, 1, 2, 3] rfl (hj36 h12)
    · refine so_iload_n (i := 3) X 3 (dkX12_tray (24, .iload_n 3, 1) (pgm 12 rfl)) rfl rfl ?_
      refine so_i2l X (dkX12_tray (25, .i2l, 1) (pgm 13 rfl)) ?_
      refine so_lconst (v := (0 : Int64)) X (dkX12_tray (26, .lconst 0, 1) (pgm 14 rfl)) lc_0 ?_
      refine so_ldc2 X lk_2228 (dkX12_tray (27, .ldc2_w 435, 3) (pgm 15 rfl)) ?_
      refine so_callS (n := 3) (As := [.long a3.toInt64, .long (0 : Int64), .long (30 : Int64)]) X (ct_X12_within l a3.toInt64 (0 : Int64) (30 : Int64) h12 ) lk_1832 lk_1833 lk_134 lk_1834 (by decide +kernel) rfl rfl rfl (rm_ok (by omega) (by decide)) ⟨Nat.zero_le _, Nat.zero_le _⟩ (Nat.le_of_ble_eq_true rfl) (dkX12_tray (30, .invokestatic 156, 3) (pgm 16 rfl)) (fun r14 h15 => ?_) rfl
      refine so_if_ne (tgt := 40) X (dkX12_tray (33, .ifCond .ne 7, 3) (pgm 17 rfl)) rfl (fun _ => ?_) (fun _ => ?_)
      · refine so_iconst (v := (0 : Int32)) X (dkX12_tray (40, .iconst 0, 1) (pgm 20 rfl)) ic_0 ?_
        exact so_pick X [0, 1, 2, 3] rfl (hj41 (0 : Int32) h15)
      · exact so_pick X [0, 1, 2, 3] rfl (hj36 h15)
  · refine so_iconst (v := (1 : Int32)) X (dkX12_tray (8, .iconst 1, 1) (pgm 4 rfl)) ic_1 ?_
    refine so_goto (tgt := 41) X (dkX12_tray (9, .goto 32, 3) (pgm 5 rfl)) rfl ?_
    exact so_pick X [0, 1, 2, 3] rfl (hj41 (1 : Int32) h2)
def pgX12_cut : List (Nat × Instr × Nat) := [(0, .bipush 64, 2), (2, .bipush 8, 2), (4, .aload_n 0, 1), (5, .getfield 80, 3), (8, .iload_n 1, 1), (9, .iaload, 1), (10, .ishl, 1), (11, .isub, 1), (12, .istore 5, 2), (14, .aload_n 0, 1), (15, .getfield 86, 3), (18, .bipush 30, 2), (20, .iload_n 1, 1), (21, .imul, 1), (22, .iload_n 2, 1), (23, .iadd, 1), (24, .lload_n 3, 1), (25, .iload 5, 2), (27, .lshl, 1), (28, .iload 5, 2), (30, .lshr, 1), (31, .lastore, 1), (32, .aload_n 0, 1), (33, .getfield 86, 3), (36, .bipush 30, 2), (38, .iload_n 1, 1), (39, .imul, 1), (40, .iload_n 2, 1), (41, .iadd, 1), (42, .laload, 1), (43, .lreturn, 1)]
theorem dkX12_cut : ∀ q ∈ pgX12_cut, decode cX12_cut q.1 = .ok q.2 := by decide +kernel
def f_X12_cut (this : Nat) (a1 : Int32) (a2 : Int32) (a3 : Int64) (h0 : PH) : Option (Int64 × PH) :=
  ldI h0 (rt this 36) 4 a1 (fun (x1 : Int32) => lt ((64 : Int32) - ((8 : Int32) <<< (x1 &&& 31))) (fun (x2 : Int32) => stL h0 (rt this 38) 120 (((30 : Int32) * a1) + a2) ((a3 <<< (x2.toInt64 &&& 63)) >>> (x2.toInt64 &&& 63)) (fun (h3 : PH) => ldL h3 (rt this 38) 120 (((30 : Int32) * a1) + a2) (fun (x4 : Int64) => some (x4, h3)))))
set_option maxRecDepth 100000 in
set_option maxHeartbeats 4000000 in
theorem ct_X12_cut (l : Launch) (this : Nat) (a1 : Int32) (a2 : Int32) (a3 : Int64) (h0 : PH) (hk : (kd this).1 = 12) : CT mkL l yX12_cut cX12_cut 6 (some .long) (rmd 0) [.ref this, .int a1, .int a2, .long a3] h0 (f_X12_cut this a1 a2 a3 h0) := by
  refine ct_of (by decide) (Nat.le_of_ble_eq_true rfl) ?_
  intro p e s m args below meth c D cA ad A X hr hlk
  have X : Cx p s m args c RX12 cX12_cut 6 D cA ad A := X
  unfold f_X12_cut
  refine so_pick (L' := [(0, .ref this), (1, .int a1), (2, .int a2), (3, .long a3)]) X [0, 1, 2, 3] rfl ?_
  refine so_bipush (v := (64 : Int32)) X (dkX12_cut (0, .bipush 64, 2) (pgm 0 rfl)) bp_64 ?_
  refine so_bipush (v := (8 : Int32)) X (dkX12_cut (2, .bipush 8, 2) (pgm 1 rfl)) bp_8 ?_
  refine so_aload_n (i := 0) X 0 (dkX12_cut (4, .aload_n 0, 1) (pgm 2 rfl)) rfl rfl ?_
  refine sf_getR X ff_12_36 lk_1738 hk (dkX12_cut (5, .getfield 80, 3) (pgm 3 rfl)) ?_
  refine so_iload_n (i := 1) X 1 (dkX12_cut (8, .iload_n 1, 1) (pgm 4 rfl)) rfl rfl ?_
  refine so_iald X (rk_12_36 this hk) (dkX12_cut (9, .iaload, 1) (pgm 5 rfl)) (fun x1 => ?_)
  refine so_ishl X (dkX12_cut (10, .ishl, 1) (pgm 6 rfl)) ?_
  refine so_isub X (dkX12_cut (11, .isub, 1) (pgm 7 rfl)) ?_
  refine so_istore (i := 5) X (dkX12_cut (12, .istore 5, 2) (pgm 8 rfl)) (by decide) (Lf := fun x2 => [(5, .int x2), (0, .ref this), (1, .int a1), (2, .int a2), (3, .long a3)]) (fun _ => rfl) (fun x2 => ?_)
  refine so_aload_n (i := 0) X 1 (dkX12_cut (14, .aload_n 0, 1) (pgm 9 rfl)) rfl rfl ?_
  refine sf_getR X ff_12_38 lk_1740 hk (dkX12_cut (15, .getfield 86, 3) (pgm 10 rfl)) ?_
  refine so_bipush (v := (30 : Int32)) X (dkX12_cut (18, .bipush 30, 2) (pgm 11 rfl)) bp_30 ?_
  refine so_iload_n (i := 1) X 2 (dkX12_cut (20, .iload_n 1, 1) (pgm 12 rfl)) rfl rfl ?_
  refine so_imul X (dkX12_cut (21, .imul, 1) (pgm 13 rfl)) ?_
  refine so_iload_n (i := 2) X 3 (dkX12_cut (22, .iload_n 2, 1) (pgm 14 rfl)) rfl rfl ?_
  refine so_iadd X (dkX12_cut (23, .iadd, 1) (pgm 15 rfl)) ?_
  refine so_lload_n (i := 3) X 4 (dkX12_cut (24, .lload_n 3, 1) (pgm 16 rfl)) rfl rfl ?_
  refine so_iload (i := 5) X 0 (dkX12_cut (25, .iload 5, 2) (pgm 17 rfl)) rfl ?_
  refine so_lshl X (dkX12_cut (27, .lshl, 1) (pgm 18 rfl)) ?_
  refine so_iload (i := 5) X 0 (dkX12_cut (28, .iload 5, 2) (pgm 19 rfl)) rfl ?_
  refine so_lshr X (dkX12_cut (30, .lshr, 1) (pgm 20 rfl)) ?_
  refine so_last X (rk_12_38 this hk) (dkX12_cut (31, .lastore, 1) (pgm 21 rfl)) (fun h3 => ?_)
  refine so_aload_n (i := 0) X 1 (dkX12_cut (32, .aload_n 0, 1) (pgm 22 rfl)) rfl rfl ?_
  refine sf_getR X ff_12_38 lk_1740 hk (dkX12_cut (33, .getfield 86, 3) (pgm 23 rfl)) ?_
  refine so_bipush (v := (30 : Int32)) X (dkX12_cut (36, .bipush 30, 2) (pgm 24 rfl)) bp_30 ?_
  refine so_iload_n (i := 1) X 2 (dkX12_cut (38, .iload_n 1, 1) (pgm 25 rfl)) rfl rfl ?_
  refine so_imul X (dkX12_cut (39, .imul, 1) (pgm 26 rfl)) ?_
  refine so_iload_n (i := 2) X 3 (dkX12_cut (40, .iload_n 2, 1) (pgm 27 rfl)) rfl rfl ?_
  refine so_iadd X (dkX12_cut (41, .iadd, 1) (pgm 28 rfl)) ?_
  refine so_lald X (rk_12_38 this hk) (dkX12_cut (42, .laload, 1) (pgm 29 rfl)) (fun x4 => ?_)
  exact so_lret X hr hlk (dkX12_cut (43, .lreturn, 1) (pgm 30 rfl))
def pgX12_image : List (Nat × Instr × Nat) := [(0, .aload_n 0, 1), (1, .iload_n 1, 1), (2, .i2l, 1), (3, .lconst 0, 1), (4, .ldc2_w 325, 3), (7, .invokestatic 156, 3), (10, .ifCond .eq 7, 3), (13, .iconst 0, 1), (14, .goto 4, 3), (17, .iconst 1, 1), (18, .putfield 92, 3), (21, .aload_n 0, 1), (22, .getfield 92, 3), (25, .ifCond .le 4, 3), (28, .return_, 1), (29, .aload_n 0, 1), (30, .getfield 22, 3), (33, .iload_n 1, 1), (34, .iconst 1, 1), (35, .bastore, 1), (36, .iconst 0, 1), (37, .istore_n 2, 1), (38, .iload_n 2, 1), (39, .sipush 1200, 3), (42, .if_icmp .ge 27, 3), (45, .aload_n 0, 1), (46, .getfield 16, 3), (49, .sipush 1200, 3), (52, .iload_n 1, 1), (53, .imul, 1), (54, .iload_n 2, 1), (55, .iadd, 1), (56, .aload_n 0, 1), (57, .getfield 9, 3), (60, .iload_n 2, 1), (61, .iaload, 1), (62, .iastore, 1), (63, .iinc 2 1, 3), (66, .goto (-28), 3), (69, .return_, 1)]
theorem dkX12_image : ∀ q ∈ pgX12_image, decode cX12_image q.1 = .ok q.2 := by decide +kernel
def b_X12_image_38 (this : Nat) (a1 : Int32) (rec38 : (Int32) → PH → Option (Unit × PH)) (s38 : Int32) (hh38 : PH) : Option (Unit × PH) :=
  if (1200 : Int32) ≤ s38 then (some ((), hh38)) else (ldI hh38 (rt this 0) 1200 s38 (fun (x8 : Int32) => stI hh38 (rt this 2) 3600 (((1200 : Int32) * a1) + s38) x8 (fun (h9 : PH) => lt (s38 + Int32.ofInt 1) (fun (x10 : Int32) => rec38 x10 h9))))
def f_X12_image (this : Nat) (a1 : Int32) (h0 : PH) : Option (Unit × PH) :=
  cb (f_X12_within a1.toInt64 (0 : Int64) (2 : Int64) h0) (fun (r1 : Int32) (h2 : PH) => lt (fun (t3 : Int32) (h4 : PH) => lt (pI h4 this 5 t3) (fun (h5 : PH) => if (h5.1 this 5) ≤ 0 then (stI h5 (rt this 4) 3 a1 (vp_nar .boolean (1 : Int32)) (fun (h6 : PH) => lt (0 : Int32) (fun (x7 : Int32) => lp (b_X12_image_38 this a1) FU x7 h6))) else (some ((), h5)))) (fun (j18 : Int32 → PH → Option (Unit × PH)) => if r1 = 0 then (j18 (1 : Int32) h2) else (j18 (0 : Int32) h2)))
set_option maxRecDepth 100000 in
set_option maxHeartbeats 4000000 in
theorem ct_X12_image (l : Launch) (this : Nat) (a1 : Int32) (h0 : PH) (hk : (kd this).1 = 12) : CT mkV l yX12_image cX12_image 3 none (rmd 1) [.ref this, .int a1] h0 (f_X12_image this a1 h0) := by
  refine ct_of (by decide) (Nat.le_of_ble_eq_true rfl) ?_
  intro p e s m args below meth c D cA ad A X hr hlk
  have X : Cx p s m args c RX12 cX12_image 3 D cA ad A := X
  unfold f_X12_image
  refine so_pick (L' := [(0, .ref this), (1, .int a1)]) X [0, 1] rfl ?_
  refine so_aload_n (i := 0) X 0 (dkX12_image (0, .aload_n 0, 1) (pgm 0 rfl)) rfl rfl ?_
  refine so_iload_n (i := 1) X 1 (dkX12_image (1, .iload_n 1, 1) (pgm 1 rfl)) rfl rfl ?_
  refine so_i2l X (dkX12_image (2, .i2l, 1) (pgm 2 rfl)) ?_
  refine so_lconst (v := (0 : Int64)) X (dkX12_image (3, .lconst 0, 1) (pgm 3 rfl)) lc_0 ?_
  refine so_ldc2 X lk_2034 (dkX12_image (4, .ldc2_w 325, 3) (pgm 4 rfl)) ?_
  refine so_callS (n := 3) (As := [.long a1.toInt64, .long (0 : Int64), .long (2 : Int64)]) X (ct_X12_within l a1.toInt64 (0 : Int64) (2 : Int64) h0 ) lk_1832 lk_1833 lk_134 lk_1834 (by decide +kernel) rfl rfl rfl (rm_ok (by omega) (by decide)) ⟨Nat.zero_le _, Nat.zero_le _⟩ (Nat.le_of_ble_eq_true rfl) (dkX12_image (7, .invokestatic 156, 3) (pgm 5 rfl)) (fun r1 h2 => ?_) rfl
  refine so_join (jf := fun (t3 : Int32) (h4 : PH) => lt (pI h4 this 5 t3) (fun (h5 : PH) => if (h5.1 this 5) ≤ 0 then (stI h5 (rt this 4) 3 a1 (vp_nar .boolean (1 : Int32)) (fun (h6 : PH) => lt (0 : Int32) (fun (x7 : Int32) => lp (b_X12_image_38 this a1) FU x7 h6))) else (some ((), h5)))) (fun (j : Int32 → PH → Option (Unit × PH)) => ∀ (t3 : Int32) (h4 : PH), SWo (QM mkV below args s D cA ad A) p l e (rmd 1) s m args below meth c 0 0 3 D cA ad A 18 [(0, .ref this), (1, .int a1)] [.int t3, .ref this] h4 (j t3 h4)) ?_ (fun j18 hj18 => ?_)
  · intro t3 h4
    refine sf_putI X ff_12_5 ft_12 rfl lk_1707 hk rfl rfl (dkX12_image (18, .putfield 92, 3) (pgm 10 rfl)) (fun h5 => ?_)
    refine so_aload_n (i := 0) X 0 (dkX12_image (21, .aload_n 0, 1) (pgm 11 rfl)) rfl rfl ?_
    refine sf_getI X ff_12_5 lk_1707 hk (dkX12_image (22, .getfield 92, 3) (pgm 12 rfl)) ?_
    refine so_if_le (tgt := 29) X (dkX12_image (25, .ifCond .le 4, 3) (pgm 13 rfl)) rfl (fun _ => ?_) (fun _ => ?_)
    · refine so_aload_n (i := 0) X 0 (dkX12_image (29, .aload_n 0, 1) (pgm 15 rfl)) rfl rfl ?_
      refine sf_getR X ff_12_4 lk_1706 hk (dkX12_image (30, .getfield 22, 3) (pgm 16 rfl)) ?_
      refine so_iload_n (i := 1) X 1 (dkX12_image (33, .iload_n 1, 1) (pgm 17 rfl)) rfl rfl ?_
      refine so_iconst (v := (1 : Int32)) X (dkX12_image (34, .iconst 1, 1) (pgm 18 rfl)) ic_1 ?_
      refine so_zast X (rk_12_4 this hk) (dkX12_image (35, .bastore, 1) (pgm 19 rfl)) (fun h6 => ?_)
      refine so_iconst (v := (0 : Int32)) X (dkX12_image (36, .iconst 0, 1) (pgm 20 rfl)) ic_0 ?_
      refine so_istore_n (i := 2) X (dkX12_image (37, .istore_n 2, 1) (pgm 21 rfl)) rfl (by decide) (Lf := fun x7 => [(2, .int x7), (0, .ref this), (1, .int a1)]) (fun _ => rfl) (fun x7 => ?_)
      refine so_pick (L' := [(0, .ref this), (1, .int a1), (2, .int x7)]) X [1, 2, 0] rfl ?_
      refine so_loop (body := b_X12_image_38 this a1) (fun (s38 : Int32) => [(0, .ref this), (1, .int a1), (2, .int s38)]) (fun rec38 hrec38 s38 hh38 => ?_) FU x7 h6
      unfold b_X12_image_38
      refine so_iload_n (i := 2) X 2 (dkX12_image (38, .iload_n 2, 1) (pgm 22 rfl)) rfl rfl ?_
      refine so_sipush (v := (1200 : Int32)) X (dkX12_image (39, .sipush 1200, 3) (pgm 23 rfl)) sp_1200 ?_
      refine so_icmp_ge (tgt := 69) X (dkX12_image (42, .if_icmp .ge 27, 3) (pgm 24 rfl)) rfl (fun _ => ?_) (fun _ => ?_)
      · exact so_vret X hr hlk (dkX12_image (69, .return_, 1) (pgm 39 rfl))
      · refine so_aload_n (i := 0) X 0 (dkX12_image (45, .aload_n 0, 1) (pgm 25 rfl)) rfl rfl ?_
        refine sf_getR X ff_12_2 lk_1704 hk (dkX12_image (46, .getfield 16, 3) (pgm 26 rfl)) ?_
        refine so_sipush (v := (1200 : Int32)) X (dkX12_image (49, .sipush 1200, 3) (pgm 27 rfl)) sp_1200 ?_
        refine so_iload_n (i := 1) X 1 (dkX12_image (52, .iload_n 1, 1) (pgm 28 rfl)) rfl rfl ?_
        refine so_imul X (dkX12_image (53, .imul, 1) (pgm 29 rfl)) ?_
        refine so_iload_n (i := 2) X 2 (dkX12_image (54, .iload_n 2, 1) (pgm 30 rfl)) rfl rfl ?_
        refine so_iadd X (dkX12_image (55, .iadd, 1) (pgm 31 rfl)) ?_
        refine so_aload_n (i := 0) X 0 (dkX12_image (56, .aload_n 0, 1) (pgm 32 rfl)) rfl rfl ?_
        refine sf_getR X ff_12_0 lk_1702 hk (dkX12_image (57, .getfield 9, 3) (pgm 33 rfl)) ?_
        refine so_iload_n (i := 2) X 2 (dkX12_image (60, .iload_n 2, 1) (pgm 34 rfl)) rfl rfl ?_
        refine so_iald X (rk_12_0 this hk) (dkX12_image (61, .iaload, 1) (pgm 35 rfl)) (fun x8 => ?_)
        refine so_iast X (rk_12_2 this hk) (dkX12_image (62, .iastore, 1) (pgm 36 rfl)) (fun h9 => ?_)
        refine so_iinc (i := 2) X 2 (dkX12_image (63, .iinc 2 1, 3) (pgm 37 rfl)) rfl rfl (by decide) (Lf := fun x10 => [(2, .int x10), (0, .ref this), (1, .int a1)]) (fun _ => rfl) (fun x10 => ?_)
        refine so_goto (tgt := 38) X (dkX12_image (66, .goto (-28), 3) (pgm 38 rfl)) rfl ?_
        exact so_pick X [1, 2, 0] rfl (hrec38 x10 h9)
    · exact so_vret X hr hlk (dkX12_image (28, .return_, 1) (pgm 14 rfl))
  refine so_if_eq (tgt := 17) X (dkX12_image (10, .ifCond .eq 7, 3) (pgm 6 rfl)) rfl (fun _ => ?_) (fun _ => ?_)
  · refine so_iconst (v := (1 : Int32)) X (dkX12_image (17, .iconst 1, 1) (pgm 9 rfl)) ic_1 ?_
    exact so_pick X [0, 1] rfl (hj18 (1 : Int32) h2)
  · refine so_iconst (v := (0 : Int32)) X (dkX12_image (13, .iconst 0, 1) (pgm 7 rfl)) ic_0 ?_
    refine so_goto (tgt := 18) X (dkX12_image (14, .goto 4, 3) (pgm 8 rfl)) rfl ?_
    exact so_pick X [0, 1] rfl (hj18 (0 : Int32) h2)
def pgX12_restore : List (Nat × Instr × Nat) := [(0, .aload_n 0, 1), (1, .iload_n 1, 1), (2, .i2l, 1), (3, .lconst 0, 1), (4, .ldc2_w 325, 3), (7, .invokestatic 156, 3), (10, .ifCond .ne 7, 3), (13, .iconst 1, 1), (14, .goto 17, 3), (17, .aload_n 0, 1), (18, .getfield 22, 3), (21, .iload_n 1, 1), (22, .baload, 1), (23, .ifCond .ne 7, 3), (26, .iconst 2, 1), (27, .goto 4, 3), (30, .iconst 0, 1), (31, .putfield 92, 3), (34, .aload_n 0, 1), (35, .getfield 92, 3), (38, .ifCond .le 4, 3), (41, .return_, 1), (42, .iconst 0, 1), (43, .istore_n 2, 1), (44, .iload_n 2, 1), (45, .sipush 1200, 3), (48, .if_icmp .ge 27, 3), (51, .aload_n 0, 1), (52, .getfield 9, 3), (55, .iload_n 2, 1), (56, .aload_n 0, 1), (57, .getfield 16, 3), (60, .sipush 1200, 3), (63, .iload_n 1, 1), (64, .imul, 1), (65, .iload_n 2, 1), (66, .iadd, 1), (67, .iaload, 1), (68, .iastore, 1), (69, .iinc 2 1, 3), (72, .goto (-28), 3), (75, .aload_n 0, 1), (76, .invokevirtual 89, 3), (79, .return_, 1)]
theorem dkX12_restore : ∀ q ∈ pgX12_restore, decode cX12_restore q.1 = .ok q.2 := by decide +kernel
def b_X12_restore_44 (this : Nat) (a1 : Int32) (j75 : PH → Option (Unit × PH)) (rec44 : (Int32) → PH → Option (Unit × PH)) (s44 : Int32) (hh44 : PH) : Option (Unit × PH) :=
  if (1200 : Int32) ≤ s44 then (j75 hh44) else (ldI hh44 (rt this 2) 3600 (((1200 : Int32) * a1) + s44) (fun (x10 : Int32) => stI hh44 (rt this 0) 1200 s44 x10 (fun (h11 : PH) => lt (s44 + Int32.ofInt 1) (fun (x12 : Int32) => rec44 x12 h11))))
def f_X12_restore (this : Nat) (a1 : Int32) (h0 : PH) : Option (Unit × PH) :=
  cb (f_X12_within a1.toInt64 (0 : Int64) (2 : Int64) h0) (fun (r1 : Int32) (h2 : PH) => lt (fun (t3 : Int32) (h4 : PH) => lt (pI h4 this 5 t3) (fun (h5 : PH) => if (h5.1 this 5) ≤ 0 then (lt (0 : Int32) (fun (x6 : Int32) => lt (fun (h7 : PH) => cb (f_X12_laysTruths this h7) (fun (r8 : Unit) (h9 : PH) => some ((), h9))) (fun (j75 : PH → Option (Unit × PH)) => lp (b_X12_restore_44 this a1 j75) FU x6 h5))) else (some ((), h5)))) (fun (j31 : Int32 → PH → Option (Unit × PH)) => if r1 = 0 then (j31 (1 : Int32) h2) else (ldI h2 (rt this 4) 3 a1 (fun (x13 : Int32) => if x13 = 0 then (j31 (2 : Int32) h2) else (j31 (0 : Int32) h2)))))
set_option maxRecDepth 100000 in
set_option maxHeartbeats 4000000 in
theorem ct_X12_restore (l : Launch) (this : Nat) (a1 : Int32) (h0 : PH) (hk : (kd this).1 = 12) : CT mkV l yX12_restore cX12_restore 3 none (rmd 5) [.ref this, .int a1] h0 (f_X12_restore this a1 h0) := by
  refine ct_of (by decide) (Nat.le_of_ble_eq_true rfl) ?_
  intro p e s m args below meth c D cA ad A X hr hlk
  have X : Cx p s m args c RX12 cX12_restore 3 D cA ad A := X
  unfold f_X12_restore
  refine so_pick (L' := [(0, .ref this), (1, .int a1)]) X [0, 1] rfl ?_
  refine so_aload_n (i := 0) X 0 (dkX12_restore (0, .aload_n 0, 1) (pgm 0 rfl)) rfl rfl ?_
  refine so_iload_n (i := 1) X 1 (dkX12_restore (1, .iload_n 1, 1) (pgm 1 rfl)) rfl rfl ?_
  refine so_i2l X (dkX12_restore (2, .i2l, 1) (pgm 2 rfl)) ?_
  refine so_lconst (v := (0 : Int64)) X (dkX12_restore (3, .lconst 0, 1) (pgm 3 rfl)) lc_0 ?_
  refine so_ldc2 X lk_2034 (dkX12_restore (4, .ldc2_w 325, 3) (pgm 4 rfl)) ?_
  refine so_callS (n := 3) (As := [.long a1.toInt64, .long (0 : Int64), .long (2 : Int64)]) X (ct_X12_within l a1.toInt64 (0 : Int64) (2 : Int64) h0 ) lk_1832 lk_1833 lk_134 lk_1834 (by decide +kernel) rfl rfl rfl (rm_ok (by omega) (by decide)) ⟨Nat.zero_le _, Nat.zero_le _⟩ (Nat.le_of_ble_eq_true rfl) (dkX12_restore (7, .invokestatic 156, 3) (pgm 5 rfl)) (fun r1 h2 => ?_) rfl
  refine so_join (jf := fun (t3 : Int32) (h4 : PH) => lt (pI h4 this 5 t3) (fun (h5 : PH) => if (h5.1 this 5) ≤ 0 then (lt (0 : Int32) (fun (x6 : Int32) => lt (fun (h7 : PH) => cb (f_X12_laysTruths this h7) (fun (r8 : Unit) (h9 : PH) => some ((), h9))) (fun (j75 : PH → Option (Unit × PH)) => lp (b_X12_restore_44 this a1 j75) FU x6 h5))) else (some ((), h5)))) (fun (j : Int32 → PH → Option (Unit × PH)) => ∀ (t3 : Int32) (h4 : PH), SWo (QM mkV below args s D cA ad A) p l e (rmd 5) s m args below meth c 0 0 3 D cA ad A 31 [(0, .ref this), (1, .int a1)] [.int t3, .ref this] h4 (j t3 h4)) ?_ (fun j31 hj31 => ?_)
  · intro t3 h4
    refine sf_putI X ff_12_5 ft_12 rfl lk_1707 hk rfl rfl (dkX12_restore (31, .putfield 92, 3) (pgm 17 rfl)) (fun h5 => ?_)
    refine so_aload_n (i := 0) X 0 (dkX12_restore (34, .aload_n 0, 1) (pgm 18 rfl)) rfl rfl ?_
    refine sf_getI X ff_12_5 lk_1707 hk (dkX12_restore (35, .getfield 92, 3) (pgm 19 rfl)) ?_
    refine so_if_le (tgt := 42) X (dkX12_restore (38, .ifCond .le 4, 3) (pgm 20 rfl)) rfl (fun _ => ?_) (fun _ => ?_)
    · refine so_iconst (v := (0 : Int32)) X (dkX12_restore (42, .iconst 0, 1) (pgm 22 rfl)) ic_0 ?_
      refine so_istore_n (i := 2) X (dkX12_restore (43, .istore_n 2, 1) (pgm 23 rfl)) rfl (by decide) (Lf := fun x6 => [(2, .int x6), (0, .ref this), (1, .int a1)]) (fun _ => rfl) (fun x6 => ?_)
      refine so_join (jf := fun (h7 : PH) => cb (f_X12_laysTruths this h7) (fun (r8 : Unit) (h9 : PH) => some ((), h9))) (fun (j : PH → Option (Unit × PH)) => ∀  (h7 : PH), SWo (QM mkV below args s D cA ad A) p l e (rmd 5) s m args below meth c 0 0 3 D cA ad A 75 [(0, .ref this)] [] h7 (j h7)) ?_ (fun j75 hj75 => ?_)
      · intro h7
        refine so_aload_n (i := 0) X 0 (dkX12_restore (75, .aload_n 0, 1) (pgm 41 rfl)) rfl rfl ?_
        refine so_callV (n := 0) (As := []) X (ct_X12_laysTruths l this h7 hk) hk (by decide) rfl lk_1660 lk_1662 lk_55 lk_134 lk_1663 (by decide +kernel) rfl rfl rfl (rm_ok (by omega) (by decide)) ⟨Nat.zero_le _, Nat.zero_le _⟩ (Nat.le_of_ble_eq_true rfl) (dkX12_restore (76, .invokevirtual 89, 3) (pgm 42 rfl)) (fun r8 h9 => ?_) rfl
        exact so_vret X hr hlk (dkX12_restore (79, .return_, 1) (pgm 43 rfl))
      refine so_pick (L' := [(0, .ref this), (1, .int a1), (2, .int x6)]) X [1, 2, 0] rfl ?_
      refine so_loop (body := b_X12_restore_44 this a1 j75) (fun (s44 : Int32) => [(0, .ref this), (1, .int a1), (2, .int s44)]) (fun rec44 hrec44 s44 hh44 => ?_) FU x6 h5
      unfold b_X12_restore_44
      refine so_iload_n (i := 2) X 2 (dkX12_restore (44, .iload_n 2, 1) (pgm 24 rfl)) rfl rfl ?_
      refine so_sipush (v := (1200 : Int32)) X (dkX12_restore (45, .sipush 1200, 3) (pgm 25 rfl)) sp_1200 ?_
      refine so_icmp_ge (tgt := 75) X (dkX12_restore (48, .if_icmp .ge 27, 3) (pgm 26 rfl)) rfl (fun _ => ?_) (fun _ => ?_)
      · exact so_pick X [0] rfl (hj75 hh44)
      · refine so_aload_n (i := 0) X 0 (dkX12_restore (51, .aload_n 0, 1) (pgm 27 rfl)) rfl rfl ?_
        refine sf_getR X ff_12_0 lk_1702 hk (dkX12_restore (52, .getfield 9, 3) (pgm 28 rfl)) ?_
        refine so_iload_n (i := 2) X 2 (dkX12_restore (55, .iload_n 2, 1) (pgm 29 rfl)) rfl rfl ?_
        refine so_aload_n (i := 0) X 0 (dkX12_restore (56, .aload_n 0, 1) (pgm 30 rfl)) rfl rfl ?_
        refine sf_getR X ff_12_2 lk_1704 hk (dkX12_restore (57, .getfield 16, 3) (pgm 31 rfl)) ?_
        refine so_sipush (v := (1200 : Int32)) X (dkX12_restore (60, .sipush 1200, 3) (pgm 32 rfl)) sp_1200 ?_
        refine so_iload_n (i := 1) X 1 (dkX12_restore (63, .iload_n 1, 1) (pgm 33 rfl)) rfl rfl ?_
        refine so_imul X (dkX12_restore (64, .imul, 1) (pgm 34 rfl)) ?_
        refine so_iload_n (i := 2) X 2 (dkX12_restore (65, .iload_n 2, 1) (pgm 35 rfl)) rfl rfl ?_
        refine so_iadd X (dkX12_restore (66, .iadd, 1) (pgm 36 rfl)) ?_
        refine so_iald X (rk_12_2 this hk) (dkX12_restore (67, .iaload, 1) (pgm 37 rfl)) (fun x10 => ?_)
        refine so_iast X (rk_12_0 this hk) (dkX12_restore (68, .iastore, 1) (pgm 38 rfl)) (fun h11 => ?_)
        refine so_iinc (i := 2) X 2 (dkX12_restore (69, .iinc 2 1, 3) (pgm 39 rfl)) rfl rfl (by decide) (Lf := fun x12 => [(2, .int x12), (0, .ref this), (1, .int a1)]) (fun _ => rfl) (fun x12 => ?_)
        refine so_goto (tgt := 44) X (dkX12_restore (72, .goto (-28), 3) (pgm 40 rfl)) rfl ?_
        exact so_pick X [1, 2, 0] rfl (hrec44 x12 h11)
    · exact so_vret X hr hlk (dkX12_restore (41, .return_, 1) (pgm 21 rfl))
  refine so_if_ne (tgt := 17) X (dkX12_restore (10, .ifCond .ne 7, 3) (pgm 6 rfl)) rfl (fun _ => ?_) (fun _ => ?_)
  · refine so_aload_n (i := 0) X 0 (dkX12_restore (17, .aload_n 0, 1) (pgm 9 rfl)) rfl rfl ?_
    refine sf_getR X ff_12_4 lk_1706 hk (dkX12_restore (18, .getfield 22, 3) (pgm 10 rfl)) ?_
    refine so_iload_n (i := 1) X 1 (dkX12_restore (21, .iload_n 1, 1) (pgm 11 rfl)) rfl rfl ?_
    refine so_zald X (rk_12_4 this hk) (dkX12_restore (22, .baload, 1) (pgm 12 rfl)) (fun x13 => ?_)
    refine so_if_ne (tgt := 30) X (dkX12_restore (23, .ifCond .ne 7, 3) (pgm 13 rfl)) rfl (fun _ => ?_) (fun _ => ?_)
    · refine so_iconst (v := (0 : Int32)) X (dkX12_restore (30, .iconst 0, 1) (pgm 16 rfl)) ic_0 ?_
      exact so_pick X [0, 1] rfl (hj31 (0 : Int32) h2)
    · refine so_iconst (v := (2 : Int32)) X (dkX12_restore (26, .iconst 2, 1) (pgm 14 rfl)) ic_2 ?_
      refine so_goto (tgt := 31) X (dkX12_restore (27, .goto 4, 3) (pgm 15 rfl)) rfl ?_
      exact so_pick X [0, 1] rfl (hj31 (2 : Int32) h2)
  · refine so_iconst (v := (1 : Int32)) X (dkX12_restore (13, .iconst 1, 1) (pgm 7 rfl)) ic_1 ?_
    refine so_goto (tgt := 31) X (dkX12_restore (14, .goto 17, 3) (pgm 8 rfl)) rfl ?_
    exact so_pick X [0, 1] rfl (hj31 (1 : Int32) h2)
def pgX12_count : List (Nat × Instr × Nat) := [(0, .aload_n 0, 1), (1, .iconst 0, 1), (2, .putfield 92, 3), (5, .iconst 0, 1), (6, .istore_n 2, 1), (7, .iconst 0, 1), (8, .istore_n 3, 1), (9, .iload_n 3, 1), (10, .bipush 6, 2), (12, .if_icmp .ge 21, 3), (15, .iload_n 2, 1), (16, .aload_n 0, 1), (17, .getfield 9, 3), (20, .bipush 18, 2), (22, .iload_n 3, 1), (23, .iadd, 1), (24, .iaload, 1), (25, .iadd, 1), (26, .istore_n 2, 1), (27, .iinc 3 1, 3), (30, .goto (-21), 3), (33, .iload_n 1, 1), (34, .tableswitch 122 0 9 #[54, 61, 68, 75, 82, 89, 96, 107, 109, 117], 54), (88, .aload_n 0, 1), (89, .getfield 9, 3), (92, .iconst 0, 1), (93, .iaload, 1), (94, .ireturn, 1), (95, .aload_n 0, 1), (96, .getfield 9, 3), (99, .iconst 1, 1), (100, .iaload, 1), (101, .ireturn, 1), (102, .aload_n 0, 1), (103, .getfield 9, 3), (106, .iconst 2, 1), (107, .iaload, 1), (108, .ireturn, 1), (109, .aload_n 0, 1), (110, .getfield 9, 3), (113, .iconst 3, 1), (114, .iaload, 1), (115, .ireturn, 1), (116, .aload_n 0, 1), (117, .getfield 9, 3), (120, .iconst 4, 1), (121, .iaload, 1), (122, .ireturn, 1), (123, .aload_n 0, 1), (124, .getfield 9, 3), (127, .iconst 5, 1), (128, .iaload, 1), (129, .ireturn, 1), (130, .aload_n 0, 1), (131, .getfield 9, 3), (134, .bipush 7, 2), (136, .iaload, 1), (137, .invokestatic 269, 3), (140, .ireturn, 1), (141, .iload_n 2, 1), (142, .ireturn, 1), (143, .aload_n 0, 1), (144, .getfield 9, 3), (147, .bipush 6, 2), (149, .iaload, 1), (150, .ireturn, 1), (151, .aload_n 0, 1), (152, .getfield 95, 3), (155, .ireturn, 1), (156, .iconst (-1), 1), (157, .ireturn, 1)]
theorem dkX12_count : ∀ q ∈ pgX12_count, decode cX12_count q.1 = .ok q.2 := by decide +kernel
def b_X12_count_9 (this : Nat) (j33 : Int32 → PH → Option (Int32 × PH)) (rec9 : (Int32 × Int32) → PH → Option (Int32 × PH)) (s9 : Int32 × Int32) (hh9 : PH) : Option (Int32 × PH) :=
  if (6 : Int32) ≤ s9.2 then (j33 s9.1 hh9) else (ldI hh9 (rt this 0) 1200 ((18 : Int32) + s9.2) (fun (x16 : Int32) => lt (s9.1 + x16) (fun (x17 : Int32) => lt (s9.2 + Int32.ofInt 1) (fun (x18 : Int32) => rec9 (x17, x18) hh9))))
def f_X12_count (this : Nat) (a1 : Int32) (h0 : PH) : Option (Int32 × PH) :=
  lt (pI h0 this 5 (0 : Int32)) (fun (h1 : PH) => lt (0 : Int32) (fun (x2 : Int32) => lt (0 : Int32) (fun (x3 : Int32) => lt (fun (y4 : Int32) (h5 : PH) => if a1.toInt < 0 ∨ 9 < a1.toInt then (some ((-1 : Int32), h5)) else ([ldI h5 (rt this 0) 1200 (0 : Int32) (fun (x6 : Int32) => some (x6, h5)), ldI h5 (rt this 0) 1200 (1 : Int32) (fun (x7 : Int32) => some (x7, h5)), ldI h5 (rt this 0) 1200 (2 : Int32) (fun (x8 : Int32) => some (x8, h5)), ldI h5 (rt this 0) 1200 (3 : Int32) (fun (x9 : Int32) => some (x9, h5)), ldI h5 (rt this 0) 1200 (4 : Int32) (fun (x10 : Int32) => some (x10, h5)), ldI h5 (rt this 0) 1200 (5 : Int32) (fun (x11 : Int32) => some (x11, h5)), ldI h5 (rt this 0) 1200 (7 : Int32) (fun (x12 : Int32) => cb (f_X12_size x12 h5) (fun (r13 : Int32) (h14 : PH) => some (r13, h14))), some (y4, h5), ldI h5 (rt this 0) 1200 (6 : Int32) (fun (x15 : Int32) => some (x15, h5)), some ((h5.1 this 7), h5)] : List (Option (Int32 × PH))).getD (a1.toInt - 0).toNat none) (fun (j33 : Int32 → PH → Option (Int32 × PH)) => lp (b_X12_count_9 this j33) FU (x2, x3) h1))))
set_option maxRecDepth 100000 in
set_option maxHeartbeats 4000000 in
theorem ct_X12_count (l : Launch) (this : Nat) (a1 : Int32) (h0 : PH) (hk : (kd this).1 = 12) : CT mkI l yX12_count cX12_count 4 (some .int) (rmd 1) [.ref this, .int a1] h0 (f_X12_count this a1 h0) := by
  refine ct_of (by decide) (Nat.le_of_ble_eq_true rfl) ?_
  intro p e s m args below meth c D cA ad A X hr hlk
  have X : Cx p s m args c RX12 cX12_count 4 D cA ad A := X
  unfold f_X12_count
  refine so_pick (L' := [(0, .ref this), (1, .int a1)]) X [0, 1] rfl ?_
  refine so_aload_n (i := 0) X 0 (dkX12_count (0, .aload_n 0, 1) (pgm 0 rfl)) rfl rfl ?_
  refine so_iconst (v := (0 : Int32)) X (dkX12_count (1, .iconst 0, 1) (pgm 1 rfl)) ic_0 ?_
  refine sf_putI X ff_12_5 ft_12 rfl lk_1707 hk rfl rfl (dkX12_count (2, .putfield 92, 3) (pgm 2 rfl)) (fun h1 => ?_)
  refine so_iconst (v := (0 : Int32)) X (dkX12_count (5, .iconst 0, 1) (pgm 3 rfl)) ic_0 ?_
  refine so_istore_n (i := 2) X (dkX12_count (6, .istore_n 2, 1) (pgm 4 rfl)) rfl (by decide) (Lf := fun x2 => [(2, .int x2), (0, .ref this), (1, .int a1)]) (fun _ => rfl) (fun x2 => ?_)
  refine so_iconst (v := (0 : Int32)) X (dkX12_count (7, .iconst 0, 1) (pgm 5 rfl)) ic_0 ?_
  refine so_istore_n (i := 3) X (dkX12_count (8, .istore_n 3, 1) (pgm 6 rfl)) rfl (by decide) (Lf := fun x3 => [(3, .int x3), (2, .int x2), (0, .ref this), (1, .int a1)]) (fun _ => rfl) (fun x3 => ?_)
  refine so_join (jf := fun (y4 : Int32) (h5 : PH) => if a1.toInt < 0 ∨ 9 < a1.toInt then (some ((-1 : Int32), h5)) else ([ldI h5 (rt this 0) 1200 (0 : Int32) (fun (x6 : Int32) => some (x6, h5)), ldI h5 (rt this 0) 1200 (1 : Int32) (fun (x7 : Int32) => some (x7, h5)), ldI h5 (rt this 0) 1200 (2 : Int32) (fun (x8 : Int32) => some (x8, h5)), ldI h5 (rt this 0) 1200 (3 : Int32) (fun (x9 : Int32) => some (x9, h5)), ldI h5 (rt this 0) 1200 (4 : Int32) (fun (x10 : Int32) => some (x10, h5)), ldI h5 (rt this 0) 1200 (5 : Int32) (fun (x11 : Int32) => some (x11, h5)), ldI h5 (rt this 0) 1200 (7 : Int32) (fun (x12 : Int32) => cb (f_X12_size x12 h5) (fun (r13 : Int32) (h14 : PH) => some (r13, h14))), some (y4, h5), ldI h5 (rt this 0) 1200 (6 : Int32) (fun (x15 : Int32) => some (x15, h5)), some ((h5.1 this 7), h5)] : List (Option (Int32 × PH))).getD (a1.toInt - 0).toNat none) (fun (j : Int32 → PH → Option (Int32 × PH)) => ∀ (y4 : Int32) (h5 : PH), SWo (QM mkI below args s D cA ad A) p l e (rmd 1) s m args below meth c 0 0 4 D cA ad A 33 [(0, .ref this), (1, .int a1), (2, .int y4)] [] h5 (j y4 h5)) ?_ (fun j33 hj33 => ?_)
  · intro y4 h5
    refine so_iload_n (i := 1) X 1 (dkX12_count (33, .iload_n 1, 1) (pgm 21 rfl)) rfl rfl ?_
    refine so_tsw (tgt := 156) (os := [ldI h5 (rt this 0) 1200 (0 : Int32) (fun (x6 : Int32) => some (x6, h5)), ldI h5 (rt this 0) 1200 (1 : Int32) (fun (x7 : Int32) => some (x7, h5)), ldI h5 (rt this 0) 1200 (2 : Int32) (fun (x8 : Int32) => some (x8, h5)), ldI h5 (rt this 0) 1200 (3 : Int32) (fun (x9 : Int32) => some (x9, h5)), ldI h5 (rt this 0) 1200 (4 : Int32) (fun (x10 : Int32) => some (x10, h5)), ldI h5 (rt this 0) 1200 (5 : Int32) (fun (x11 : Int32) => some (x11, h5)), ldI h5 (rt this 0) 1200 (7 : Int32) (fun (x12 : Int32) => cb (f_X12_size x12 h5) (fun (r13 : Int32) (h14 : PH) => some (r13, h14))), some (y4, h5), ldI h5 (rt this 0) 1200 (6 : Int32) (fun (x15 : Int32) => some (x15, h5)), some ((h5.1 this 7), h5)]) X (dkX12_count (34, .tableswitch 122 0 9 #[54, 61, 68, 75, 82, 89, 96, 107, 109, 117], 54) (pgm 22 rfl)) rfl ?_ ?_ rfl
    · refine so_iconst (v := (-1 : Int32)) X (dkX12_count (156, .iconst (-1), 1) (pgm 69 rfl)) ic_m1 ?_
      exact so_iret X hr hlk (dkX12_count (157, .ireturn, 1) (pgm 70 rfl))
    · intro kq ok hkq
      match kq, hkq with
      | 0, hkq =>
        obtain rfl := Option.some.inj hkq
        refine ⟨54, 88, rfl, rfl, ?_⟩
        refine so_aload_n (i := 0) X 0 (dkX12_count (88, .aload_n 0, 1) (pgm 23 rfl)) rfl rfl ?_
        refine sf_getR X ff_12_0 lk_1702 hk (dkX12_count (89, .getfield 9, 3) (pgm 24 rfl)) ?_
        refine so_iconst (v := (0 : Int32)) X (dkX12_count (92, .iconst 0, 1) (pgm 25 rfl)) ic_0 ?_
        refine so_iald X (rk_12_0 this hk) (dkX12_count (93, .iaload, 1) (pgm 26 rfl)) (fun x6 => ?_)
        exact so_iret X hr hlk (dkX12_count (94, .ireturn, 1) (pgm 27 rfl))
      | 1, hkq =>
        obtain rfl := Option.some.inj hkq
        refine ⟨61, 95, rfl, rfl, ?_⟩
        refine so_aload_n (i := 0) X 0 (dkX12_count (95, .aload_n 0, 1) (pgm 28 rfl)) rfl rfl ?_
        refine sf_getR X ff_12_0 lk_1702 hk (dkX12_count (96, .getfield 9, 3) (pgm 29 rfl)) ?_
        refine so_iconst (v := (1 : Int32)) X (dkX12_count (99, .iconst 1, 1) (pgm 30 rfl)) ic_1 ?_
        refine so_iald X (rk_12_0 this hk) (dkX12_count (100, .iaload, 1) (pgm 31 rfl)) (fun x7 => ?_)
        exact so_iret X hr hlk (dkX12_count (101, .ireturn, 1) (pgm 32 rfl))
      | 2, hkq =>
        obtain rfl := Option.some.inj hkq
        refine ⟨68, 102, rfl, rfl, ?_⟩
        refine so_aload_n (i := 0) X 0 (dkX12_count (102, .aload_n 0, 1) (pgm 33 rfl)) rfl rfl ?_
        refine sf_getR X ff_12_0 lk_1702 hk (dkX12_count (103, .getfield 9, 3) (pgm 34 rfl)) ?_
        refine so_iconst (v := (2 : Int32)) X (dkX12_count (106, .iconst 2, 1) (pgm 35 rfl)) ic_2 ?_
        refine so_iald X (rk_12_0 this hk) (dkX12_count (107, .iaload, 1) (pgm 36 rfl)) (fun x8 => ?_)
        exact so_iret X hr hlk (dkX12_count (108, .ireturn, 1) (pgm 37 rfl))
      | 3, hkq =>
        obtain rfl := Option.some.inj hkq
        refine ⟨75, 109, rfl, rfl, ?_⟩
        refine so_aload_n (i := 0) X 0 (dkX12_count (109, .aload_n 0, 1) (pgm 38 rfl)) rfl rfl ?_
        refine sf_getR X ff_12_0 lk_1702 hk (dkX12_count (110, .getfield 9, 3) (pgm 39 rfl)) ?_
        refine so_iconst (v := (3 : Int32)) X (dkX12_count (113, .iconst 3, 1) (pgm 40 rfl)) ic_3 ?_
        refine so_iald X (rk_12_0 this hk) (dkX12_count (114, .iaload, 1) (pgm 41 rfl)) (fun x9 => ?_)
        exact so_iret X hr hlk (dkX12_count (115, .ireturn, 1) (pgm 42 rfl))
      | 4, hkq =>
        obtain rfl := Option.some.inj hkq
        refine ⟨82, 116, rfl, rfl, ?_⟩
        refine so_aload_n (i := 0) X 0 (dkX12_count (116, .aload_n 0, 1) (pgm 43 rfl)) rfl rfl ?_
        refine sf_getR X ff_12_0 lk_1702 hk (dkX12_count (117, .getfield 9, 3) (pgm 44 rfl)) ?_
        refine so_iconst (v := (4 : Int32)) X (dkX12_count (120, .iconst 4, 1) (pgm 45 rfl)) ic_4 ?_
        refine so_iald X (rk_12_0 this hk) (dkX12_count (121, .iaload, 1) (pgm 46 rfl)) (fun x10 => ?_)
        exact so_iret X hr hlk (dkX12_count (122, .ireturn, 1) (pgm 47 rfl))
      | 5, hkq =>
        obtain rfl := Option.some.inj hkq
        refine ⟨89, 123, rfl, rfl, ?_⟩
        refine so_aload_n (i := 0) X 0 (dkX12_count (123, .aload_n 0, 1) (pgm 48 rfl)) rfl rfl ?_
        refine sf_getR X ff_12_0 lk_1702 hk (dkX12_count (124, .getfield 9, 3) (pgm 49 rfl)) ?_
        refine so_iconst (v := (5 : Int32)) X (dkX12_count (127, .iconst 5, 1) (pgm 50 rfl)) ic_5 ?_
        refine so_iald X (rk_12_0 this hk) (dkX12_count (128, .iaload, 1) (pgm 51 rfl)) (fun x11 => ?_)
        exact so_iret X hr hlk (dkX12_count (129, .ireturn, 1) (pgm 52 rfl))
      | 6, hkq =>
        obtain rfl := Option.some.inj hkq
        refine ⟨96, 130, rfl, rfl, ?_⟩
        refine so_aload_n (i := 0) X 0 (dkX12_count (130, .aload_n 0, 1) (pgm 53 rfl)) rfl rfl ?_
        refine sf_getR X ff_12_0 lk_1702 hk (dkX12_count (131, .getfield 9, 3) (pgm 54 rfl)) ?_
        refine so_bipush (v := (7 : Int32)) X (dkX12_count (134, .bipush 7, 2) (pgm 55 rfl)) bp_7 ?_
        refine so_iald X (rk_12_0 this hk) (dkX12_count (136, .iaload, 1) (pgm 56 rfl)) (fun x12 => ?_)
        refine so_callS (n := 1) (As := [.int x12]) X (ct_X12_size l x12 h5 ) lk_1687 lk_1688 lk_134 lk_1689 (by decide +kernel) rfl rfl rfl (rm_ok (by omega) (by decide)) ⟨Nat.zero_le _, Nat.zero_le _⟩ (Nat.le_of_ble_eq_true rfl) (dkX12_count (137, .invokestatic 269, 3) (pgm 57 rfl)) (fun r13 h14 => ?_) rfl
        exact so_iret X hr hlk (dkX12_count (140, .ireturn, 1) (pgm 58 rfl))
      | 7, hkq =>
        obtain rfl := Option.some.inj hkq
        refine ⟨107, 141, rfl, rfl, ?_⟩
        refine so_iload_n (i := 2) X 2 (dkX12_count (141, .iload_n 2, 1) (pgm 59 rfl)) rfl rfl ?_
        exact so_iret X hr hlk (dkX12_count (142, .ireturn, 1) (pgm 60 rfl))
      | 8, hkq =>
        obtain rfl := Option.some.inj hkq
        refine ⟨109, 143, rfl, rfl, ?_⟩
        refine so_aload_n (i := 0) X 0 (dkX12_count (143, .aload_n 0, 1) (pgm 61 rfl)) rfl rfl ?_
        refine sf_getR X ff_12_0 lk_1702 hk (dkX12_count (144, .getfield 9, 3) (pgm 62 rfl)) ?_
        refine so_bipush (v := (6 : Int32)) X (dkX12_count (147, .bipush 6, 2) (pgm 63 rfl)) bp_6 ?_
        refine so_iald X (rk_12_0 this hk) (dkX12_count (149, .iaload, 1) (pgm 64 rfl)) (fun x15 => ?_)
        exact so_iret X hr hlk (dkX12_count (150, .ireturn, 1) (pgm 65 rfl))
      | 9, hkq =>
        obtain rfl := Option.some.inj hkq
        refine ⟨117, 151, rfl, rfl, ?_⟩
        refine so_aload_n (i := 0) X 0 (dkX12_count (151, .aload_n 0, 1) (pgm 66 rfl)) rfl rfl ?_
        refine sf_getI X ff_12_7 lk_1709 hk (dkX12_count (152, .getfield 95, 3) (pgm 67 rfl)) ?_
        exact so_iret X hr hlk (dkX12_count (155, .ireturn, 1) (pgm 68 rfl))
      | kq + 10, hkq => simp at hkq
  refine so_pick (L' := [(0, .ref this), (1, .int a1), (2, .int x2), (3, .int x3)]) X [2, 3, 1, 0] rfl ?_
  refine so_loop (body := b_X12_count_9 this j33) (fun (s9 : Int32 × Int32) => [(0, .ref this), (1, .int a1), (2, .int s9.1), (3, .int s9.2)]) (fun rec9 hrec9 s9 hh9 => ?_) FU (x2, x3) h1
  unfold b_X12_count_9
  refine so_iload_n (i := 3) X 3 (dkX12_count (9, .iload_n 3, 1) (pgm 7 rfl)) rfl rfl ?_
  refine so_bipush (v := (6 : Int32)) X (dkX12_count (10, .bipush 6, 2) (pgm 8 rfl)) bp_6 ?_
  refine so_icmp_ge (tgt := 33) X (dkX12_count (12, .if_icmp .ge 21, 3) (pgm 9 rfl)) rfl (fun _ => ?_) (fun _ => ?_)
  · exact so_pick X [0, 1, 2] rfl (hj33 s9.1 hh9)
  · refine so_iload_n (i := 2) X 2 (dkX12_count (15, .iload_n 2, 1) (pgm 10 rfl)) rfl rfl ?_
    refine so_aload_n (i := 0) X 0 (dkX12_count (16, .aload_n 0, 1) (pgm 11 rfl)) rfl rfl ?_
    refine sf_getR X ff_12_0 lk_1702 hk (dkX12_count (17, .getfield 9, 3) (pgm 12 rfl)) ?_
    refine so_bipush (v := (18 : Int32)) X (dkX12_count (20, .bipush 18, 2) (pgm 13 rfl)) bp_18 ?_
    refine so_iload_n (i := 3) X 3 (dkX12_count (22, .iload_n 3, 1) (pgm 14 rfl)) rfl rfl ?_
    refine so_iadd X (dkX12_count (23, .iadd, 1) (pgm 15 rfl)) ?_
    refine so_iald X (rk_12_0 this hk) (dkX12_count (24, .iaload, 1) (pgm 16 rfl)) (fun x16 => ?_)
    refine so_iadd X (dkX12_count (25, .iadd, 1) (pgm 17 rfl)) ?_
    refine so_istore_n (i := 2) X (dkX12_count (26, .istore_n 2, 1) (pgm 18 rfl)) rfl (by decide) (Lf := fun x17 => [(2, .int x17), (0, .ref this), (1, .int a1), (3, .int s9.2)]) (fun _ => rfl) (fun x17 => ?_)
    refine so_iinc (i := 3) X 3 (dkX12_count (27, .iinc 3 1, 3) (pgm 19 rfl)) rfl rfl (by decide) (Lf := fun x18 => [(3, .int x18), (2, .int x17), (0, .ref this), (1, .int a1)]) (fun _ => rfl) (fun x18 => ?_)
    refine so_goto (tgt := 9) X (dkX12_count (30, .goto (-21), 3) (pgm 20 rfl)) rfl ?_
    exact so_pick X [2, 3, 1, 0] rfl (hrec9 (x17, x18) hh9)
def pgX12_readTruth : List (Nat × Instr × Nat) := [(0, .aload_n 0, 1), (1, .invokevirtual 163, 3), (4, .aload_n 0, 1), (5, .ldc 166, 2), (7, .invokevirtual 149, 3), (10, .ifCond .eq 16, 3), (13, .aload_n 0, 1), (14, .invokevirtual 163, 3), (17, .aload_n 0, 1), (18, .bipush 17, 2), (20, .invokevirtual 168, 3), (23, .goto (-19), 3), (26, .return_, 1)]
theorem dkX12_readTruth : ∀ q ∈ pgX12_readTruth, decode cX12_readTruth q.1 = .ok q.2 := by decide +kernel
def b_X12_readTruth_4 (this : Nat) (fr : Nat → Nat → PH → Option (Unit × PH)) (rec4 : (Unit) → PH → Option (Unit × PH)) (s4 : Unit) (hh4 : PH) : Option (Unit × PH) :=
  cb (f_X12_took this 65 hh4) (fun (r3 : Int32) (h4 : PH) => if r3 = 0 then (some ((), h4)) else (cb (fr 1 this h4) (fun (r5 : Unit) (h6 : PH) => cb (f_X12_laysStep this (17 : Int32) h6) (fun (r7 : Unit) (h8 : PH) => rec4 () h8))))
def g_X12_readTruth (fr : Nat → Nat → PH → Option (Unit × PH)) (this : Nat) (h0 : PH) : Option (Unit × PH) :=
  cb (fr 1 this h0) (fun (r1 : Unit) (h2 : PH) => lp (b_X12_readTruth_4 this fr) FU () h2)
set_option maxRecDepth 100000 in
set_option maxHeartbeats 4000000 in
theorem cg_X12_readTruth (l : Launch) (dd : Nat) (fr : Nat → Nat → PH → Option (Unit × PH)) (hfr0 : ∀ (this : Nat) (h0 : PH) (hk : (kd this).1 = 12), CT mkV l yX12_readTruth cX12_readTruth 1 none (rmd (dd + 5)) [.ref this] h0 (fr 0 this h0)) (hfr1 : ∀ (this : Nat) (h0 : PH) (hk : (kd this).1 = 12), CT mkV l yX12_readBoth cX12_readBoth 1 none (rmd (dd + 5)) [.ref this] h0 (fr 1 this h0)) (hfr2 : ∀ (this : Nat) (h0 : PH) (hk : (kd this).1 = 12), CT mkV l yX12_readUnit cX12_readUnit 2 none (rmd (dd + 5)) [.ref this] h0 (fr 2 this h0)) (hfr3 : ∀ (this : Nat) (h0 : PH) (hk : (kd this).1 = 12), CT mkV l yX12_readSum cX12_readSum 2 none (rmd (dd + 5)) [.ref this] h0 (fr 3 this h0)) (hfr4 : ∀ (this : Nat) (h0 : PH) (hk : (kd this).1 = 12), CT mkV l yX12_readTerm cX12_readTerm 1 none (rmd (dd + 5)) [.ref this] h0 (fr 4 this h0)) (hfr5 : ∀ (this : Nat) (h0 : PH) (hk : (kd this).1 = 12), CT mkV l yX12_readAtom cX12_readAtom 3 none (rmd (dd + 5)) [.ref this] h0 (fr 5 this h0)) (this : Nat) (h0 : PH) (hk : (kd this).1 = 12) : CT mkV l yX12_readTruth cX12_readTruth 1 none (rmd (dd + 6)) [.ref this] h0 (g_X12_readTruth fr this h0) := by
  refine ct_of (by decide) (Nat.le_of_ble_eq_true rfl) ?_
  intro p e s m args below meth c D cA ad A X hr hlk
  have X : Cx p s m args c RX12 cX12_readTruth 1 D cA ad A := X
  unfold g_X12_readTruth
  refine so_pick (L' := [(0, .ref this)]) X [0] rfl ?_
  refine so_aload_n (i := 0) X 0 (dkX12_readTruth (0, .aload_n 0, 1) (pgm 0 rfl)) rfl rfl ?_
  refine so_callV (n := 0) (As := []) X (hfr1 this h0 hk) hk (by decide) rfl lk_1906 lk_1908 lk_74 lk_134 lk_1909 (by decide +kernel) rfl rfl rfl (rm_ok (by omega) (by decide)) ⟨Nat.zero_le _, Nat.zero_le _⟩ (Nat.le_of_ble_eq_true rfl) (dkX12_readTruth (1, .invokevirtual 163, 3) (pgm 1 rfl)) (fun r1 h2 => ?_) rfl
  refine so_pick (L' := [(0, .ref this)]) X [0] rfl ?_
  refine so_loop (body := b_X12_readTruth_4 this fr) (fun (s4 : Unit) => [(0, .ref this)]) (fun rec4 hrec4 s4 hh4 => ?_) FU () h2
  unfold b_X12_readTruth_4
  refine so_aload_n (i := 0) X 0 (dkX12_readTruth (4, .aload_n 0, 1) (pgm 2 rfl)) rfl rfl ?_
  refine so_ldcS (n := 65) (tx := "or") X (pgm 65 rfl) (dkX12_readTruth (5, .ldc 166, 2) (pgm 3 rfl)) ?_
  refine so_callV (n := 1) (As := [.ref (200 + 65)]) X (ct_X12_took l this 65 hh4 hk (by decide : 65 < NS)) hk (by decide) rfl lk_1861 lk_1863 lk_65 lk_134 lk_1864 (by decide +kernel) rfl rfl rfl (rm_ok (by omega) (by decide)) ⟨Nat.zero_le _, Nat.zero_le _⟩ (Nat.le_of_ble_eq_true rfl) (dkX12_readTruth (7, .invokevirtual 149, 3) (pgm 4 rfl)) (fun r3 h4 => ?_) rfl
  refine so_if_eq (tgt := 26) X (dkX12_readTruth (10, .ifCond .eq 16, 3) (pgm 5 rfl)) rfl (fun _ => ?_) (fun _ => ?_)
  · exact so_vret X hr hlk (dkX12_readTruth (26, .return_, 1) (pgm 12 rfl))
  · refine so_aload_n (i := 0) X 0 (dkX12_readTruth (13, .aload_n 0, 1) (pgm 6 rfl)) rfl rfl ?_
    refine so_callV (n := 0) (As := []) X (hfr1 this h4 hk) hk (by decide) rfl lk_1906 lk_1908 lk_74 lk_134 lk_1909 (by decide +kernel) rfl rfl rfl (rm_ok (by omega) (by decide)) ⟨Nat.zero_le _, Nat.zero_le _⟩ (Nat.le_of_ble_eq_true rfl) (dkX12_readTruth (14, .invokevirtual 163, 3) (pgm 7 rfl)) (fun r5 h6 => ?_) rfl
    refine so_aload_n (i := 0) X 0 (dkX12_readTruth (17, .aload_n 0, 1) (pgm 8 rfl)) rfl rfl ?_
    refine so_bipush (v := (17 : Int32)) X (dkX12_readTruth (18, .bipush 17, 2) (pgm 9 rfl)) bp_17 ?_
    refine so_callV (n := 1) (As := [.int (17 : Int32)]) X (ct_X12_laysStep l this (17 : Int32) h6 hk) hk (by decide) rfl lk_1919 lk_1921 lk_77 lk_134 lk_1922 (by decide +kernel) rfl rfl rfl (rm_ok (by omega) (by decide)) ⟨Nat.zero_le _, Nat.zero_le _⟩ (Nat.le_of_ble_eq_true rfl) (dkX12_readTruth (20, .invokevirtual 168, 3) (pgm 10 rfl)) (fun r7 h8 => ?_) rfl
    refine so_goto (tgt := 4) X (dkX12_readTruth (23, .goto (-19), 3) (pgm 11 rfl)) rfl ?_
    exact so_pick X [0] rfl (hrec4 () h8)
def pgX12_readBoth : List (Nat × Instr × Nat) := [(0, .aload_n 0, 1), (1, .invokevirtual 171, 3), (4, .aload_n 0, 1), (5, .ldc 174, 2), (7, .invokevirtual 149, 3), (10, .ifCond .eq 16, 3), (13, .aload_n 0, 1), (14, .invokevirtual 171, 3), (17, .aload_n 0, 1), (18, .bipush 16, 2), (20, .invokevirtual 168, 3), (23, .goto (-19), 3), (26, .return_, 1)]
theorem dkX12_readBoth : ∀ q ∈ pgX12_readBoth, decode cX12_readBoth q.1 = .ok q.2 := by decide +kernel
def b_X12_readBoth_4 (this : Nat) (fr : Nat → Nat → PH → Option (Unit × PH)) (rec4 : (Unit) → PH → Option (Unit × PH)) (s4 : Unit) (hh4 : PH) : Option (Unit × PH) :=
  cb (f_X12_took this 64 hh4) (fun (r3 : Int32) (h4 : PH) => if r3 = 0 then (some ((), h4)) else (cb (fr 2 this h4) (fun (r5 : Unit) (h6 : PH) => cb (f_X12_laysStep this (16 : Int32) h6) (fun (r7 : Unit) (h8 : PH) => rec4 () h8))))
def g_X12_readBoth (fr : Nat → Nat → PH → Option (Unit × PH)) (this : Nat) (h0 : PH) : Option (Unit × PH) :=
  cb (fr 2 this h0) (fun (r1 : Unit) (h2 : PH) => lp (b_X12_readBoth_4 this fr) FU () h2)
set_option maxRecDepth 100000 in
set_option maxHeartbeats 4000000 in
theorem cg_X12_readBoth (l : Launch) (dd : Nat) (fr : Nat → Nat → PH → Option (Unit × PH)) (hfr0 : ∀ (this : Nat) (h0 : PH) (hk : (kd this).1 = 12), CT mkV l yX12_readTruth cX12_readTruth 1 none (rmd (dd + 5)) [.ref this] h0 (fr 0 this h0)) (hfr1 : ∀ (this : Nat) (h0 : PH) (hk : (kd this).1 = 12), CT mkV l yX12_readBoth cX12_readBoth 1 none (rmd (dd + 5)) [.ref this] h0 (fr 1 this h0)) (hfr2 : ∀ (this : Nat) (h0 : PH) (hk : (kd this).1 = 12), CT mkV l yX12_readUnit cX12_readUnit 2 none (rmd (dd + 5)) [.ref this] h0 (fr 2 this h0)) (hfr3 : ∀ (this : Nat) (h0 : PH) (hk : (kd this).1 = 12), CT mkV l yX12_readSum cX12_readSum 2 none (rmd (dd + 5)) [.ref this] h0 (fr 3 this h0)) (hfr4 : ∀ (this : Nat) (h0 : PH) (hk : (kd this).1 = 12), CT mkV l yX12_readTerm cX12_readTerm 1 none (rmd (dd + 5)) [.ref this] h0 (fr 4 this h0)) (hfr5 : ∀ (this : Nat) (h0 : PH) (hk : (kd this).1 = 12), CT mkV l yX12_readAtom cX12_readAtom 3 none (rmd (dd + 5)) [.ref this] h0 (fr 5 this h0)) (this : Nat) (h0 : PH) (hk : (kd this).1 = 12) : CT mkV l yX12_readBoth cX12_readBoth 1 none (rmd (dd + 6)) [.ref this] h0 (g_X12_readBoth fr this h0) := by
  refine ct_of (by decide) (Nat.le_of_ble_eq_true rfl) ?_
  intro p e s m args below meth c D cA ad A X hr hlk
  have X : Cx p s m args c RX12 cX12_readBoth 1 D cA ad A := X
  unfold g_X12_readBoth
  refine so_pick (L' := [(0, .ref this)]) X [0] rfl ?_
  refine so_aload_n (i := 0) X 0 (dkX12_readBoth (0, .aload_n 0, 1) (pgm 0 rfl)) rfl rfl ?_
  refine so_callV (n := 0) (As := []) X (hfr2 this h0 hk) hk (by decide) rfl lk_1910 lk_1912 lk_75 lk_134 lk_1913 (by decide +kernel) rfl rfl rfl (rm_ok (by omega) (by decide)) ⟨Nat.zero_le _, Nat.zero_le _⟩ (Nat.le_of_ble_eq_true rfl) (dkX12_readBoth (1, .invokevirtual 171, 3) (pgm 1 rfl)) (fun r1 h2 => ?_) rfl
  refine so_pick (L' := [(0, .ref this)]) X [0] rfl ?_
  refine so_loop (body := b_X12_readBoth_4 this fr) (fun (s4 : Unit) => [(0, .ref this)]) (fun rec4 hrec4 s4 hh4 => ?_) FU () h2
  unfold b_X12_readBoth_4
  refine so_aload_n (i := 0) X 0 (dkX12_readBoth (4, .aload_n 0, 1) (pgm 2 rfl)) rfl rfl ?_
  refine so_ldcS (n := 64) (tx := "and") X (pgm 64 rfl) (dkX12_readBoth (5, .ldc 174, 2) (pgm 3 rfl)) ?_
  refine so_callV (n := 1) (As := [.ref (200 + 64)]) X (ct_X12_took l this 64 hh4 hk (by decide : 64 < NS)) hk (by decide) rfl lk_1861 lk_1863 lk_65 lk_134 lk_1864 (by decide +kernel) rfl rfl rfl (rm_ok (by omega) (by decide)) ⟨Nat.zero_le _, Nat.zero_le _⟩ (Nat.le_of_ble_eq_true rfl) (dkX12_readBoth (7, .invokevirtual 149, 3) (pgm 4 rfl)) (fun r3 h4 => ?_) rfl
  refine so_if_eq (tgt := 26) X (dkX12_readBoth (10, .ifCond .eq 16, 3) (pgm 5 rfl)) rfl (fun _ => ?_) (fun _ => ?_)
  · exact so_vret X hr hlk (dkX12_readBoth (26, .return_, 1) (pgm 12 rfl))
  · refine so_aload_n (i := 0) X 0 (dkX12_readBoth (13, .aload_n 0, 1) (pgm 6 rfl)) rfl rfl ?_
    refine so_callV (n := 0) (As := []) X (hfr2 this h4 hk) hk (by decide) rfl lk_1910 lk_1912 lk_75 lk_134 lk_1913 (by decide +kernel) rfl rfl rfl (rm_ok (by omega) (by decide)) ⟨Nat.zero_le _, Nat.zero_le _⟩ (Nat.le_of_ble_eq_true rfl) (dkX12_readBoth (14, .invokevirtual 171, 3) (pgm 7 rfl)) (fun r5 h6 => ?_) rfl
    refine so_aload_n (i := 0) X 0 (dkX12_readBoth (17, .aload_n 0, 1) (pgm 8 rfl)) rfl rfl ?_
    refine so_bipush (v := (16 : Int32)) X (dkX12_readBoth (18, .bipush 16, 2) (pgm 9 rfl)) bp_16 ?_
    refine so_callV (n := 1) (As := [.int (16 : Int32)]) X (ct_X12_laysStep l this (16 : Int32) h6 hk) hk (by decide) rfl lk_1919 lk_1921 lk_77 lk_134 lk_1922 (by decide +kernel) rfl rfl rfl (rm_ok (by omega) (by decide)) ⟨Nat.zero_le _, Nat.zero_le _⟩ (Nat.le_of_ble_eq_true rfl) (dkX12_readBoth (20, .invokevirtual 168, 3) (pgm 10 rfl)) (fun r7 h8 => ?_) rfl
    refine so_goto (tgt := 4) X (dkX12_readBoth (23, .goto (-19), 3) (pgm 11 rfl)) rfl ?_
    exact so_pick X [0] rfl (hrec4 () h8)
def pgX12_readUnit : List (Nat × Instr × Nat) := [(0, .aload_n 0, 1), (1, .getfield 127, 3), (4, .ifCond .eq 4, 3), (7, .return_, 1), (8, .aload_n 0, 1), (9, .ldc 176, 2), (11, .invokevirtual 142, 3), (14, .ifCond .eq 30, 3), (17, .aload_n 0, 1), (18, .invokevirtual 178, 3), (21, .aload_n 0, 1), (22, .invokevirtual 171, 3), (25, .aload_n 0, 1), (26, .bipush 18, 2), (28, .invokevirtual 168, 3), (31, .aload_n 0, 1), (32, .dup, 1), (33, .getfield 160, 3), (36, .iconst 1, 1), (37, .isub, 1), (38, .putfield 160, 3), (41, .goto 114, 3), (44, .aload_n 0, 1), (45, .bipush 91, 2), (47, .invokevirtual 181, 3), (50, .ifCond .eq 30, 3), (53, .aload_n 0, 1), (54, .invokevirtual 178, 3), (57, .aload_n 0, 1), (58, .invokevirtual 184, 3), (61, .aload_n 0, 1), (62, .bipush 93, 2), (64, .invokevirtual 187, 3), (67, .aload_n 0, 1), (68, .dup, 1), (69, .getfield 160, 3), (72, .iconst 1, 1), (73, .isub, 1), (74, .putfield 160, 3), (77, .goto 78, 3), (80, .aload_n 0, 1), (81, .invokevirtual 190, 3), (84, .aload_n 0, 1), (85, .getfield 107, 3), (88, .istore_n 1, 1), (89, .iload_n 1, 1), (90, .bipush 61, 2), (92, .if_icmp .eq 20, 3), (95, .iload_n 1, 1), (96, .bipush 60, 2), (98, .if_icmp .eq 14, 3), (101, .iload_n 1, 1), (102, .bipush 62, 2), (104, .if_icmp .eq 8, 3), (107, .aload_n 0, 1), (108, .iconst 2, 1), (109, .invokevirtual 152, 3), (112, .aload_n 0, 1), (113, .getfield 127, 3), (116, .ifCond .ne 7, 3), (119, .aload_n 0, 1), (120, .invokevirtual 146, 3), (123, .aload_n 0, 1), (124, .invokevirtual 190, 3), (127, .aload_n 0, 1), (128, .iload_n 1, 1), (129, .bipush 61, 2), (131, .if_icmp .ne 8, 3), (134, .bipush 13, 2), (136, .goto 16, 3), (139, .iload_n 1, 1), (140, .bipush 60, 2), (142, .if_icmp .ne 8, 3), (145, .bipush 14, 2), (147, .goto 5, 3), (150, .bipush 15, 2), (152, .invokevirtual 168, 3), (155, .return_, 1)]
theorem dkX12_readUnit : ∀ q ∈ pgX12_readUnit, decode cX12_readUnit q.1 = .ok q.2 := by decide +kernel
def g_X12_readUnit (fr : Nat → Nat → PH → Option (Unit × PH)) (this : Nat) (h0 : PH) : Option (Unit × PH) :=
  if (h0.1 this 13) = 0 then (cb (f_X12_isWord this 59 h0) (fun (r1 : Int32) (h2 : PH) => lt (fun (h3 : PH) => some ((), h3)) (fun (j155 : PH → Option (Unit × PH)) => if r1 = 0 then (cb (f_X12_isSign this (91 : Int32) h2) (fun (r4 : Int32) (h5 : PH) => if r4 = 0 then (cb (fr 3 this h5) (fun (r6 : Unit) (h7 : PH) => lt (h7.1 this 11) (fun (x8 : Int32) => lt (fun (h9 : PH) => lt (fun (h10 : PH) => cb (fr 3 this h10) (fun (r11 : Unit) (h12 : PH) => lt (fun (t13 : Int32) (h14 : PH) => cb (f_X12_laysStep this t13 h14) (fun (r15 : Unit) (h16 : PH) => j155 h16)) (fun (j152 : Int32 → PH → Option (Unit × PH)) => if x8 = (61 : Int32) then (j152 (13 : Int32) h12) else (if x8 = (60 : Int32) then (j152 (14 : Int32) h12) else (j152 (15 : Int32) h12))))) (fun (j123 : PH → Option (Unit × PH)) => if (h9.1 this 13) = 0 then (cb (f_X12_readsOn this h9) (fun (r17 : Unit) (h18 : PH) => j123 h18)) else (j123 h9))) (fun (j112 : PH → Option (Unit × PH)) => if x8 = (61 : Int32) then (j112 h7) else (if x8 = (60 : Int32) then (j112 h7) else (if x8 = (62 : Int32) then (j112 h7) else (cb (f_X12_blames this (2 : Int32) h7) (fun (r19 : Unit) (h20 : PH) => j112 h20)))))))) else (cb (f_X12_goesIn this h5) (fun (r21 : Unit) (h22 : PH) => cb (fr 0 this h22) (fun (r23 : Unit) (h24 : PH) => cb (f_X12_mustSign this (93 : Int32) h24) (fun (r25 : Unit) (h26 : PH) => lt (pI h26 this 17 ((h26.1 this 17) - (1 : Int32))) (fun (h27 : PH) => j155 h27))))))) else (cb (f_X12_goesIn this h2) (fun (r28 : Unit) (h29 : PH) => cb (fr 2 this h29) (fun (r30 : Unit) (h31 : PH) => cb (f_X12_laysStep this (18 : Int32) h31) (fun (r32 : Unit) (h33 : PH) => lt (pI h33 this 17 ((h33.1 this 17) - (1 : Int32))) (fun (h34 : PH) => j155 h34)))))))) else (some ((), h0))
set_option maxRecDepth 100000 in
set_option maxHeartbeats 4000000 in
theorem cg_X12_readUnit (l : Launch) (dd : Nat) (fr : Nat → Nat → PH → Option (Unit × PH)) (hfr0 : ∀ (this : Nat) (h0 : PH) (hk : (kd this).1 = 12), CT mkV l yX12_readTruth cX12_readTruth 1 none (rmd (dd + 5)) [.ref this] h0 (fr 0 this h0)) (hfr1 : ∀ (this : Nat) (h0 : PH) (hk : (kd this).1 = 12), CT mkV l yX12_readBoth cX12_readBoth 1 none (rmd (dd + 5)) [.ref this] h0 (fr 1 this h0)) (hfr2 : ∀ (this : Nat) (h0 : PH) (hk : (kd this).1 = 12), CT mkV l yX12_readUnit cX12_readUnit 2 none (rmd (dd + 5)) [.ref this] h0 (fr 2 this h0)) (hfr3 : ∀ (this : Nat) (h0 : PH) (hk : (kd this).1 = 12), CT mkV l yX12_readSum cX12_readSum 2 none (rmd (dd + 5)) [.ref this] h0 (fr 3 this h0)) (hfr4 : ∀ (this : Nat) (h0 : PH) (hk : (kd this).1 = 12), CT mkV l yX12_readTerm cX12_readTerm 1 none (rmd (dd + 5)) [.ref this] h0 (fr 4 this h0)) (hfr5 : ∀ (this : Nat) (h0 : PH) (hk : (kd this).1 = 12), CT mkV l yX12_readAtom cX12_readAtom 3 none (rmd (dd + 5)) [.ref this] h0 (fr 5 this h0)) (this : Nat) (h0 : PH) (hk : (kd this).1 = 12) : CT mkV l yX12_readUnit cX12_readUnit 2 none (rmd (dd + 6)) [.ref this] h0 (g_X12_readUnit fr this h0) := by
  refine ct_of (by decide) (Nat.le_of_ble_eq_true rfl) ?_
  intro p e s m args below meth c D cA ad A X hr hlk
  have X : Cx p s m args c RX12 cX12_readUnit 2 D cA ad A := X
  unfold g_X12_readUnit
  refine so_pick (L' := [(0, .ref this)]) X [0] rfl ?_
  refine so_aload_n (i := 0) X 0 (dkX12_readUnit (0, .aload_n 0, 1) (pgm 0 rfl)) rfl rfl ?_
  refine sf_getI X ff_12_13 lk_1715 hk (dkX12_readUnit (1, .getfield 127, 3) (pgm 1 rfl)) ?_
  refine so_if_eq (tgt := 8) X (dkX12_readUnit (4, .ifCond .eq 4, 3) (pgm 2 rfl)) rfl (fun _ => ?_) (fun _ => ?_)
  · refine so_aload_n (i := 0) X 0 (dkX12_readUnit (8, .aload_n 0, 1) (pgm 4 rfl)) rfl rfl ?_
    refine so_ldcS (n := 59) (tx := "not") X (pgm 59 rfl) (dkX12_readUnit (9, .ldc 176, 2) (pgm 5 rfl)) ?_
    refine so_callV (n := 1) (As := [.ref (200 + 59)]) X (ct_X12_isWord l this 59 h0 hk (by decide : 59 < NS)) hk (by decide) rfl lk_1865 lk_1867 lk_66 lk_134 lk_1868 (by decide +kernel) rfl rfl rfl (rm_ok (by omega) (by decide)) ⟨Nat.zero_le _, Nat.zero_le _⟩ (Nat.le_of_ble_eq_true rfl) (dkX12_readUnit (11, .invokevirtual 142, 3) (pgm 6 rfl)) (fun r1 h2 => ?_) rfl
    refine so_join (jf := fun (h3 : PH) => some ((), h3)) (fun (j : PH → Option (Unit × PH)) => ∀  (h3 : PH), SWo (QM mkV below args s D cA ad A) p l e (rmd (dd + 6)) s m args below meth c 0 0 2 D cA ad A 155 [] [] h3 (j h3)) ?_ (fun j155 hj155 => ?_)
    · intro h3
      exact so_vret X hr hlk (dkX12_readUnit (155, .return_, 1) (pgm 77 rfl))
    refine so_if_eq (tgt := 44) X (dkX12_readUnit (14, .ifCond .eq 30, 3) (pgm 7 rfl)) rfl (fun _ => ?_) (fun _ => ?_)
    · refine so_aload_n (i := 0) X 0 (dkX12_readUnit (44, .aload_n 0, 1) (pgm 22 rfl)) rfl rfl ?_
      refine so_bipush (v := (91 : Int32)) X (dkX12_readUnit (45, .bipush 91, 2) (pgm 23 rfl)) bp_91 ?_
      refine so_callV (n := 1) (As := [.int (91 : Int32)]) X (ct_X12_isSign l this (91 : Int32) h2 hk) hk (by decide) rfl lk_1923 lk_1925 lk_78 lk_134 lk_1926 (by decide +kernel) rfl rfl rfl (rm_ok (by omega) (by decide)) ⟨Nat.zero_le _, Nat.zero_le _⟩ (Nat.le_of_ble_eq_true rfl) (dkX12_readUnit (47, .invokevirtual 181, 3) (pgm 24 rfl)) (fun r4 h5 => ?_) rfl
      refine so_if_eq (tgt := 80) X (dkX12_readUnit (50, .ifCond .eq 30, 3) (pgm 25 rfl)) rfl (fun _ => ?_) (fun _ => ?_)
      · refine so_aload_n (i := 0) X 0 (dkX12_readUnit (80, .aload_n 0, 1) (pgm 40 rfl)) rfl rfl ?_
        refine so_callV (n := 0) (As := []) X (hfr3 this h5 hk) hk (by decide) rfl lk_1927 lk_1929 lk_79 lk_134 lk_1930 (by decide +kernel) rfl rfl rfl (rm_ok (by omega) (by decide)) ⟨Nat.zero_le _, Nat.zero_le _⟩ (Nat.le_of_ble_eq_true rfl) (dkX12_readUnit (81, .invokevirtual 190, 3) (pgm 41 rfl)) (fun r6 h7 => ?_) rfl
        refine so_aload_n (i := 0) X 0 (dkX12_readUnit (84, .aload_n 0, 1) (pgm 42 rfl)) rfl rfl ?_
        refine sf_getI X ff_12_11 lk_1713 hk (dkX12_readUnit (85, .getfield 107, 3) (pgm 43 rfl)) ?_
        refine so_istore_n (i := 1) X (dkX12_readUnit (88, .istore_n 1, 1) (pgm 44 rfl)) rfl (by decide) (Lf := fun x8 => [(1, .int x8), (0, .ref this)]) (fun _ => rfl) (fun x8 => ?_)
        refine so_iload_n (i := 1) X 0 (dkX12_readUnit (89, .iload_n 1, 1) (pgm 45 rfl)) rfl rfl ?_
        refine so_bipush (v := (61 : Int32)) X (dkX12_readUnit (90, .bipush 61, 2) (pgm 46 rfl)) bp_61 ?_
        refine so_join (jf := fun (h9 : PH) => lt (fun (h10 : PH) => cb (fr 3 this h10) (fun (r11 : Unit) (h12 : PH) => lt (fun (t13 : Int32) (h14 : PH) => cb (f_X12_laysStep this t13 h14) (fun (r15 : Unit) (h16 : PH) => j155 h16)) (fun (j152 : Int32 → PH → Option (Unit × PH)) => if x8 = (61 : Int32) then (j152 (13 : Int32) h12) else (if x8 = (60 : Int32) then (j152 (14 : Int32) h12) else (j152 (15 : Int32) h12))))) (fun (j123 : PH → Option (Unit × PH)) => if (h9.1 this 13) = 0 then (cb (f_X12_readsOn this h9) (fun (r17 : Unit) (h18 : PH) => j123 h18)) else (j123 h9))) (fun (j : PH → Option (Unit × PH)) => ∀  (h9 : PH), SWo (QM mkV below args s D cA ad A) p l e (rmd (dd + 6)) s m args below meth c 0 0 2 D cA ad A 112 [(0, .ref this), (1, .int x8)] [] h9 (j h9)) ?_ (fun j112 hj112 => ?_)
        · intro h9
          refine so_aload_n (i := 0) X 0 (dkX12_readUnit (112, .aload_n 0, 1) (pgm 57 rfl)) rfl rfl ?_
          refine sf_getI X ff_12_13 lk_1715 hk (dkX12_readUnit (113, .getfield 127, 3) (pgm 58 rfl)) ?_
          refine so_join (jf := fun (h10 : PH) => cb (fr 3 this h10) (fun (r11 : Unit) (h12 : PH) => lt (fun (t13 : Int32) (h14 : PH) => cb (f_X12_laysStep this t13 h14) (fun (r15 : Unit) (h16 : PH) => j155 h16)) (fun (j152 : Int32 → PH → Option (Unit × PH)) => if x8 = (61 : Int32) then (j152 (13 : Int32) h12) else (if x8 = (60 : Int32) then (j152 (14 : Int32) h12) else (j152 (15 : Int32) h12))))) (fun (j : PH → Option (Unit × PH)) => ∀  (h10 : PH), SWo (QM mkV below args s D cA ad A) p l e (rmd (dd + 6)) s m args below meth c 0 0 2 D cA ad A 123 [(0, .ref this), (1, .int x8)] [] h10 (j h10)) ?_ (fun j123 hj123 => ?_)
          · intro h10
            refine so_aload_n (i := 0) X 0 (dkX12_readUnit (123, .aload_n 0, 1) (pgm 62 rfl)) rfl rfl ?_
            refine so_callV (n := 0) (As := []) X (hfr3 this h10 hk) hk (by decide) rfl lk_1927 lk_1929 lk_79 lk_134 lk_1930 (by decide +kernel) rfl rfl rfl (rm_ok (by omega) (by decide)) ⟨Nat.zero_le _, Nat.zero_le _⟩ (Nat.le_of_ble_eq_true rfl) (dkX12_readUnit (124, .invokevirtual 190, 3) (pgm 63 rfl)) (fun r11 h12 => ?_) rfl
            refine so_aload_n (i := 0) X 0 (dkX12_readUnit (127, .aload_n 0, 1) (pgm 64 rfl)) rfl rfl ?_
            refine so_iload_n (i := 1) X 1 (dkX12_readUnit (128, .iload_n 1, 1) (pgm 65 rfl)) rfl rfl ?_
            refine so_bipush (v := (61 : Int32)) X (dkX12_readUnit (129, .bipush 61, 2) (pgm 66 rfl)) bp_61 ?_
            refine so_join (jf := fun (t13 : Int32) (h14 : PH) => cb (f_X12_laysStep this t13 h14) (fun (r15 : Unit) (h16 : PH) => j155 h16)) (fun (j : Int32 → PH → Option (Unit × PH)) => ∀ (t13 : Int32) (h14 : PH), SWo (QM mkV below args s D cA ad A) p l e (rmd (dd + 6)) s m args below meth c 0 0 2 D cA ad A 152 [] [.int t13, .ref this] h14 (j t13 h14)) ?_ (fun j152 hj152 => ?_)
            · intro t13 h14
              refine so_callV (n := 1) (As := [.int t13]) X (ct_X12_laysStep l this t13 h14 hk) hk (by decide) rfl lk_1919 lk_1921 lk_77 lk_134 lk_1922 (by decide +kernel) rfl rfl rfl (rm_ok (by omega) (by decide)) ⟨Nat.zero_le _, Nat.zero_le _⟩ (Nat.le_of_ble_eq_true rfl) (dkX12_readUnit (152, .invokevirtual 168, 3) (pgm 76 rfl)) (fun r15 h16 => ?_) rfl
              exact so_pick X [] rfl (hj155 h16)
            refine so_icmp_ne (tgt := 139) X (dkX12_readUnit (131, .if_icmp .ne 8, 3) (pgm 67 rfl)) rfl (fun _ => ?_) (fun _ => ?_)
            · refine so_iload_n (i := 1) X 1 (dkX12_readUnit (139, .iload_n 1, 1) (pgm 70 rfl)) rfl rfl ?_
              refine so_bipush (v := (60 : Int32)) X (dkX12_readUnit (140, .bipush 60, 2) (pgm 71 rfl)) bp_60 ?_
              refine so_icmp_ne (tgt := 150) X (dkX12_readUnit (142, .if_icmp .ne 8, 3) (pgm 72 rfl)) rfl (fun _ => ?_) (fun _ => ?_)
              · refine so_bipush (v := (15 : Int32)) X (dkX12_readUnit (150, .bipush 15, 2) (pgm 75 rfl)) bp_15 ?_
                exact so_pick X [] rfl (hj152 (15 : Int32) h12)
              · refine so_bipush (v := (14 : Int32)) X (dkX12_readUnit (145, .bipush 14, 2) (pgm 73 rfl)) bp_14 ?_
                refine so_goto (tgt := 152) X (dkX12_readUnit (147, .goto 5, 3) (pgm 74 rfl)) rfl ?_
                exact so_pick X [] rfl (hj152 (14 : Int32) h12)
            · refine so_bipush (v := (13 : Int32)) X (dkX12_readUnit (134, .bipush 13, 2) (pgm 68 rfl)) bp_13 ?_
              refine so_goto (tgt := 152) X (dkX12_readUnit (136, .goto 16, 3) (pgm 69 rfl)) rfl ?_
              exact so_pick X [] rfl (hj152 (13 : Int32) h12)
          refine so_if_ne (tgt := 123) X (dkX12_readUnit (116, .ifCond .ne 7, 3) (pgm 59 rfl)) rfl (fun _ => ?_) (fun _ => ?_)
          · exact so_pick X [0, 1] rfl (hj123 h9)
          · refine so_aload_n (i := 0) X 0 (dkX12_readUnit (119, .aload_n 0, 1) (pgm 60 rfl)) rfl rfl ?_
            refine so_callV (n := 0) (As := []) X (ct_X12_readsOn l this h9 hk) hk (by decide) rfl lk_1839 lk_1841 lk_62 lk_134 lk_1842 (by decide +kernel) rfl rfl rfl (rm_ok (by omega) (by decide)) ⟨Nat.zero_le _, Nat.zero_le _⟩ (Nat.le_of_ble_eq_true rfl) (dkX12_readUnit (120, .invokevirtual 146, 3) (pgm 61 rfl)) (fun r17 h18 => ?_) rfl
            exact so_pick X [0, 1] rfl (hj123 h18)
        refine so_icmp_eq (tgt := 112) X (dkX12_readUnit (92, .if_icmp .eq 20, 3) (pgm 47 rfl)) rfl (fun _ => ?_) (fun _ => ?_)
        · exact so_pick X [1, 0] rfl (hj112 h7)
        · refine so_iload_n (i := 1) X 0 (dkX12_readUnit (95, .iload_n 1, 1) (pgm 48 rfl)) rfl rfl ?_
          refine so_bipush (v := (60 : Int32)) X (dkX12_readUnit (96, .bipush 60, 2) (pgm 49 rfl)) bp_60 ?_
          refine so_icmp_eq (tgt := 112) X (dkX12_readUnit (98, .if_icmp .eq 14, 3) (pgm 50 rfl)) rfl (fun _ => ?_) (fun _ => ?_)
          · exact so_pick X [1, 0] rfl (hj112 h7)
          · refine so_iload_n (i := 1) X 0 (dkX12_readUnit (101, .iload_n 1, 1) (pgm 51 rfl)) rfl rfl ?_
            refine so_bipush (v := (62 : Int32)) X (dkX12_readUnit (102, .bipush 62, 2) (pgm 52 rfl)) bp_62 ?_
            refine so_icmp_eq (tgt := 112) X (dkX12_readUnit (104, .if_icmp .eq 8, 3) (pgm 53 rfl)) rfl (fun _ => ?_) (fun _ => ?_)
            · exact so_pick X [1, 0] rfl (hj112 h7)
            · refine so_aload_n (i := 0) X 1 (dkX12_readUnit (107, .aload_n 0, 1) (pgm 54 rfl)) rfl rfl ?_
              refine so_iconst (v := (2 : Int32)) X (dkX12_readUnit (108, .iconst 2, 1) (pgm 55 rfl)) ic_2 ?_
              refine so_callV (n := 1) (As := [.int (2 : Int32)]) X (ct_X12_blames l this (2 : Int32) h7 hk) hk (by decide) rfl lk_1871 lk_1873 lk_67 lk_134 lk_1874 (by decide +kernel) rfl rfl rfl (rm_ok (by omega) (by decide)) ⟨Nat.zero_le _, Nat.zero_le _⟩ (Nat.le_of_ble_eq_true rfl) (dkX12_readUnit (109, .invokevirtual 152, 3) (pgm 56 rfl)) (fun r19 h20 => ?_) rfl
              exact so_pick X [1, 0] rfl (hj112 h20)
      · refine so_aload_n (i := 0) X 0 (dkX12_readUnit (53, .aload_n 0, 1) (pgm 26 rfl)) rfl rfl ?_
        refine so_callV (n := 0) (As := []) X (ct_X12_goesIn l this h5 hk) hk (by decide) rfl lk_1915 lk_1917 lk_76 lk_134 lk_1918 (by decide +kernel) rfl rfl rfl (rm_ok (by omega) (by decide)) ⟨Nat.zero_le _, Nat.zero_le _⟩ (Nat.le_of_ble_eq_true rfl) (dkX12_readUnit (54, .invokevirtual 178, 3) (pgm 27 rfl)) (fun r21 h22 => ?_) rfl
        refine so_aload_n (i := 0) X 0 (dkX12_readUnit (57, .aload_n 0, 1) (pgm 28 rfl)) rfl rfl ?_
        refine so_callV (n := 0) (As := []) X (hfr0 this h22 hk) hk (by decide) rfl lk_1902 lk_1904 lk_73 lk_134 lk_1905 (by decide +kernel) rfl rfl rfl (rm_ok (by omega) (by decide)) ⟨Nat.zero_le _, Nat.zero_le _⟩ (Nat.le_of_ble_eq_true rfl) (dkX12_readUnit (58, .invokevirtual 184, 3) (pgm 29 rfl)) (fun r23 h24 => ?_) rfl
        refine so_aload_n (i := 0) X 0 (dkX12_readUnit (61, .aload_n 0, 1) (pgm 30 rfl)) rfl rfl ?_
        refine so_bipush (v := (93 : Int32)) X (dkX12_readUnit (62, .bipush 93, 2) (pgm 31 rfl)) bp_93 ?_
        refine so_callV (n := 1) (As := [.int (93 : Int32)]) X (ct_X12_mustSign l this (93 : Int32) h24 hk) hk (by decide) rfl lk_1884 lk_1886 lk_70 lk_134 lk_1887 (by decide +kernel) rfl rfl rfl (rm_ok (by omega) (by decide)) ⟨Nat.zero_le _, Nat.zero_le _⟩ (Nat.le_of_ble_eq_true rfl) (dkX12_readUnit (64, .invokevirtual 187, 3) (pgm 32 rfl)) (fun r25 h26 => ?_) rfl
        refine so_aload_n (i := 0) X 0 (dkX12_readUnit (67, .aload_n 0, 1) (pgm 33 rfl)) rfl rfl ?_
        refine so_dup X (dkX12_readUnit (68, .dup, 1) (pgm 34 rfl)) rfl ?_
        refine sf_getI X ff_12_17 lk_1719 hk (dkX12_readUnit (69, .getfield 160, 3) (pgm 35 rfl)) ?_
        refine so_iconst (v := (1 : Int32)) X (dkX12_readUnit (72, .iconst 1, 1) (pgm 36 rfl)) ic_1 ?_
        refine so_isub X (dkX12_readUnit (73, .isub, 1) (pgm 37 rfl)) ?_
        refine sf_putI X ff_12_17 ft_12 rfl lk_1719 hk rfl rfl (dkX12_readUnit (74, .putfield 160, 3) (pgm 38 rfl)) (fun h27 => ?_)
        refine so_goto (tgt := 155) X (dkX12_readUnit (77, .goto 78, 3) (pgm 39 rfl)) rfl ?_
        exact so_pick X [] rfl (hj155 h27)
    · refine so_aload_n (i := 0) X 0 (dkX12_readUnit (17, .aload_n 0, 1) (pgm 8 rfl)) rfl rfl ?_
      refine so_callV (n := 0) (As := []) X (ct_X12_goesIn l this h2 hk) hk (by decide) rfl lk_1915 lk_1917 lk_76 lk_134 lk_1918 (by decide +kernel) rfl rfl rfl (rm_ok (by omega) (by decide)) ⟨Nat.zero_le _, Nat.zero_le _⟩ (Nat.le_of_ble_eq_true rfl) (dkX12_readUnit (18, .invokevirtual 178, 3) (pgm 9 rfl)) (fun r28 h29 => ?_) rfl
      refine so_aload_n (i := 0) X 0 (dkX12_readUnit (21, .aload_n 0, 1) (pgm 10 rfl)) rfl rfl ?_
      refine so_callV (n := 0) (As := []) X (hfr2 this h29 hk) hk (by decide) rfl lk_1910 lk_1912 lk_75 lk_134 lk_1913 (by decide +kernel) rfl rfl rfl (rm_ok (by omega) (by decide)) ⟨Nat.zero_le _, Nat.zero_le _⟩ (Nat.le_of_ble_eq_true rfl) (dkX12_readUnit (22, .invokevirtual 171, 3) (pgm 11 rfl)) (fun r30 h31 => ?_) rfl
      refine so_aload_n (i := 0) X 0 (dkX12_readUnit (25, .aload_n 0, 1) (pgm 12 rfl)) rfl rfl ?_
      refine so_bipush (v := (18 : Int32)) X (dkX12_readUnit (26, .bipush 18, 2) (pgm 13 rfl)) bp_18 ?_
      refine so_callV (n := 1) (As := [.int (18 : Int32)]) X (ct_X12_laysStep l this (18 : Int32) h31 hk) hk (by decide) rfl lk_1919 lk_1921 lk_77 lk_134 lk_1922 (by decide +kernel) rfl rfl rfl (rm_ok (by omega) (by decide)) ⟨Nat.zero_le _, Nat.zero_le _⟩ (Nat.le_of_ble_eq_true rfl) (dkX12_readUnit (28, .invokevirtual 168, 3) (pgm 14 rfl)) (fun r32 h33 => ?_) rfl
      refine so_aload_n (i := 0) X 0 (dkX12_readUnit (31, .aload_n 0, 1) (pgm 15 rfl)) rfl rfl ?_
      refine so_dup X (dkX12_readUnit (32, .dup, 1) (pgm 16 rfl)) rfl ?_
      refine sf_getI X ff_12_17 lk_1719 hk (dkX12_readUnit (33, .getfield 160, 3) (pgm 17 rfl)) ?_
      refine so_iconst (v := (1 : Int32)) X (dkX12_readUnit (36, .iconst 1, 1) (pgm 18 rfl)) ic_1 ?_
      refine so_isub X (dkX12_readUnit (37, .isub, 1) (pgm 19 rfl)) ?_
      refine sf_putI X ff_12_17 ft_12 rfl lk_1719 hk rfl rfl (dkX12_readUnit (38, .putfield 160, 3) (pgm 20 rfl)) (fun h34 => ?_)
      refine so_goto (tgt := 155) X (dkX12_readUnit (41, .goto 114, 3) (pgm 21 rfl)) rfl ?_
      exact so_pick X [] rfl (hj155 h34)
  · exact so_vret X hr hlk (dkX12_readUnit (7, .return_, 1) (pgm 3 rfl))
def pgX12_readSum : List (Nat × Instr × Nat) := [(0, .aload_n 0, 1), (1, .invokevirtual 193, 3), (4, .aload_n 0, 1), (5, .bipush 43, 2), (7, .invokevirtual 181, 3), (10, .ifCond .ne 12, 3), (13, .aload_n 0, 1), (14, .bipush 45, 2), (16, .invokevirtual 181, 3), (19, .ifCond .eq 36, 3), (22, .aload_n 0, 1), (23, .getfield 107, 3), (26, .istore_n 1, 1), (27, .aload_n 0, 1), (28, .invokevirtual 146, 3), (31, .aload_n 0, 1), (32, .invokevirtual 193, 3), (35, .aload_n 0, 1), (36, .iload_n 1, 1), (37, .bipush 43, 2), (39, .if_icmp .ne 8, 3), (42, .bipush 10, 2), (44, .goto 5, 3), (47, .bipush 11, 2), (49, .invokevirtual 168, 3), (52, .goto (-48), 3), (55, .return_, 1)]
theorem dkX12_readSum : ∀ q ∈ pgX12_readSum, decode cX12_readSum q.1 = .ok q.2 := by decide +kernel
def b_X12_readSum_4 (this : Nat) (fr : Nat → Nat → PH → Option (Unit × PH)) (rec4 : (Unit) → PH → Option (Unit × PH)) (s4 : Unit) (hh4 : PH) : Option (Unit × PH) :=
  cb (f_X12_isSign this (43 : Int32) hh4) (fun (r3 : Int32) (h4 : PH) => lt (fun (h5 : PH) => lt (h5.1 this 11) (fun (x6 : Int32) => cb (f_X12_readsOn this h5) (fun (r7 : Unit) (h8 : PH) => cb (fr 4 this h8) (fun (r9 : Unit) (h10 : PH) => lt (fun (t11 : Int32) (h12 : PH) => cb (f_X12_laysStep this t11 h12) (fun (r13 : Unit) (h14 : PH) => rec4 () h14)) (fun (j49 : Int32 → PH → Option (Unit × PH)) => if x6 = (43 : Int32) then (j49 (10 : Int32) h10) else (j49 (11 : Int32) h10)))))) (fun (j22 : PH → Option (Unit × PH)) => if r3 = 0 then (cb (f_X12_isSign this (45 : Int32) h4) (fun (r15 : Int32) (h16 : PH) => if r15 = 0 then (some ((), h16)) else (j22 h16))) else (j22 h4)))
def g_X12_readSum (fr : Nat → Nat → PH → Option (Unit × PH)) (this : Nat) (h0 : PH) : Option (Unit × PH) :=
  cb (fr 4 this h0) (fun (r1 : Unit) (h2 : PH) => lp (b_X12_readSum_4 this fr) FU () h2)
set_option maxRecDepth 100000 in
set_option maxHeartbeats 4000000 in
theorem cg_X12_readSum (l : Launch) (dd : Nat) (fr : Nat → Nat → PH → Option (Unit × PH)) (hfr0 : ∀ (this : Nat) (h0 : PH) (hk : (kd this).1 = 12), CT mkV l yX12_readTruth cX12_readTruth 1 none (rmd (dd + 5)) [.ref this] h0 (fr 0 this h0)) (hfr1 : ∀ (this : Nat) (h0 : PH) (hk : (kd this).1 = 12), CT mkV l yX12_readBoth cX12_readBoth 1 none (rmd (dd + 5)) [.ref this] h0 (fr 1 this h0)) (hfr2 : ∀ (this : Nat) (h0 : PH) (hk : (kd this).1 = 12), CT mkV l yX12_readUnit cX12_readUnit 2 none (rmd (dd + 5)) [.ref this] h0 (fr 2 this h0)) (hfr3 : ∀ (this : Nat) (h0 : PH) (hk : (kd this).1 = 12), CT mkV l yX12_readSum cX12_readSum 2 none (rmd (dd + 5)) [.ref this] h0 (fr 3 this h0)) (hfr4 : ∀ (this : Nat) (h0 : PH) (hk : (kd this).1 = 12), CT mkV l yX12_readTerm cX12_readTerm 1 none (rmd (dd + 5)) [.ref this] h0 (fr 4 this h0)) (hfr5 : ∀ (this : Nat) (h0 : PH) (hk : (kd this).1 = 12), CT mkV l yX12_readAtom cX12_readAtom 3 none (rmd (dd + 5)) [.ref this] h0 (fr 5 this h0)) (this : Nat) (h0 : PH) (hk : (kd this).1 = 12) : CT mkV l yX12_readSum cX12_readSum 2 none (rmd (dd + 6)) [.ref this] h0 (g_X12_readSum fr this h0) := by
  refine ct_of (by decide) (Nat.le_of_ble_eq_true rfl) ?_
  intro p e s m args below meth c D cA ad A X hr hlk
  have X : Cx p s m args c RX12 cX12_readSum 2 D cA ad A := X
  unfold g_X12_readSum
  refine so_pick (L' := [(0, .ref this)]) X [0] rfl ?_
  refine so_aload_n (i := 0) X 0 (dkX12_readSum (0, .aload_n 0, 1) (pgm 0 rfl)) rfl rfl ?_
  refine so_callV (n := 0) (As := []) X (hfr4 this h0 hk) hk (by decide) rfl lk_1931 lk_1933 lk_80 lk_134 lk_1934 (by decide +kernel) rfl rfl rfl (rm_ok (by omega) (by decide)) ⟨Nat.zero_le _, Nat.zero_le _⟩ (Nat.le_of_ble_eq_true rfl) (dkX12_readSum (1, .invokevirtual 193, 3) (pgm 1 rfl)) (fun r1 h2 => ?_) rfl
  refine so_pick (L' := [(0, .ref this)]) X [0] rfl ?_
  refine so_loop (body := b_X12_readSum_4 this fr) (fun (s4 : Unit) => [(0, .ref this)]) (fun rec4 hrec4 s4 hh4 => ?_) FU () h2
  unfold b_X12_readSum_4
  refine so_aload_n (i := 0) X 0 (dkX12_readSum (4, .aload_n 0, 1) (pgm 2 rfl)) rfl rfl ?_
  refine so_bipush (v := (43 : Int32)) X (dkX12_readSum (5, .bipush 43, 2) (pgm 3 rfl)) bp_43 ?_
  refine so_callV (n := 1) (As := [.int (43 : Int32)]) X (ct_X12_isSign l this (43 : Int32) hh4 hk) hk (by decide) rfl lk_1923 lk_1925 lk_78 lk_134 lk_1926 (by decide +kernel) rfl rfl rfl (rm_ok (by omega) (by decide)) ⟨Nat.zero_le _, Nat.zero_le _⟩ (Nat.le_of_ble_eq_true rfl) (dkX12_readSum (7, .invokevirtual 181, 3) (pgm 4 rfl)) (fun r3 h4 => ?_) rfl
  refine so_join (jf := fun (h5 : PH) => lt (h5.1 this 11) (fun (x6 : Int32) => cb (f_X12_readsOn this h5) (fun (r7 : Unit) (h8 : PH) => cb (fr 4 this h8) (fun (r9 : Unit) (h10 : PH) => lt (fun (t11 : Int32) (h12 : PH) => cb (f_X12_laysStep this t11 h12) (fun (r13 : Unit) (h14 : PH) => rec4 () h14)) (fun (j49 : Int32 → PH → Option (Unit × PH)) => if x6 = (43 : Int32) then (j49 (10 : Int32) h10) else (j49 (11 : Int32) h10)))))) (fun (j : PH → Option (Unit × PH)) => ∀  (h5 : PH), SWo (QM mkV below args s D cA ad A) p l e (rmd (dd + 6)) s m args below meth c 0 0 2 D cA ad A 22 [(0, .ref this)] [] h5 (j h5)) ?_ (fun j22 hj22 => ?_)
  · intro h5
    refine so_aload_n (i := 0) X 0 (dkX12_readSum (22, .aload_n 0, 1) (pgm 10 rfl)) rfl rfl ?_
    refine sf_getI X ff_12_11 lk_1713 hk (dkX12_readSum (23, .getfield 107, 3) (pgm 11 rfl)) ?_
    refine so_istore_n (i := 1) X (dkX12_readSum (26, .istore_n 1, 1) (pgm 12 rfl)) rfl (by decide) (Lf := fun x6 => [(1, .int x6), (0, .ref this)]) (fun _ => rfl) (fun x6 => ?_)
    refine so_aload_n (i := 0) X 1 (dkX12_readSum (27, .aload_n 0, 1) (pgm 13 rfl)) rfl rfl ?_
    refine so_callV (n := 0) (As := []) X (ct_X12_readsOn l this h5 hk) hk (by decide) rfl lk_1839 lk_1841 lk_62 lk_134 lk_1842 (by decide +kernel) rfl rfl rfl (rm_ok (by omega) (by decide)) ⟨Nat.zero_le _, Nat.zero_le _⟩ (Nat.le_of_ble_eq_true rfl) (dkX12_readSum (28, .invokevirtual 146, 3) (pgm 14 rfl)) (fun r7 h8 => ?_) rfl
    refine so_aload_n (i := 0) X 1 (dkX12_readSum (31, .aload_n 0, 1) (pgm 15 rfl)) rfl rfl ?_
    refine so_callV (n := 0) (As := []) X (hfr4 this h8 hk) hk (by decide) rfl lk_1931 lk_1933 lk_80 lk_134 lk_1934 (by decide +kernel) rfl rfl rfl (rm_ok (by omega) (by decide)) ⟨Nat.zero_le _, Nat.zero_le _⟩ (Nat.le_of_ble_eq_true rfl) (dkX12_readSum (32, .invokevirtual 193, 3) (pgm 16 rfl)) (fun r9 h10 => ?_) rfl
    refine so_aload_n (i := 0) X 1 (dkX12_readSum (35, .aload_n 0, 1) (pgm 17 rfl)) rfl rfl ?_
    refine so_iload_n (i := 1) X 0 (dkX12_readSum (36, .iload_n 1, 1) (pgm 18 rfl)) rfl rfl ?_
    refine so_bipush (v := (43 : Int32)) X (dkX12_readSum (37, .bipush 43, 2) (pgm 19 rfl)) bp_43 ?_
    refine so_join (jf := fun (t11 : Int32) (h12 : PH) => cb (f_X12_laysStep this t11 h12) (fun (r13 : Unit) (h14 : PH) => rec4 () h14)) (fun (j : Int32 → PH → Option (Unit × PH)) => ∀ (t11 : Int32) (h12 : PH), SWo (QM mkV below args s D cA ad A) p l e (rmd (dd + 6)) s m args below meth c 0 0 2 D cA ad A 49 [(0, .ref this)] [.int t11, .ref this] h12 (j t11 h12)) ?_ (fun j49 hj49 => ?_)
    · intro t11 h12
      refine so_callV (n := 1) (As := [.int t11]) X (ct_X12_laysStep l this t11 h12 hk) hk (by decide) rfl lk_1919 lk_1921 lk_77 lk_134 lk_1922 (by decide +kernel) rfl rfl rfl (rm_ok (by omega) (by decide)) ⟨Nat.zero_le _, Nat.zero_le _⟩ (Nat.le_of_ble_eq_true rfl) (dkX12_readSum (49, .invokevirtual 168, 3) (pgm 24 rfl)) (fun r13 h14 => ?_) rfl
      refine so_goto (tgt := 4) X (dkX12_readSum (52, .goto (-48), 3) (pgm 25 rfl)) rfl ?_
      exact so_pick X [0] rfl (hrec4 () h14)
    refine so_icmp_ne (tgt := 47) X (dkX12_readSum (39, .if_icmp .ne 8, 3) (pgm 20 rfl)) rfl (fun _ => ?_) (fun _ => ?_)
    · refine so_bipush (v := (11 : Int32)) X (dkX12_readSum (47, .bipush 11, 2) (pgm 23 rfl)) bp_11 ?_
      exact so_pick X [1] rfl (hj49 (11 : Int32) h10)
    · refine so_bipush (v := (10 : Int32)) X (dkX12_readSum (42, .bipush 10, 2) (pgm 21 rfl)) bp_10 ?_
      refine so_goto (tgt := 49) X (dkX12_readSum (44, .goto 5, 3) (pgm 22 rfl)) rfl ?_
      exact so_pick X [1] rfl (hj49 (10 : Int32) h10)
  refine so_if_ne (tgt := 22) X (dkX12_readSum (10, .ifCond .ne 12, 3) (pgm 5 rfl)) rfl (fun _ => ?_) (fun _ => ?_)
  · exact so_pick X [0] rfl (hj22 h4)
  · refine so_aload_n (i := 0) X 0 (dkX12_readSum (13, .aload_n 0, 1) (pgm 6 rfl)) rfl rfl ?_
    refine so_bipush (v := (45 : Int32)) X (dkX12_readSum (14, .bipush 45, 2) (pgm 7 rfl)) bp_45 ?_
    refine so_callV (n := 1) (As := [.int (45 : Int32)]) X (ct_X12_isSign l this (45 : Int32) h4 hk) hk (by decide) rfl lk_1923 lk_1925 lk_78 lk_134 lk_1926 (by decide +kernel) rfl rfl rfl (rm_ok (by omega) (by decide)) ⟨Nat.zero_le _, Nat.zero_le _⟩ (Nat.le_of_ble_eq_true rfl) (dkX12_readSum (16, .invokevirtual 181, 3) (pgm 8 rfl)) (fun r15 h16 => ?_) rfl
    refine so_if_eq (tgt := 55) X (dkX12_readSum (19, .ifCond .eq 36, 3) (pgm 9 rfl)) rfl (fun _ => ?_) (fun _ => ?_)
    · exact so_vret X hr hlk (dkX12_readSum (55, .return_, 1) (pgm 26 rfl))
    · exact so_pick X [0] rfl (hj22 h16)
def pgX12_readTerm : List (Nat × Instr × Nat) := [(0, .aload_n 0, 1), (1, .invokevirtual 196, 3), (4, .aload_n 0, 1), (5, .bipush 42, 2), (7, .invokevirtual 181, 3), (10, .ifCond .eq 20, 3), (13, .aload_n 0, 1), (14, .invokevirtual 146, 3), (17, .aload_n 0, 1), (18, .invokevirtual 196, 3), (21, .aload_n 0, 1), (22, .bipush 12, 2), (24, .invokevirtual 168, 3), (27, .goto (-23), 3), (30, .return_, 1)]
theorem dkX12_readTerm : ∀ q ∈ pgX12_readTerm, decode cX12_readTerm q.1 = .ok q.2 := by decide +kernel
def b_X12_readTerm_4 (this : Nat) (fr : Nat → Nat → PH → Option (Unit × PH)) (rec4 : (Unit) → PH → Option (Unit × PH)) (s4 : Unit) (hh4 : PH) : Option (Unit × PH) :=
  cb (f_X12_isSign this (42 : Int32) hh4) (fun (r3 : Int32) (h4 : PH) => if r3 = 0 then (some ((), h4)) else (cb (f_X12_readsOn this h4) (fun (r5 : Unit) (h6 : PH) => cb (fr 5 this h6) (fun (r7 : Unit) (h8 : PH) => cb (f_X12_laysStep this (12 : Int32) h8) (fun (r9 : Unit) (h10 : PH) => rec4 () h10)))))
def g_X12_readTerm (fr : Nat → Nat → PH → Option (Unit × PH)) (this : Nat) (h0 : PH) : Option (Unit × PH) :=
  cb (fr 5 this h0) (fun (r1 : Unit) (h2 : PH) => lp (b_X12_readTerm_4 this fr) FU () h2)
set_option maxRecDepth 100000 in
set_option maxHeartbeats 4000000 in
theorem cg_X12_readTerm (l : Launch) (dd : Nat) (fr : Nat → Nat → PH → Option (Unit × PH)) (hfr0 : ∀ (this : Nat) (h0 : PH) (hk : (kd this).1 = 12), CT mkV l yX12_readTruth cX12_readTruth 1 none (rmd (dd + 5)) [.ref this] h0 (fr 0 this h0)) (hfr1 : ∀ (this : Nat) (h0 : PH) (hk : (kd this).1 = 12), CT mkV l yX12_readBoth cX12_readBoth 1 none (rmd (dd + 5)) [.ref this] h0 (fr 1 this h0)) (hfr2 : ∀ (this : Nat) (h0 : PH) (hk : (kd this).1 = 12), CT mkV l yX12_readUnit cX12_readUnit 2 none (rmd (dd + 5)) [.ref this] h0 (fr 2 this h0)) (hfr3 : ∀ (this : Nat) (h0 : PH) (hk : (kd this).1 = 12), CT mkV l yX12_readSum cX12_readSum 2 none (rmd (dd + 5)) [.ref this] h0 (fr 3 this h0)) (hfr4 : ∀ (this : Nat) (h0 : PH) (hk : (kd this).1 = 12), CT mkV l yX12_readTerm cX12_readTerm 1 none (rmd (dd + 5)) [.ref this] h0 (fr 4 this h0)) (hfr5 : ∀ (this : Nat) (h0 : PH) (hk : (kd this).1 = 12), CT mkV l yX12_readAtom cX12_readAtom 3 none (rmd (dd + 5)) [.ref this] h0 (fr 5 this h0)) (this : Nat) (h0 : PH) (hk : (kd this).1 = 12) : CT mkV l yX12_readTerm cX12_readTerm 1 none (rmd (dd + 6)) [.ref this] h0 (g_X12_readTerm fr this h0) := by
  refine ct_of (by decide) (Nat.le_of_ble_eq_true rfl) ?_
  intro p e s m args below meth c D cA ad A X hr hlk
  have X : Cx p s m args c RX12 cX12_readTerm 1 D cA ad A := X
  unfold g_X12_readTerm
  refine so_pick (L' := [(0, .ref this)]) X [0] rfl ?_
  refine so_aload_n (i := 0) X 0 (dkX12_readTerm (0, .aload_n 0, 1) (pgm 0 rfl)) rfl rfl ?_
  refine so_callV (n := 0) (As := []) X (hfr5 this h0 hk) hk (by decide) rfl lk_1935 lk_1937 lk_81 lk_134 lk_1938 (by decide +kernel) rfl rfl rfl (rm_ok (by omega) (by decide)) ⟨Nat.zero_le _, Nat.zero_le _⟩ (Nat.le_of_ble_eq_true rfl) (dkX12_readTerm (1, .invokevirtual 196, 3) (pgm 1 rfl)) (fun r1 h2 => ?_) rfl
  refine so_pick (L' := [(0, .ref this)]) X [0] rfl ?_
  refine so_loop (body := b_X12_readTerm_4 this fr) (fun (s4 : Unit) => [(0, .ref this)]) (fun rec4 hrec4 s4 hh4 => ?_) FU () h2
  unfold b_X12_readTerm_4
  refine so_aload_n (i := 0) X 0 (dkX12_readTerm (4, .aload_n 0, 1) (pgm 2 rfl)) rfl rfl ?_
  refine so_bipush (v := (42 : Int32)) X (dkX12_readTerm (5, .bipush 42, 2) (pgm 3 rfl)) bp_42 ?_
  refine so_callV (n := 1) (As := [.int (42 : Int32)]) X (ct_X12_isSign l this (42 : Int32) hh4 hk) hk (by decide) rfl lk_1923 lk_1925 lk_78 lk_134 lk_1926 (by decide +kernel) rfl rfl rfl (rm_ok (by omega) (by decide)) ⟨Nat.zero_le _, Nat.zero_le _⟩ (Nat.le_of_ble_eq_true rfl) (dkX12_readTerm (7, .invokevirtual 181, 3) (pgm 4 rfl)) (fun r3 h4 => ?_) rfl
  refine so_if_eq (tgt := 30) X (dkX12_readTerm (10, .ifCond .eq 20, 3) (pgm 5 rfl)) rfl (fun _ => ?_) (fun _ => ?_)
  · exact so_vret X hr hlk (dkX12_readTerm (30, .return_, 1) (pgm 14 rfl))
  · refine so_aload_n (i := 0) X 0 (dkX12_readTerm (13, .aload_n 0, 1) (pgm 6 rfl)) rfl rfl ?_
    refine so_callV (n := 0) (As := []) X (ct_X12_readsOn l this h4 hk) hk (by decide) rfl lk_1839 lk_1841 lk_62 lk_134 lk_1842 (by decide +kernel) rfl rfl rfl (rm_ok (by omega) (by decide)) ⟨Nat.zero_le _, Nat.zero_le _⟩ (Nat.le_of_ble_eq_true rfl) (dkX12_readTerm (14, .invokevirtual 146, 3) (pgm 7 rfl)) (fun r5 h6 => ?_) rfl
    refine so_aload_n (i := 0) X 0 (dkX12_readTerm (17, .aload_n 0, 1) (pgm 8 rfl)) rfl rfl ?_
    refine so_callV (n := 0) (As := []) X (hfr5 this h6 hk) hk (by decide) rfl lk_1935 lk_1937 lk_81 lk_134 lk_1938 (by decide +kernel) rfl rfl rfl (rm_ok (by omega) (by decide)) ⟨Nat.zero_le _, Nat.zero_le _⟩ (Nat.le_of_ble_eq_true rfl) (dkX12_readTerm (18, .invokevirtual 196, 3) (pgm 9 rfl)) (fun r7 h8 => ?_) rfl
    refine so_aload_n (i := 0) X 0 (dkX12_readTerm (21, .aload_n 0, 1) (pgm 10 rfl)) rfl rfl ?_
    refine so_bipush (v := (12 : Int32)) X (dkX12_readTerm (22, .bipush 12, 2) (pgm 11 rfl)) bp_12 ?_
    refine so_callV (n := 1) (As := [.int (12 : Int32)]) X (ct_X12_laysStep l this (12 : Int32) h8 hk) hk (by decide) rfl lk_1919 lk_1921 lk_77 lk_134 lk_1922 (by decide +kernel) rfl rfl rfl (rm_ok (by omega) (by decide)) ⟨Nat.zero_le _, Nat.zero_le _⟩ (Nat.le_of_ble_eq_true rfl) (dkX12_readTerm (24, .invokevirtual 168, 3) (pgm 12 rfl)) (fun r9 h10 => ?_) rfl
    refine so_goto (tgt := 4) X (dkX12_readTerm (27, .goto (-23), 3) (pgm 13 rfl)) rfl ?_
    exact so_pick X [0] rfl (hrec4 () h10)
def pgX12_readAtom : List (Nat × Instr × Nat) := [(0, .aload_n 0, 1), (1, .getfield 127, 3), (4, .ifCond .eq 4, 3), (7, .return_, 1), (8, .aload_n 0, 1), (9, .ldc 199, 2), (11, .invokevirtual 149, 3), (14, .ifCond .eq 51, 3), (17, .aload_n 0, 1), (18, .iconst 0, 1), (19, .aload_n 0, 1), (20, .getfield 13, 3), (23, .iconst 1, 1), (24, .iaload, 1), (25, .iconst 1, 1), (26, .isub, 1), (27, .invokevirtual 201, 3), (30, .istore_n 1, 1), (31, .aload_n 0, 1), (32, .iconst 0, 1), (33, .aload_n 0, 1), (34, .getfield 13, 3), (37, .iconst 2, 1), (38, .iaload, 1), (39, .iconst 1, 1), (40, .isub, 1), (41, .invokevirtual 201, 3), (44, .istore_n 2, 1), (45, .aload_n 0, 1), (46, .bipush 100, 2), (48, .aload_n 0, 1), (49, .getfield 13, 3), (52, .iconst 2, 1), (53, .iaload, 1), (54, .iload_n 1, 1), (55, .imul, 1), (56, .iadd, 1), (57, .iload_n 2, 1), (58, .iadd, 1), (59, .invokevirtual 168, 3), (62, .goto 146, 3), (65, .aload_n 0, 1), (66, .ldc 205, 2), (68, .invokevirtual 149, 3), (71, .ifCond .eq 29, 3), (74, .aload_n 0, 1), (75, .iconst 0, 1), (76, .aload_n 0, 1), (77, .getfield 13, 3), (80, .iconst 1, 1), (81, .iaload, 1), (82, .iconst 1, 1), (83, .isub, 1), (84, .invokevirtual 201, 3), (87, .istore_n 1, 1), (88, .aload_n 0, 1), (89, .sipush 200, 3), (92, .iload_n 1, 1), (93, .iadd, 1), (94, .invokevirtual 168, 3), (97, .goto 111, 3), (100, .aload_n 0, 1), (101, .ldc 207, 2), (103, .invokevirtual 149, 3), (106, .ifCond .eq 29, 3), (109, .aload_n 0, 1), (110, .iconst 0, 1), (111, .aload_n 0, 1), (112, .getfield 13, 3), (115, .iconst 2, 1), (116, .iaload, 1), (117, .iconst 1, 1), (118, .isub, 1), (119, .invokevirtual 201, 3), (122, .istore_n 1, 1), (123, .aload_n 0, 1), (124, .sipush 300, 3), (127, .iload_n 1, 1), (128, .iadd, 1), (129, .invokevirtual 168, 3), (132, .goto 76, 3), (135, .aload_n 0, 1), (136, .ldc 209, 2), (138, .invokevirtual 149, 3), (141, .ifCond .eq 13, 3), (144, .aload_n 0, 1), (145, .sipush 400, 3), (148, .invokevirtual 168, 3), (151, .goto 57, 3), (154, .aload_n 0, 1), (155, .bipush 40, 2), (157, .invokevirtual 181, 3), (160, .ifCond .eq 30, 3), (163, .aload_n 0, 1), (164, .invokevirtual 178, 3), (167, .aload_n 0, 1), (168, .invokevirtual 190, 3), (171, .aload_n 0, 1), (172, .bipush 41, 2), (174, .invokevirtual 187, 3), (177, .aload_n 0, 1), (178, .dup, 1), (179, .getfield 160, 3), (182, .iconst 1, 1), (183, .isub, 1), (184, .putfield 160, 3), (187, .goto 21, 3), (190, .aload_n 0, 1), (191, .iconst 0, 1), (192, .sipush 999, 3), (195, .invokevirtual 201, 3), (198, .istore_n 1, 1), (199, .aload_n 0, 1), (200, .sipush 1000, 3), (203, .iload_n 1, 1), (204, .iadd, 1), (205, .invokevirtual 168, 3), (208, .return_, 1)]
theorem dkX12_readAtom : ∀ q ∈ pgX12_readAtom, decode cX12_readAtom q.1 = .ok q.2 := by decide +kernel
def g_X12_readAtom (fr : Nat → Nat → PH → Option (Unit × PH)) (this : Nat) (h0 : PH) : Option (Unit × PH) :=
  if (h0.1 this 13) = 0 then (cb (f_X12_took this 60 h0) (fun (r1 : Int32) (h2 : PH) => lt (fun (h3 : PH) => some ((), h3)) (fun (j208 : PH → Option (Unit × PH)) => if r1 = 0 then (cb (f_X12_took this 61 h2) (fun (r4 : Int32) (h5 : PH) => if r4 = 0 then (cb (f_X12_took this 62 h5) (fun (r6 : Int32) (h7 : PH) => if r6 = 0 then (cb (f_X12_took this 63 h7) (fun (r8 : Int32) (h9 : PH) => if r8 = 0 then (cb (f_X12_isSign this (40 : Int32) h9) (fun (r10 : Int32) (h11 : PH) => if r10 = 0 then (cb (f_X12_number this (0 : Int32) (999 : Int32) h11) (fun (r12 : Int32) (h13 : PH) => lt r12 (fun (x14 : Int32) => cb (f_X12_laysStep this ((1000 : Int32) + x14) h13) (fun (r15 : Unit) (h16 : PH) => j208 h16)))) else (cb (f_X12_goesIn this h11) (fun (r17 : Unit) (h18 : PH) => cb (fr 3 this h18) (fun (r19 : Unit) (h20 : PH) => cb (f_X12_mustSign this (41 : Int32) h20) (fun (r21 : Unit) (h22 : PH) => lt (pI h22 this 17 ((h22.1 this 17) - (1 : Int32))) (fun (h23 : PH) => j208 h23))))))) else (cb (f_X12_laysStep this (400 : Int32) h9) (fun (r24 : Unit) (h25 : PH) => j208 h25)))) else (ldI h7 (rt this 1) 1200 (2 : Int32) (fun (x26 : Int32) => cb (f_X12_number this (0 : Int32) (x26 - (1 : Int32)) h7) (fun (r27 : Int32) (h28 : PH) => lt r27 (fun (x29 : Int32) => cb (f_X12_laysStep this ((300 : Int32) + x29) h28) (fun (r30 : Unit) (h31 : PH) => j208 h31))))))) else (ldI h5 (rt this 1) 1200 (1 : Int32) (fun (x32 : Int32) => cb (f_X12_number this (0 : Int32) (x32 - (1 : Int32)) h5) (fun (r33 : Int32) (h34 : PH) => lt r33 (fun (x35 : Int32) => cb (f_X12_laysStep this ((200 : Int32) + x35) h34) (fun (r36 : Unit) (h37 : PH) => j208 h37))))))) else (ldI h2 (rt this 1) 1200 (1 : Int32) (fun (x38 : Int32) => cb (f_X12_number this (0 : Int32) (x38 - (1 : Int32)) h2) (fun (r39 : Int32) (h40 : PH) => lt r39 (fun (x41 : Int32) => ldI h40 (rt this 1) 1200 (2 : Int32) (fun (x42 : Int32) => cb (f_X12_number this (0 : Int32) (x42 - (1 : Int32)) h40) (fun (r43 : Int32) (h44 : PH) => lt r43 (fun (x45 : Int32) => ldI h44 (rt this 1) 1200 (2 : Int32) (fun (x46 : Int32) => cb (f_X12_laysStep this (((100 : Int32) + (x46 * x41)) + x45) h44) (fun (r47 : Unit) (h48 : PH) => j208 h48)))))))))))) else (some ((), h0))
set_option maxRecDepth 100000 in
set_option maxHeartbeats 4000000 in
theorem cg_X12_readAtom (l : Launch) (dd : Nat) (fr : Nat → Nat → PH → Option (Unit × PH)) (hfr0 : ∀ (this : Nat) (h0 : PH) (hk : (kd this).1 = 12), CT mkV l yX12_readTruth cX12_readTruth 1 none (rmd (dd + 5)) [.ref this] h0 (fr 0 this h0)) (hfr1 : ∀ (this : Nat) (h0 : PH) (hk : (kd this).1 = 12), CT mkV l yX12_readBoth cX12_readBoth 1 none (rmd (dd + 5)) [.ref this] h0 (fr 1 this h0)) (hfr2 : ∀ (this : Nat) (h0 : PH) (hk : (kd this).1 = 12), CT mkV l yX12_readUnit cX12_readUnit 2 none (rmd (dd + 5)) [.ref this] h0 (fr 2 this h0)) (hfr3 : ∀ (this : Nat) (h0 : PH) (hk : (kd this).1 = 12), CT mkV l yX12_readSum cX12_readSum 2 none (rmd (dd + 5)) [.ref this] h0 (fr 3 this h0)) (hfr4 : ∀ (this : Nat) (h0 : PH) (hk : (kd this).1 = 12), CT mkV l yX12_readTerm cX12_readTerm 1 none (rmd (dd + 5)) [.ref this] h0 (fr 4 this h0)) (hfr5 : ∀ (this : Nat) (h0 : PH) (hk : (kd this).1 = 12), CT mkV l yX12_readAtom cX12_readAtom 3 none (rmd (dd + 5)) [.ref this] h0 (fr 5 this h0)) (this : Nat) (h0 : PH) (hk : (kd this).1 = 12) : CT mkV l yX12_readAtom cX12_readAtom 3 none (rmd (dd + 6)) [.ref this] h0 (g_X12_readAtom fr this h0) := by
  refine ct_of (by decide) (Nat.le_of_ble_eq_true rfl) ?_
  intro p e s m args below meth c D cA ad A X hr hlk
  have X : Cx p s m args c RX12 cX12_readAtom 3 D cA ad A := X
  unfold g_X12_readAtom
  refine so_pick (L' := [(0, .ref this)]) X [0] rfl ?_
  refine so_aload_n (i := 0) X 0 (dkX12_readAtom (0, .aload_n 0, 1) (pgm 0 rfl)) rfl rfl ?_
  refine sf_getI X ff_12_13 lk_1715 hk (dkX12_readAtom (1, .getfield 127, 3) (pgm 1 rfl)) ?_
  refine so_if_eq (tgt := 8) X (dkX12_readAtom (4, .ifCond .eq 4, 3) (pgm 2 rfl)) rfl (fun _ => ?_) (fun _ => ?_)
  · refine so_aload_n (i := 0) X 0 (dkX12_readAtom (8, .aload_n 0, 1) (pgm 4 rfl)) rfl rfl ?_
    refine so_ldcS (n := 60) (tx := "wet") X (pgm 60 rfl) (dkX12_readAtom (9, .ldc 199, 2) (pgm 5 rfl)) ?_
    refine so_callV (n := 1) (As := [.ref (200 + 60)]) X (ct_X12_took l this 60 h0 hk (by decide : 60 < NS)) hk (by decide) rfl lk_1861 lk_1863 lk_65 lk_134 lk_1864 (by decide +kernel) rfl rfl rfl (rm_ok (by omega) (by decide)) ⟨Nat.zero_le _, Nat.zero_le _⟩ (Nat.le_of_ble_eq_true rfl) (dkX12_readAtom (11, .invokevirtual 149, 3) (pgm 6 rfl)) (fun r1 h2 => ?_) rfl
    refine so_join (jf := fun (h3 : PH) => some ((), h3)) (fun (j : PH → Option (Unit × PH)) => ∀  (h3 : PH), SWo (QM mkV below args s D cA ad A) p l e (rmd (dd + 6)) s m args below meth c 0 0 3 D cA ad A 208 [] [] h3 (j h3)) ?_ (fun j208 hj208 => ?_)
    · intro h3
      exact so_vret X hr hlk (dkX12_readAtom (208, .return_, 1) (pgm 117 rfl))
    refine so_if_eq (tgt := 65) X (dkX12_readAtom (14, .ifCond .eq 51, 3) (pgm 7 rfl)) rfl (fun _ => ?_) (fun _ => ?_)
    · refine so_aload_n (i := 0) X 0 (dkX12_readAtom (65, .aload_n 0, 1) (pgm 41 rfl)) rfl rfl ?_
      refine so_ldcS (n := 61) (tx := "of") X (pgm 61 rfl) (dkX12_readAtom (66, .ldc 205, 2) (pgm 42 rfl)) ?_
      refine so_callV (n := 1) (As := [.ref (200 + 61)]) X (ct_X12_took l this 61 h2 hk (by decide : 61 < NS)) hk (by decide) rfl lk_1861 lk_1863 lk_65 lk_134 lk_1864 (by decide +kernel) rfl rfl rfl (rm_ok (by omega) (by decide)) ⟨Nat.zero_le _, Nat.zero_le _⟩ (Nat.le_of_ble_eq_true rfl) (dkX12_readAtom (68, .invokevirtual 149, 3) (pgm 43 rfl)) (fun r4 h5 => ?_) rfl
      refine so_if_eq (tgt := 100) X (dkX12_readAtom (71, .ifCond .eq 29, 3) (pgm 44 rfl)) rfl (fun _ => ?_) (fun _ => ?_)
      · refine so_aload_n (i := 0) X 0 (dkX12_readAtom (100, .aload_n 0, 1) (pgm 61 rfl)) rfl rfl ?_
        refine so_ldcS (n := 62) (tx := "on") X (pgm 62 rfl) (dkX12_readAtom (101, .ldc 207, 2) (pgm 62 rfl)) ?_
        refine so_callV (n := 1) (As := [.ref (200 + 62)]) X (ct_X12_took l this 62 h5 hk (by decide : 62 < NS)) hk (by decide) rfl lk_1861 lk_1863 lk_65 lk_134 lk_1864 (by decide +kernel) rfl rfl rfl (rm_ok (by omega) (by decide)) ⟨Nat.zero_le _, Nat.zero_le _⟩ (Nat.le_of_ble_eq_true rfl) (dkX12_readAtom (103, .invokevirtual 149, 3) (pgm 63 rfl)) (fun r6 h7 => ?_) rfl
        refine so_if_eq (tgt := 135) X (dkX12_readAtom (106, .ifCond .eq 29, 3) (pgm 64 rfl)) rfl (fun _ => ?_) (fun _ => ?_)
        · refine so_aload_n (i := 0) X 0 (dkX12_readAtom (135, .aload_n 0, 1) (pgm 81 rfl)) rfl rfl ?_
          refine so_ldcS (n := 63) (tx := "all") X (pgm 63 rfl) (dkX12_readAtom (136, .ldc 209, 2) (pgm 82 rfl)) ?_
          refine so_callV (n := 1) (As := [.ref (200 + 63)]) X (ct_X12_took l this 63 h7 hk (by decide : 63 < NS)) hk (by decide) rfl lk_1861 lk_1863 lk_65 lk_134 lk_1864 (by decide +kernel) rfl rfl rfl (rm_ok (by omega) (by decide)) ⟨Nat.zero_le _, Nat.zero_le _⟩ (Nat.le_of_ble_eq_true rfl) (dkX12_readAtom (138, .invokevirtual 149, 3) (pgm 83 rfl)) (fun r8 h9 => ?_) rfl
          refine so_if_eq (tgt := 154) X (dkX12_readAtom (141, .ifCond .eq 13, 3) (pgm 84 rfl)) rfl (fun _ => ?_) (fun _ => ?_)
          · refine so_aload_n (i := 0) X 0 (dkX12_readAtom (154, .aload_n 0, 1) (pgm 89 rfl)) rfl rfl ?_
            refine so_bipush (v := (40 : Int32)) X (dkX12_readAtom (155, .bipush 40, 2) (pgm 90 rfl)) bp_40 ?_
            refine so_callV (n := 1) (As := [.int (40 : Int32)]) X (ct_X12_isSign l this (40 : Int32) h9 hk) hk (by decide) rfl lk_1923 lk_1925 lk_78 lk_134 lk_1926 (by decide +kernel) rfl rfl rfl (rm_ok (by omega) (by decide)) ⟨Nat.zero_le _, Nat.zero_le _⟩ (Nat.le_of_ble_eq_true rfl) (dkX12_readAtom (157, .invokevirtual 181, 3) (pgm 91 rfl)) (fun r10 h11 => ?_) rfl
            refine so_if_eq (tgt := 190) X (dkX12_readAtom (160, .ifCond .eq 30, 3) (pgm 92 rfl)) rfl (fun _ => ?_) (fun _ => ?_)
            · refine so_aload_n (i := 0) X 0 (dkX12_readAtom (190, .aload_n 0, 1) (pgm 107 rfl)) rfl rfl ?_
              refine so_iconst (v := (0 : Int32)) X (dkX12_readAtom (191, .iconst 0, 1) (pgm 108 rfl)) ic_0 ?_
              refine so_sipush (v := (999 : Int32)) X (dkX12_readAtom (192, .sipush 999, 3) (pgm 109 rfl)) sp_999 ?_
              refine so_callV (n := 2) (As := [.int (0 : Int32), .int (999 : Int32)]) X (ct_X12_number l this (0 : Int32) (999 : Int32) h11 hk) hk (by decide) rfl lk_1875 lk_1877 lk_68 lk_134 lk_1878 (by decide +kernel) rfl rfl rfl (rm_ok (by omega) (by decide)) ⟨Nat.zero_le _, Nat.zero_le _⟩ (Nat.le_of_ble_eq_true rfl) (dkX12_readAtom (195, .invokevirtual 201, 3) (pgm 110 rfl)) (fun r12 h13 => ?_) rfl
              refine so_istore_n (i := 1) X (dkX12_readAtom (198, .istore_n 1, 1) (pgm 111 rfl)) rfl (by decide) (Lf := fun x14 => [(1, .int x14), (0, .ref this)]) (fun _ => rfl) (fun x14 => ?_)
              refine so_aload_n (i := 0) X 1 (dkX12_readAtom (199, .aload_n 0, 1) (pgm 112 rfl)) rfl rfl ?_
              refine so_sipush (v := (1000 : Int32)) X (dkX12_readAtom (200, .sipush 1000, 3) (pgm 113 rfl)) sp_1000 ?_
              refine so_iload_n (i := 1) X 0 (dkX12_readAtom (203, .iload_n 1, 1) (pgm 114 rfl)) rfl rfl ?_
              refine so_iadd X (dkX12_readAtom (204, .iadd, 1) (pgm 115 rfl)) ?_
              refine so_callV (n := 1) (As := [.int ((1000 : Int32) + x14)]) X (ct_X12_laysStep l this ((1000 : Int32) + x14) h13 hk) hk (by decide) rfl lk_1919 lk_1921 lk_77 lk_134 lk_1922 (by decide +kernel) rfl rfl rfl (rm_ok (by omega) (by decide)) ⟨Nat.zero_le _, Nat.zero_le _⟩ (Nat.le_of_ble_eq_true rfl) (dkX12_readAtom (205, .invokevirtual 168, 3) (pgm 116 rfl)) (fun r15 h16 => ?_) rfl
              exact so_pick X [] rfl (hj208 h16)
            · refine so_aload_n (i := 0) X 0 (dkX12_readAtom (163, .aload_n 0, 1) (pgm 93 rfl)) rfl rfl ?_
              refine so_callV (n := 0) (As := []) X (ct_X12_goesIn l this h11 hk) hk (by decide) rfl lk_1915 lk_1917 lk_76 lk_134 lk_1918 (by decide +kernel) rfl rfl rfl (rm_ok (by omega) (by decide)) ⟨Nat.zero_le _, Nat.zero_le _⟩ (Nat.le_of_ble_eq_true rfl) (dkX12_readAtom (164, .invokevirtual 178, 3) (pgm 94 rfl)) (fun r17 h18 => ?_) rfl
              refine so_aload_n (i := 0) X 0 (dkX12_readAtom (167, .aload_n 0, 1) (pgm 95 rfl)) rfl rfl ?_
              refine so_callV (n := 0) (As := []) X (hfr3 this h18 hk) hk (by decide) rfl lk_1927 lk_1929 lk_79 lk_134 lk_1930 (by decide +kernel) rfl rfl rfl (rm_ok (by omega) (by decide)) ⟨Nat.zero_le _, Nat.zero_le _⟩ (Nat.le_of_ble_eq_true rfl) (dkX12_readAtom (168, .invokevirtual 190, 3) (pgm 96 rfl)) (fun r19 h20 => ?_) rfl
              refine so_aload_n (i := 0) X 0 (dkX12_readAtom (171, .aload_n 0, 1) (pgm 97 rfl)) rfl rfl ?_
              refine so_bipush (v := (41 : Int32)) X (dkX12_readAtom (172, .bipush 41, 2) (pgm 98 rfl)) bp_41 ?_
              refine so_callV (n := 1) (As := [.int (41 : Int32)]) X (ct_X12_mustSign l this (41 : Int32) h20 hk) hk (by decide) rfl lk_1884 lk_1886 lk_70 lk_134 lk_1887 (by decide +kernel) rfl rfl rfl (rm_ok (by omega) (by decide)) ⟨Nat.zero_le _, Nat.zero_le _⟩ (Nat.le_of_ble_eq_true rfl) (dkX12_readAtom (174, .invokevirtual 187, 3) (pgm 99 rfl)) (fun r21 h22 => ?_) rfl
              refine so_aload_n (i := 0) X 0 (dkX12_readAtom (177, .aload_n 0, 1) (pgm 100 rfl)) rfl rfl ?_
              refine so_dup X (dkX12_readAtom (178, .dup, 1) (pgm 101 rfl)) rfl ?_
              refine sf_getI X ff_12_17 lk_1719 hk (dkX12_readAtom (179, .getfield 160, 3) (pgm 102 rfl)) ?_
              refine so_iconst (v := (1 : Int32)) X (dkX12_readAtom (182, .iconst 1, 1) (pgm 103 rfl)) ic_1 ?_
              refine so_isub X (dkX12_readAtom (183, .isub, 1) (pgm 104 rfl)) ?_
              refine sf_putI X ff_12_17 ft_12 rfl lk_1719 hk rfl rfl (dkX12_readAtom (184, .putfield 160, 3) (pgm 105 rfl)) (fun h23 => ?_)
              refine so_goto (tgt := 208) X (dkX12_readAtom (187, .goto 21, 3) (pgm 106 rfl)) rfl ?_
              exact so_pick X [] rfl (hj208 h23)
          · refine so_aload_n (i := 0) X 0 (dkX12_readAtom (144, .aload_n 0, 1) (pgm 85 rfl)) rfl rfl ?_
            refine so_sipush (v := (400 : Int32)) X (dkX12_readAtom (145, .sipush 400, 3) (pgm 86 rfl)) sp_400 ?_
            refine so_callV (n := 1) (As := [.int (400 : Int32)]) X (ct_X12_laysStep l this (400 : Int32) h9 hk) hk (by decide) rfl lk_1919 lk_1921 lk_77 lk_134 lk_1922 (by decide +kernel) rfl rfl rfl (rm_ok (by omega) (by decide)) ⟨Nat.zero_le _, Nat.zero_le _⟩ (Nat.le_of_ble_eq_true rfl) (dkX12_readAtom (148, .invokevirtual 168, 3) (pgm 87 rfl)) (fun r24 h25 => ?_) rfl
            refine so_goto (tgt := 208) X (dkX12_readAtom (151, .goto 57, 3) (pgm 88 rfl)) rfl ?_
            exact so_pick X [] rfl (hj208 h25)
        · refine so_aload_n (i := 0) X 0 (dkX12_readAtom (109, .aload_n 0, 1) (pgm 65 rfl)) rfl rfl ?_
          refine so_iconst (v := (0 : Int32)) X (dkX12_readAtom (110, .iconst 0, 1) (pgm 66 rfl)) ic_0 ?_
          refine so_aload_n (i := 0) X 0 (dkX12_readAtom (111, .aload_n 0, 1) (pgm 67 rfl)) rfl rfl ?_
          refine sf_getR X ff_12_1 lk_1703 hk (dkX12_readAtom (112, .getfield 13, 3) (pgm 68 rfl)) ?_
          refine so_iconst (v := (2 : Int32)) X (dkX12_readAtom (115, .iconst 2, 1) (pgm 69 rfl)) ic_2 ?_
          refine so_iald X (rk_12_1 this hk) (dkX12_readAtom (116, .iaload, 1) (pgm 70 rfl)) (fun x26 => ?_)
          refine so_iconst (v := (1 : Int32)) X (dkX12_readAtom (117, .iconst 1, 1) (pgm 71 rfl)) ic_1 ?_
          refine so_isub X (dkX12_readAtom (118, .isub, 1) (pgm 72 rfl)) ?_
          refine so_callV (n := 2) (As := [.int (0 : Int32), .int (x26 - (1 : Int32))]) X (ct_X12_number l this (0 : Int32) (x26 - (1 : Int32)) h7 hk) hk (by decide) rfl lk_1875 lk_1877 lk_68 lk_134 lk_1878 (by decide +kernel) rfl rfl rfl (rm_ok (by omega) (by decide)) ⟨Nat.zero_le _, Nat.zero_le _⟩ (Nat.le_of_ble_eq_true rfl) (dkX12_readAtom (119, .invokevirtual 201, 3) (pgm 73 rfl)) (fun r27 h28 => ?_) rfl
          refine so_istore_n (i := 1) X (dkX12_readAtom (122, .istore_n 1, 1) (pgm 74 rfl)) rfl (by decide) (Lf := fun x29 => [(1, .int x29), (0, .ref this)]) (fun _ => rfl) (fun x29 => ?_)
          refine so_aload_n (i := 0) X 1 (dkX12_readAtom (123, .aload_n 0, 1) (pgm 75 rfl)) rfl rfl ?_
          refine so_sipush (v := (300 : Int32)) X (dkX12_readAtom (124, .sipush 300, 3) (pgm 76 rfl)) sp_300 ?_
          refine so_iload_n (i := 1) X 0 (dkX12_readAtom (127, .iload_n 1, 1) (pgm 77 rfl)) rfl rfl ?_
          refine so_iadd X (dkX12_readAtom (128, .iadd, 1) (pgm 78 rfl)) ?_
          refine so_callV (n := 1) (As := [.int ((300 : Int32) + x29)]) X (ct_X12_laysStep l this ((300 : Int32) + x29) h28 hk) hk (by decide) rfl lk_1919 lk_1921 lk_77 lk_134 lk_1922 (by decide +kernel) rfl rfl rfl (rm_ok (by omega) (by decide)) ⟨Nat.zero_le _, Nat.zero_le _⟩ (Nat.le_of_ble_eq_true rfl) (dkX12_readAtom (129, .invokevirtual 168, 3) (pgm 79 rfl)) (fun r30 h31 => ?_) rfl
          refine so_goto (tgt := 208) X (dkX12_readAtom (132, .goto 76, 3) (pgm 80 rfl)) rfl ?_
          exact so_pick X [] rfl (hj208 h31)
      · refine so_aload_n (i := 0) X 0 (dkX12_readAtom (74, .aload_n 0, 1) (pgm 45 rfl)) rfl rfl ?_
        refine so_iconst (v := (0 : Int32)) X (dkX12_readAtom (75, .iconst 0, 1) (pgm 46 rfl)) ic_0 ?_
        refine so_aload_n (i := 0) X 0 (dkX12_readAtom (76, .aload_n 0, 1) (pgm 47 rfl)) rfl rfl ?_
        refine sf_getR X ff_12_1 lk_1703 hk (dkX12_readAtom (77, .getfield 13, 3) (pgm 48 rfl)) ?_
        refine so_iconst (v := (1 : Int32)) X (dkX12_readAtom (80, .iconst 1, 1) (pgm 49 rfl)) ic_1 ?_
        refine so_iald X (rk_12_1 this hk) (dkX12_readAtom (81, .iaload, 1) (pgm 50 rfl)) (fun x32 => ?_)
        refine so_iconst (v := (1 : Int32)) X (dkX12_readAtom (82, .iconst 1, 1) (pgm 51 rfl)) ic_1 ?_
        refine so_isub X (dkX12_readAtom (83, .isub, 1) (pgm 52 rfl)) ?_
        refine so_callV (n := 2) (As := [.int (0 : Int32), .int (x32 - (1 : Int32))]) X (ct_X12_number l this (0 : Int32) (x32 - (1 : Int32)) h5 hk) hk (by decide) rfl lk_1875 lk_1877 lk_68 lk_134 lk_1878 (by decide +kernel) rfl rfl rfl (rm_ok (by omega) (by decide)) ⟨Nat.zero_le _, Nat.zero_le _⟩ (Nat.le_of_ble_eq_true rfl) (dkX12_readAtom (84, .invokevirtual 201, 3) (pgm 53 rfl)) (fun r33 h34 => ?_) rfl
        refine so_istore_n (i := 1) X (dkX12_readAtom (87, .istore_n 1, 1) (pgm 54 rfl)) rfl (by decide) (Lf := fun x35 => [(1, .int x35), (0, .ref this)]) (fun _ => rfl) (fun x35 => ?_)
        refine so_aload_n (i := 0) X 1 (dkX12_readAtom (88, .aload_n 0, 1) (pgm 55 rfl)) rfl rfl ?_
        refine so_sipush (v := (200 : Int32)) X (dkX12_readAtom (89, .sipush 200, 3) (pgm 56 rfl)) sp_200 ?_
        refine so_iload_n (i := 1) X 0 (dkX12_readAtom (92, .iload_n 1, 1) (pgm 57 rfl)) rfl rfl ?_
        refine so_iadd X (dkX12_readAtom (93, .iadd, 1) (pgm 58 rfl)) ?_
        refine so_callV (n := 1) (As := [.int ((200 : Int32) + x35)]) X (ct_X12_laysStep l this ((200 : Int32) + x35) h34 hk) hk (by decide) rfl lk_1919 lk_1921 lk_77 lk_134 lk_1922 (by decide +kernel) rfl rfl rfl (rm_ok (by omega) (by decide)) ⟨Nat.zero_le _, Nat.zero_le _⟩ (Nat.le_of_ble_eq_true rfl) (dkX12_readAtom (94, .invokevirtual 168, 3) (pgm 59 rfl)) (fun r36 h37 => ?_) rfl
        refine so_goto (tgt := 208) X (dkX12_readAtom (97, .goto 111, 3) (pgm 60 rfl)) rfl ?_
        exact so_pick X [] rfl (hj208 h37)
    · refine so_aload_n (i := 0) X 0 (dkX12_readAtom (17, .aload_n 0, 1) (pgm 8 rfl)) rfl rfl ?_
      refine so_iconst (v := (0 : Int32)) X (dkX12_readAtom (18, .iconst 0, 1) (pgm 9 rfl)) ic_0 ?_
      refine so_aload_n (i := 0) X 0 (dkX12_readAtom (19, .aload_n 0, 1) (pgm 10 rfl)) rfl rfl ?_
      refine sf_getR X ff_12_1 lk_1703 hk (dkX12_readAtom (20, .getfield 13, 3) (pgm 11 rfl)) ?_
      refine so_iconst (v := (1 : Int32)) X (dkX12_readAtom (23, .iconst 1, 1) (pgm 12 rfl)) ic_1 ?_
      refine so_iald X (rk_12_1 this hk) (dkX12_readAtom (24, .iaload, 1) (pgm 13 rfl)) (fun x38 => ?_)
      refine so_iconst (v := (1 : Int32)) X (dkX12_readAtom (25, .iconst 1, 1) (pgm 14 rfl)) ic_1 ?_
      refine so_isub X (dkX12_readAtom (26, .isub, 1) (pgm 15 rfl)) ?_
      refine so_callV (n := 2) (As := [.int (0 : Int32), .int (x38 - (1 : Int32))]) X (ct_X12_number l this (0 : Int32) (x38 - (1 : Int32)) h2 hk) hk (by decide) rfl lk_1875 lk_1877 lk_68 lk_134 lk_1878 (by decide +kernel) rfl rfl rfl (rm_ok (by omega) (by decide)) ⟨Nat.zero_le _, Nat.zero_le _⟩ (Nat.le_of_ble_eq_true rfl) (dkX12_readAtom (27, .invokevirtual 201, 3) (pgm 16 rfl)) (fun r39 h40 => ?_) rfl
      refine so_istore_n (i := 1) X (dkX12_readAtom (30, .istore_n 1, 1) (pgm 17 rfl)) rfl (by decide) (Lf := fun x41 => [(1, .int x41), (0, .ref this)]) (fun _ => rfl) (fun x41 => ?_)
      refine so_aload_n (i := 0) X 1 (dkX12_readAtom (31, .aload_n 0, 1) (pgm 18 rfl)) rfl rfl ?_
      refine so_iconst (v := (0 : Int32)) X (dkX12_readAtom (32, .iconst 0, 1) (pgm 19 rfl)) ic_0 ?_
      refine so_aload_n (i := 0) X 1 (dkX12_readAtom (33, .aload_n 0, 1) (pgm 20 rfl)) rfl rfl ?_
      refine sf_getR X ff_12_1 lk_1703 hk (dkX12_readAtom (34, .getfield 13, 3) (pgm 21 rfl)) ?_
      refine so_iconst (v := (2 : Int32)) X (dkX12_readAtom (37, .iconst 2, 1) (pgm 22 rfl)) ic_2 ?_
      refine so_iald X (rk_12_1 this hk) (dkX12_readAtom (38, .iaload, 1) (pgm 23 rfl)) (fun x42 => ?_)
      refine so_iconst (v := (1 : Int32)) X (dkX12_readAtom (39, .iconst 1, 1) (pgm 24 rfl)) ic_1 ?_
      refine so_isub X (dkX12_readAtom (40, .isub, 1) (pgm 25 rfl)) ?_
      refine so_callV (n := 2) (As := [.int (0 : Int32), .int (x42 - (1 : Int32))]) X (ct_X12_number l this (0 : Int32) (x42 - (1 : Int32)) h40 hk) hk (by decide) rfl lk_1875 lk_1877 lk_68 lk_134 lk_1878 (by decide +kernel) rfl rfl rfl (rm_ok (by omega) (by decide)) ⟨Nat.zero_le _, Nat.zero_le _⟩ (Nat.le_of_ble_eq_true rfl) (dkX12_readAtom (41, .invokevirtual 201, 3) (pgm 26 rfl)) (fun r43 h44 => ?_) rfl
      refine so_istore_n (i := 2) X (dkX12_readAtom (44, .istore_n 2, 1) (pgm 27 rfl)) rfl (by decide) (Lf := fun x45 => [(2, .int x45), (1, .int x41), (0, .ref this)]) (fun _ => rfl) (fun x45 => ?_)
      refine so_aload_n (i := 0) X 2 (dkX12_readAtom (45, .aload_n 0, 1) (pgm 28 rfl)) rfl rfl ?_
      refine so_bipush (v := (100 : Int32)) X (dkX12_readAtom (46, .bipush 100, 2) (pgm 29 rfl)) bp_100 ?_
      refine so_aload_n (i := 0) X 2 (dkX12_readAtom (48, .aload_n 0, 1) (pgm 30 rfl)) rfl rfl ?_
      refine sf_getR X ff_12_1 lk_1703 hk (dkX12_readAtom (49, .getfield 13, 3) (pgm 31 rfl)) ?_
      refine so_iconst (v := (2 : Int32)) X (dkX12_readAtom (52, .iconst 2, 1) (pgm 32 rfl)) ic_2 ?_
      refine so_iald X (rk_12_1 this hk) (dkX12_readAtom (53, .iaload, 1) (pgm 33 rfl)) (fun x46 => ?_)
      refine so_iload_n (i := 1) X 1 (dkX12_readAtom (54, .iload_n 1, 1) (pgm 34 rfl)) rfl rfl ?_
      refine so_imul X (dkX12_readAtom (55, .imul, 1) (pgm 35 rfl)) ?_
      refine so_iadd X (dkX12_readAtom (56, .iadd, 1) (pgm 36 rfl)) ?_
      refine so_iload_n (i := 2) X 0 (dkX12_readAtom (57, .iload_n 2, 1) (pgm 37 rfl)) rfl rfl ?_
      refine so_iadd X (dkX12_readAtom (58, .iadd, 1) (pgm 38 rfl)) ?_
      refine so_callV (n := 1) (As := [.int (((100 : Int32) + (x46 * x41)) + x45)]) X (ct_X12_laysStep l this (((100 : Int32) + (x46 * x41)) + x45) h44 hk) hk (by decide) rfl lk_1919 lk_1921 lk_77 lk_134 lk_1922 (by decide +kernel) rfl rfl rfl (rm_ok (by omega) (by decide)) ⟨Nat.zero_le _, Nat.zero_le _⟩ (Nat.le_of_ble_eq_true rfl) (dkX12_readAtom (59, .invokevirtual 168, 3) (pgm 39 rfl)) (fun r47 h48 => ?_) rfl
      refine so_goto (tgt := 208) X (dkX12_readAtom (62, .goto 146, 3) (pgm 40 rfl)) rfl ?_
      exact so_pick X [] rfl (hj208 h48)
  · exact so_vret X hr hlk (dkX12_readAtom (7, .return_, 1) (pgm 3 rfl))
def fgRead : Nat → Nat → Nat → PH → Option (Unit × PH)
  | 0 => fun _ _ _ => none
  | dd + 1 => fun k this h0 => match k with
    | 0 => g_X12_readTruth (fgRead dd) this h0
    | 1 => g_X12_readBoth (fgRead dd) this h0
    | 2 => g_X12_readUnit (fgRead dd) this h0
    | 3 => g_X12_readSum (fgRead dd) this h0
    | 4 => g_X12_readTerm (fgRead dd) this h0
    | 5 => g_X12_readAtom (fgRead dd) this h0
    | _ => none
theorem ca_fgRead (l : Launch) : ∀ dd : Nat, (∀ (this : Nat) (h0 : PH) (hk : (kd this).1 = 12), CT mkV l yX12_readTruth cX12_readTruth 1 none (rmd (dd + 5)) [.ref this] h0 (fgRead dd 0 this h0)) ∧ (∀ (this : Nat) (h0 : PH) (hk : (kd this).1 = 12), CT mkV l yX12_readBoth cX12_readBoth 1 none (rmd (dd + 5)) [.ref this] h0 (fgRead dd 1 this h0)) ∧ (∀ (this : Nat) (h0 : PH) (hk : (kd this).1 = 12), CT mkV l yX12_readUnit cX12_readUnit 2 none (rmd (dd + 5)) [.ref this] h0 (fgRead dd 2 this h0)) ∧ (∀ (this : Nat) (h0 : PH) (hk : (kd this).1 = 12), CT mkV l yX12_readSum cX12_readSum 2 none (rmd (dd + 5)) [.ref this] h0 (fgRead dd 3 this h0)) ∧ (∀ (this : Nat) (h0 : PH) (hk : (kd this).1 = 12), CT mkV l yX12_readTerm cX12_readTerm 1 none (rmd (dd + 5)) [.ref this] h0 (fgRead dd 4 this h0)) ∧ (∀ (this : Nat) (h0 : PH) (hk : (kd this).1 = 12), CT mkV l yX12_readAtom cX12_readAtom 3 none (rmd (dd + 5)) [.ref this] h0 (fgRead dd 5 this h0))
  | 0 => ⟨(fun _ _ _ => by intro _ _ _ _ _ _ _ e1; cases e1), (fun _ _ _ => by intro _ _ _ _ _ _ _ e1; cases e1), (fun _ _ _ => by intro _ _ _ _ _ _ _ e1; cases e1), (fun _ _ _ => by intro _ _ _ _ _ _ _ e1; cases e1), (fun _ _ _ => by intro _ _ _ _ _ _ _ e1; cases e1), (fun _ _ _ => by intro _ _ _ _ _ _ _ e1; cases e1)⟩
  | dd + 1 => by
    obtain ⟨gh0, gh1, gh2, gh3, gh4, gh5⟩ := ca_fgRead l dd
    have e9 : dd + 1 + 5 = dd + 6 := by omega
    rw [e9]
    exact ⟨(fun this h0 hk => cg_X12_readTruth l dd (fgRead dd) gh0 gh1 gh2 gh3 gh4 gh5 this h0 hk), (fun this h0 hk => cg_X12_readBoth l dd (fgRead dd) gh0 gh1 gh2 gh3 gh4 gh5 this h0 hk), (fun this h0 hk => cg_X12_readUnit l dd (fgRead dd) gh0 gh1 gh2 gh3 gh4 gh5 this h0 hk), (fun this h0 hk => cg_X12_readSum l dd (fgRead dd) gh0 gh1 gh2 gh3 gh4 gh5 this h0 hk), (fun this h0 hk => cg_X12_readTerm l dd (fgRead dd) gh0 gh1 gh2 gh3 gh4 gh5 this h0 hk), (fun this h0 hk => cg_X12_readAtom l dd (fgRead dd) gh0 gh1 gh2 gh3 gh4 gh5 this h0 hk)⟩

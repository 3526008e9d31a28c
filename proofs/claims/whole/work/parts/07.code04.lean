def pgX3_weathersOf : List (Nat × Instr × Nat) := [(0, .iconst 0, 1), (1, .istore_n 2, 1), (2, .iconst 0, 1), (3, .istore_n 3, 1), (4, .iload_n 3, 1), (5, .aload_n 0, 1), (6, .getfield 18, 3), (9, .getfield 64, 3), (12, .if_icmp .gt 21, 3), (15, .iload_n 2, 1), (16, .aload_n 0, 1), (17, .iload_n 3, 1), (18, .invokevirtual 67, 3), (21, .iload_n 1, 1), (22, .ishr, 1), (23, .iconst 1, 1), (24, .iand, 1), (25, .iadd, 1), (26, .istore_n 2, 1), (27, .iinc 3 1, 3), (30, .goto (-26), 3), (33, .iload_n 2, 1), (34, .ireturn, 1)]
theorem dkX3_weathersOf : ∀ q ∈ pgX3_weathersOf, decode cX3_weathersOf q.1 = .ok q.2 := by decide +kernel
def b_X3_weathersOf_4 (this : Nat) (a1 : Int32) (rec4 : (Int32 × Int32) → PH → Option (Int32 × PH)) (s4 : Int32 × Int32) (hh4 : PH) : Option (Int32 × PH) :=
  if (hh4.1 (rt this 0) 8) < s4.2 then (some (s4.1, hh4)) else (cb (f_X3_at this s4.2 hh4) (fun (r3 : Int32) (h4 : PH) => lt (s4.1 + ((r3 >>> (a1 &&& 31)) &&& (1 : Int32))) (fun (x5 : Int32) => lt (s4.2 + Int32.ofInt 1) (fun (x6 : Int32) => rec4 (x5, x6) h4))))
def f_X3_weathersOf (this : Nat) (a1 : Int32) (h0 : PH) : Option (Int32 × PH) :=
  lt (0 : Int32) (fun (x1 : Int32) => lt (0 : Int32) (fun (x2 : Int32) => lp (b_X3_weathersOf_4 this a1) FU (x1, x2) h0))
set_option maxRecDepth 100000 in
set_option maxHeartbeats 4000000 in
theorem ct_X3_weathersOf (l : Launch) (this : Nat) (a1 : Int32) (h0 : PH) (hk : (kd this).1 = 3) : CT mkI l yX3_weathersOf cX3_weathersOf 4 (some .int) (rmd 3) [.ref this, .int a1] h0 (f_X3_weathersOf this a1 h0) := by
  refine ct_of (by decide) (Nat.le_of_ble_eq_true rfl) ?_
  intro p e s m args below meth c D cA ad A X hr hlk
  have X : Cx p s m args c RX3 cX3_weathersOf 4 D cA ad A := X
  unfold f_X3_weathersOf
  refine so_pick (L' := [(0, .ref this), (1, .int a1)]) X [0, 1] rfl ?_
  refine so_iconst (v := (0 : Int32)) X (dkX3_weathersOf (0, .iconst 0, 1) (pgm 0 rfl)) ic_0 ?_
  refine so_istore_n (i := 2) X (dkX3_weathersOf (1, .istore_n 2, 1) (pgm 1 rfl)) rfl (by decide) (Lf := fun x1 => [(2, .int x1), (0, .ref this), (1, .int a1)]) (fun _ => rfl) (fun x1 => ?_)
  refine so_iconst (v := (0 : Int32)) X (dkX3_weathersOf (2, .iconst 0, 1) (pgm 2 rfl)) ic_0 ?_
  refine so_istore_n (i := 3) X (dkX3_weathersOf (3, .istore_n 3, 1) (pgm 3 rfl)) rfl (by decide) (Lf := fun x2 => [(3, .int x2), (2, .int x1), (0, .ref this), (1, .int a1)]) (fun _ => rfl) (fun x2 => ?_)
  refine so_pick (L' := [(0, .ref this), (1, .int a1), (2, .int x1), (3, .int x2)]) X [2, 3, 1, 0] rfl ?_
  refine so_loop (body := b_X3_weathersOf_4 this a1) (fun (s4 : Int32 × Int32) => [(0, .ref this), (1, .int a1), (2, .int s4.1), (3, .int s4.2)]) (fun rec4 hrec4 s4 hh4 => ?_) FU (x1, x2) h0
  unfold b_X3_weathersOf_4
  refine so_iload_n (i := 3) X 3 (dkX3_weathersOf (4, .iload_n 3, 1) (pgm 4 rfl)) rfl rfl ?_
  refine so_aload_n (i := 0) X 0 (dkX3_weathersOf (5, .aload_n 0, 1) (pgm 5 rfl)) rfl rfl ?_
  refine sf_getR X ff_3_0 lk_370 hk (dkX3_weathersOf (6, .getfield 18, 3) (pgm 6 rfl)) ?_
  refine sf_getI X ff_8_8 lk_200 (fo (rk_3_0 this hk)) (dkX3_weathersOf (9, .getfield 64, 3) (pgm 7 rfl)) ?_
  refine so_icmp_gt (tgt := 33) X (dkX3_weathersOf (12, .if_icmp .gt 21, 3) (pgm 8 rfl)) rfl (fun _ => ?_) (fun _ => ?_)
  · refine so_iload_n (i := 2) X 2 (dkX3_weathersOf (33, .iload_n 2, 1) (pgm 21 rfl)) rfl rfl ?_
    exact so_iret X hr hlk (dkX3_weathersOf (34, .ireturn, 1) (pgm 22 rfl))
  · refine so_iload_n (i := 2) X 2 (dkX3_weathersOf (15, .iload_n 2, 1) (pgm 9 rfl)) rfl rfl ?_
    refine so_aload_n (i := 0) X 0 (dkX3_weathersOf (16, .aload_n 0, 1) (pgm 10 rfl)) rfl rfl ?_
    refine so_iload_n (i := 3) X 3 (dkX3_weathersOf (17, .iload_n 3, 1) (pgm 11 rfl)) rfl rfl ?_
    refine so_callV (n := 1) (As := [.int s4.2]) X (ct_X3_at l this s4.2 hh4 hk) hk (by decide) rfl lk_644 lk_645 lk_646 lk_126 lk_647 (by decide +kernel) rfl rfl rfl (rm_ok (by omega) (by decide)) ⟨Nat.zero_le _, Nat.zero_le _⟩ (Nat.le_of_ble_eq_true rfl) (dkX3_weathersOf (18, .invokevirtual 67, 3) (pgm 12 rfl)) (fun r3 h4 => ?_) rfl
    refine so_iload_n (i := 1) X 1 (dkX3_weathersOf (21, .iload_n 1, 1) (pgm 13 rfl)) rfl rfl ?_
    refine so_ishr X (dkX3_weathersOf (22, .ishr, 1) (pgm 14 rfl)) ?_
    refine so_iconst (v := (1 : Int32)) X (dkX3_weathersOf (23, .iconst 1, 1) (pgm 15 rfl)) ic_1 ?_
    refine so_iand X (dkX3_weathersOf (24, .iand, 1) (pgm 16 rfl)) ?_
    refine so_iadd X (dkX3_weathersOf (25, .iadd, 1) (pgm 17 rfl)) ?_
    refine so_istore_n (i := 2) X (dkX3_weathersOf (26, .istore_n 2, 1) (pgm 18 rfl)) rfl (by decide) (Lf := fun x5 => [(2, .int x5), (0, .ref this), (1, .int a1), (3, .int s4.2)]) (fun _ => rfl) (fun x5 => ?_)
    refine so_iinc (i := 3) X 3 (dkX3_weathersOf (27, .iinc 3 1, 3) (pgm 19 rfl)) rfl rfl (by decide) (Lf := fun x6 => [(3, .int x6), (2, .int x5), (0, .ref this), (1, .int a1)]) (fun _ => rfl) (fun x6 => ?_)
    refine so_goto (tgt := 4) X (dkX3_weathersOf (30, .goto (-26), 3) (pgm 20 rfl)) rfl ?_
    exact so_pick X [2, 3, 1, 0] rfl (hrec4 (x5, x6) h4)
def pgX3_grantedBy : List (Nat × Instr × Nat) := [(0, .aload_n 0, 1), (1, .aload_n 0, 1), (2, .getfield 18, 3), (5, .iload_n 1, 1), (6, .invokevirtual 70, 3), (9, .invokevirtual 67, 3), (12, .iload_n 2, 1), (13, .iand, 1), (14, .ireturn, 1)]
theorem dkX3_grantedBy : ∀ q ∈ pgX3_grantedBy, decode cX3_grantedBy q.1 = .ok q.2 := by decide +kernel
def f_X3_grantedBy (this : Nat) (a1 : Int32) (a2 : Int32) (h0 : PH) : Option (Int32 × PH) :=
  cb (f_X8_weatherOf (rt this 0) a1 h0) (fun (r1 : Int32) (h2 : PH) => cb (f_X3_at this r1 h2) (fun (r3 : Int32) (h4 : PH) => some ((r3 &&& a2), h4)))
set_option maxRecDepth 100000 in
set_option maxHeartbeats 4000000 in
theorem ct_X3_grantedBy (l : Launch) (this : Nat) (a1 : Int32) (a2 : Int32) (h0 : PH) (hk : (kd this).1 = 3) : CT mkI l yX3_grantedBy cX3_grantedBy 3 (some .int) (rmd 3) [.ref this, .int a1, .int a2] h0 (f_X3_grantedBy this a1 a2 h0) := by
  refine ct_of (by decide) (Nat.le_of_ble_eq_true rfl) ?_
  intro p e s m args below meth c D cA ad A X hr hlk
  have X : Cx p s m args c RX3 cX3_grantedBy 3 D cA ad A := X
  unfold f_X3_grantedBy
  refine so_pick (L' := [(0, .ref this), (1, .int a1), (2, .int a2)]) X [0, 1, 2] rfl ?_
  refine so_aload_n (i := 0) X 0 (dkX3_grantedBy (0, .aload_n 0, 1) (pgm 0 rfl)) rfl rfl ?_
  refine so_aload_n (i := 0) X 0 (dkX3_grantedBy (1, .aload_n 0, 1) (pgm 1 rfl)) rfl rfl ?_
  refine sf_getR X ff_3_0 lk_370 hk (dkX3_grantedBy (2, .getfield 18, 3) (pgm 2 rfl)) ?_
  refine so_iload_n (i := 1) X 1 (dkX3_grantedBy (5, .iload_n 1, 1) (pgm 3 rfl)) rfl rfl ?_
  refine so_callV (n := 1) (As := [.int a1]) X (ct_X8_weatherOf l (rt this 0) a1 h0 (fo (rk_3_0 this hk))) (fo (rk_3_0 this hk)) (by decide) rfl lk_640 lk_641 lk_642 lk_122 lk_643 (by decide +kernel) rfl rfl rfl (rm_ok (by omega) (by decide)) ⟨Nat.zero_le _, Nat.zero_le _⟩ (Nat.le_of_ble_eq_true rfl) (dkX3_grantedBy (6, .invokevirtual 70, 3) (pgm 4 rfl)) (fun r1 h2 => ?_) rfl
  refine so_callV (n := 1) (As := [.int r1]) X (ct_X3_at l this r1 h2 hk) hk (by decide) rfl lk_644 lk_645 lk_646 lk_126 lk_647 (by decide +kernel) rfl rfl rfl (rm_ok (by omega) (by decide)) ⟨Nat.zero_le _, Nat.zero_le _⟩ (Nat.le_of_ble_eq_true rfl) (dkX3_grantedBy (9, .invokevirtual 67, 3) (pgm 5 rfl)) (fun r3 h4 => ?_) rfl
  refine so_iload_n (i := 2) X 2 (dkX3_grantedBy (12, .iload_n 2, 1) (pgm 6 rfl)) rfl rfl ?_
  refine so_iand X (dkX3_grantedBy (13, .iand, 1) (pgm 7 rfl)) ?_
  exact so_iret X hr hlk (dkX3_grantedBy (14, .ireturn, 1) (pgm 8 rfl))
def pgX3_whyNot : List (Nat × Instr × Nat) := [(0, .lload_n 1, 1), (1, .lconst 0, 1), (2, .lcmp, 1), (3, .ifCond .lt 16, 3), (6, .lload_n 1, 1), (7, .aload_n 0, 1), (8, .getfield 18, 3), (11, .getfield 64, 3), (14, .i2l, 1), (15, .lcmp, 1), (16, .ifCond .le 5, 3), (19, .iconst 1, 1), (20, .ireturn, 1), (21, .lload_n 1, 1), (22, .l2i, 1), (23, .invokestatic 44, 3), (26, .aload_n 0, 1), (27, .getfield 18, 3), (30, .getfield 73, 3), (33, .if_icmp .le 5, 3), (36, .iconst 2, 1), (37, .ireturn, 1), (38, .aload_n 0, 1), (39, .getfield 18, 3), (42, .getfield 76, 3), (45, .iload_n 3, 1), (46, .iand, 1), (47, .istore 4, 2), (49, .iload 4, 2), (51, .ifCond .eq 24, 3), (54, .iload 4, 2), (56, .aload_n 0, 1), (57, .aload_n 0, 1), (58, .getfield 18, 3), (61, .lload_n 1, 1), (62, .l2i, 1), (63, .invokevirtual 70, 3), (66, .invokevirtual 67, 3), (69, .iconst (-1), 1), (70, .ixor, 1), (71, .iand, 1), (72, .ifCond .ne 7, 3), (75, .iconst 0, 1), (76, .goto 4, 3), (79, .iconst 3, 1), (80, .ireturn, 1)]
theorem dkX3_whyNot : ∀ q ∈ pgX3_whyNot, decode cX3_whyNot q.1 = .ok q.2 := by decide +kernel
def f_X3_whyNot (this : Nat) (a1 : Int64) (a2 : Int32) (h0 : PH) : Option (Int32 × PH) :=
  lt (fun (h1 : PH) => some ((1 : Int32), h1)) (fun (j19 : PH → Option (Int32 × PH)) => if (lg_cmp a1 (0 : Int64)) < 0 then (j19 h0) else (if (lg_cmp a1 ((h0.1 (rt this 0) 8).toInt64)) ≤ 0 then (cb (f_J6_bitCount_0f7a4 a1.toInt32 h0) (fun (r2 : Int32) (h3 : PH) => if r2 ≤ (h3.1 (rt this 0) 3) then (lt ((h3.1 (rt this 0) 6) &&& a2) (fun (x4 : Int32) => lt (fun (t5 : Int32) (h6 : PH) => some (t5, h6)) (fun (j80 : Int32 → PH → Option (Int32 × PH)) => lt (fun (h7 : PH) => j80 (0 : Int32) h7) (fun (j75 : PH → Option (Int32 × PH)) => if x4 = 0 then (j75 h3) else (cb (f_X8_weatherOf (rt this 0) a1.toInt32 h3) (fun (r8 : Int32) (h9 : PH) => cb (f_X3_at this r8 h9) (fun (r10 : Int32) (h11 : PH) => if (x4 &&& (r10 ^^^ (-1 : Int32))) = 0 then (j75 h11) else (j80 (3 : Int32) h11)))))))) else (some ((2 : Int32), h3)))) else (j19 h0)))
set_option maxRecDepth 100000 in
set_option maxHeartbeats 4000000 in
theorem ct_X3_whyNot (l : Launch) (this : Nat) (a1 : Int64) (a2 : Int32) (h0 : PH) (hk : (kd this).1 = 3) : CT mkI l yX3_whyNot cX3_whyNot 5 (some .int) (rmd 3) [.ref this, .long a1, .int a2] h0 (f_X3_whyNot this a1 a2 h0) := by
  refine ct_of (by decide) (Nat.le_of_ble_eq_true rfl) ?_
  intro p e s m args below meth c D cA ad A X hr hlk
  have X : Cx p s m args c RX3 cX3_whyNot 5 D cA ad A := X
  unfold f_X3_whyNot
  refine so_pick (L' := [(0, .ref this), (1, .long a1), (3, .int a2)]) X [0, 1, 2] rfl ?_
  refine so_lload_n (i := 1) X 1 (dkX3_whyNot (0, .lload_n 1, 1) (pgm 0 rfl)) rfl rfl ?_
  refine so_lconst (v := (0 : Int64)) X (dkX3_whyNot (1, .lconst 0, 1) (pgm 1 rfl)) lc_0 ?_
  refine so_lcmp X (dkX3_whyNot (2, .lcmp, 1) (pgm 2 rfl)) ?_
  refine so_join (jf := fun (h1 : PH) => some ((1 : Int32), h1)) (fun (j : PH → Option (Int32 × PH)) => ∀  (h1 : PH), SWo (QM mkI below args s D cA ad A) p l e (rmd 3) s m args below meth c 0 0 5 D cA ad A 19 [] [] h1 (j h1)) ?_ (fun j19 hj19 => ?_)
  · intro h1
    refine so_iconst (v := (1 : Int32)) X (dkX3_whyNot (19, .iconst 1, 1) (pgm 11 rfl)) ic_1 ?_
    exact so_iret X hr hlk (dkX3_whyNot (20, .ireturn, 1) (pgm 12 rfl))
  refine so_if_lt (tgt := 19) X (dkX3_whyNot (3, .ifCond .lt 16, 3) (pgm 3 rfl)) rfl (fun _ => ?_) (fun _ => ?_)
  · exact so_pick X [] rfl (hj19 h0)
  · refine so_lload_n (i := 1) X 1 (dkX3_whyNot (6, .lload_n 1, 1) (pgm 4 rfl)) rfl rfl ?_
    refine so_aload_n (i := 0) X 0 (dkX3_whyNot (7, .aload_n 0, 1) (pgm 5 rfl)) rfl rfl ?_
    refine sf_getR X ff_3_0 lk_370 hk (dkX3_whyNot (8, .getfield 18, 3) (pgm 6 rfl)) ?_
    refine sf_getI X ff_8_8 lk_200 (fo (rk_3_0 this hk)) (dkX3_whyNot (11, .getfield 64, 3) (pgm 7 rfl)) ?_
    refine so_i2l X (dkX3_whyNot (14, .i2l, 1) (pgm 8 rfl)) ?_
    refine so_lcmp X (dkX3_whyNot (15, .lcmp, 1) (pgm 9 rfl)) ?_
    refine so_if_le (tgt := 21) X (dkX3_whyNot (16, .ifCond .le 5, 3) (pgm 10 rfl)) rfl (fun _ => ?_) (fun _ => ?_)
    · refine so_lload_n (i := 1) X 1 (dkX3_whyNot (21, .lload_n 1, 1) (pgm 13 rfl)) rfl rfl ?_
      refine so_l2i X (dkX3_whyNot (22, .l2i, 1) (pgm 14 rfl)) ?_
      refine so_callS (n := 1) (As := [.int a1.toInt32]) X (ct_J6_bitCount_0f7a4 l a1.toInt32 h0 ) lk_634 lk_635 lk_147 lk_636 (by decide +kernel) rfl rfl rfl (rm_ok (by omega) (by decide)) ⟨Nat.zero_le _, Nat.zero_le _⟩ (Nat.le_of_ble_eq_true rfl) (dkX3_whyNot (23, .invokestatic 44, 3) (pgm 15 rfl)) (fun r2 h3 => ?_) rfl
      refine so_aload_n (i := 0) X 0 (dkX3_whyNot (26, .aload_n 0, 1) (pgm 16 rfl)) rfl rfl ?_
      refine sf_getR X ff_3_0 lk_370 hk (dkX3_whyNot (27, .getfield 18, 3) (pgm 17 rfl)) ?_
      refine sf_getI X ff_8_3 lk_175 (fo (rk_3_0 this hk)) (dkX3_whyNot (30, .getfield 73, 3) (pgm 18 rfl)) ?_
      refine so_icmp_le (tgt := 38) X (dkX3_whyNot (33, .if_icmp .le 5, 3) (pgm 19 rfl)) rfl (fun _ => ?_) (fun _ => ?_)
      · refine so_aload_n (i := 0) X 0 (dkX3_whyNot (38, .aload_n 0, 1) (pgm 22 rfl)) rfl rfl ?_
        refine sf_getR X ff_3_0 lk_370 hk (dkX3_whyNot (39, .getfield 18, 3) (pgm 23 rfl)) ?_
        refine sf_getI X ff_8_6 lk_189 (fo (rk_3_0 this hk)) (dkX3_whyNot (42, .getfield 76, 3) (pgm 24 rfl)) ?_
        refine so_iload_n (i := 3) X 2 (dkX3_whyNot (45, .iload_n 3, 1) (pgm 25 rfl)) rfl rfl ?_
        refine so_iand X (dkX3_whyNot (46, .iand, 1) (pgm 26 rfl)) ?_
        refine so_istore (i := 4) X (dkX3_whyNot (47, .istore 4, 2) (pgm 27 rfl)) (by decide) (Lf := fun x4 => [(4, .int x4), (0, .ref this), (1, .long a1), (3, .int a2)]) (fun _ => rfl) (fun x4 => ?_)
        refine so_iload (i := 4) X 0 (dkX3_whyNot (49, .iload 4, 2) (pgm 28 rfl)) rfl ?_
        refine so_join (jf := fun (t5 : Int32) (h6 : PH) => some (t5, h6)) (fun (j : Int32 → PH → Option (Int32 × PH)) => ∀ (t5 : Int32) (h6 : PH), SWo (QM mkI below args s D cA ad A) p l e (rmd 3) s m args below meth c 0 0 5 D cA ad A 80 [] [.int t5] h6 (j t5 h6)) ?_ (fun j80 hj80 => ?_)
        · intro t5 h6
          exact so_iret X hr hlk (dkX3_whyNot (80, .ireturn, 1) (pgm 45 rfl))
        refine so_join (jf := fun (h7 : PH) => j80 (0 : Int32) h7) (fun (j : PH → Option (Int32 × PH)) => ∀  (h7 : PH), SWo (QM mkI below args s D cA ad A) p l e (rmd 3) s m args below meth c 0 0 5 D cA ad A 75 [] [] h7 (j h7)) ?_ (fun j75 hj75 => ?_)
        · intro h7
          refine so_iconst (v := (0 : Int32)) X (dkX3_whyNot (75, .iconst 0, 1) (pgm 42 rfl)) ic_0 ?_
          refine so_goto (tgt := 80) X (dkX3_whyNot (76, .goto 4, 3) (pgm 43 rfl)) rfl ?_
          exact so_pick X [] rfl (hj80 (0 : Int32) h7)
        refine so_if_eq (tgt := 75) X (dkX3_whyNot (51, .ifCond .eq 24, 3) (pgm 29 rfl)) rfl (fun _ => ?_) (fun _ => ?_)
        · exact so_pick X [] rfl (hj75 h3)
        · refine so_iload (i := 4) X 0 (dkX3_whyNot (54, .iload 4, 2) (pgm 30 rfl)) rfl ?_
          refine so_aload_n (i := 0) X 1 (dkX3_whyNot (56, .aload_n 0, 1) (pgm 31 rfl)) rfl rfl ?_
          refine so_aload_n (i := 0) X 1 (dkX3_whyNot (57, .aload_n 0, 1) (pgm 32 rfl)) rfl rfl ?_
          refine sf_getR X ff_3_0 lk_370 hk (dkX3_whyNot (58, .getfield 18, 3) (pgm 33 rfl)) ?_
          refine so_lload_n (i := 1) X 2 (dkX3_whyNot (61, .lload_n 1, 1) (pgm 34 rfl)) rfl rfl ?_
          refine so_l2i X (dkX3_whyNot (62, .l2i, 1) (pgm 35 rfl)) ?_
          refine so_callV (n := 1) (As := [.int a1.toInt32]) X (ct_X8_weatherOf l (rt this 0) a1.toInt32 h3 (fo (rk_3_0 this hk))) (fo (rk_3_0 this hk)) (by decide) rfl lk_640 lk_641 lk_642 lk_122 lk_643 (by decide +kernel) rfl rfl rfl (rm_ok (by omega) (by decide)) ⟨Nat.zero_le _, Nat.zero_le _⟩ (Nat.le_of_ble_eq_true rfl) (dkX3_whyNot (63, .invokevirtual 70, 3) (pgm 36 rfl)) (fun r8 h9 => ?_) rfl
          refine so_callV (n := 1) (As := [.int r8]) X (ct_X3_at l this r8 h9 hk) hk (by decide) rfl lk_644 lk_645 lk_646 lk_126 lk_647 (by decide +kernel) rfl rfl rfl (rm_ok (by omega) (by decide)) ⟨Nat.zero_le _, Nat.zero_le _⟩ (Nat.le_of_ble_eq_true rfl) (dkX3_whyNot (66, .invokevirtual 67, 3) (pgm 37 rfl)) (fun r10 h11 => ?_) rfl
          refine so_iconst (v := (-1 : Int32)) X (dkX3_whyNot (69, .iconst (-1), 1) (pgm 38 rfl)) ic_m1 ?_
          refine so_ixor X (dkX3_whyNot (70, .ixor, 1) (pgm 39 rfl)) ?_
          refine so_iand X (dkX3_whyNot (71, .iand, 1) (pgm 40 rfl)) ?_
          refine so_if_ne (tgt := 79) X (dkX3_whyNot (72, .ifCond .ne 7, 3) (pgm 41 rfl)) rfl (fun _ => ?_) (fun _ => ?_)
          · refine so_iconst (v := (3 : Int32)) X (dkX3_whyNot (79, .iconst 3, 1) (pgm 44 rfl)) ic_3 ?_
            exact so_pick X [] rfl (hj80 (3 : Int32) h11)
          · exact so_pick X [] rfl (hj75 h11)
      · refine so_iconst (v := (2 : Int32)) X (dkX3_whyNot (36, .iconst 2, 1) (pgm 20 rfl)) ic_2 ?_
        exact so_iret X hr hlk (dkX3_whyNot (37, .ireturn, 1) (pgm 21 rfl))
    · exact so_pick X [] rfl (hj19 h0)
def pgX5_find : List (Nat × Instr × Nat) := [(0, .aload_n 0, 1), (1, .iconst 0, 1), (2, .putfield 35, 3), (5, .iconst 0, 1), (6, .istore_n 1, 1), (7, .iload_n 1, 1), (8, .iconst 3, 1), (9, .if_icmp .gt 29, 3), (12, .aload_n 0, 1), (13, .getfield 35, 3), (16, .ifCond .ne 22, 3), (19, .aload_n 0, 1), (20, .iload_n 1, 1), (21, .putfield 38, 3), (24, .aload_n 0, 1), (25, .iload_n 1, 1), (26, .iconst 0, 1), (27, .iconst 0, 1), (28, .iconst 0, 1), (29, .invokevirtual 41, 3), (32, .iinc 1 1, 3), (35, .goto (-28), 3), (38, .aload_n 0, 1), (39, .getfield 35, 3), (42, .ifCond .ne 13, 3), (45, .aload_n 0, 1), (46, .iconst (-1), 1), (47, .putfield 38, 3), (50, .aload_n 0, 1), (51, .iconst (-1), 1), (52, .putfield 35, 3), (55, .return_, 1)]
theorem dkX5_find : ∀ q ∈ pgX5_find, decode cX5_find q.1 = .ok q.2 := by decide +kernel
def b_X5_find_7 (this : Nat) (j38 : PH → Option (Unit × PH)) (rec7 : (Int32) → PH → Option (Unit × PH)) (s7 : Int32) (hh7 : PH) : Option (Unit × PH) :=
  if (3 : Int32) < s7 then (j38 hh7) else (if (hh7.1 this 6) = 0 then (lt (pI hh7 this 5 s7) (fun (h7 : PH) => cb (f_X5_search 8 this s7 (0 : Int32) (0 : Int32) (0 : Int32) h7) (fun (r8 : Unit) (h9 : PH) => lt (s7 + Int32.ofInt 1) (fun (x10 : Int32) => rec7 x10 h9)))) else (j38 hh7))
def f_X5_find (this : Nat) (h0 : PH) : Option (Unit × PH) :=
  lt (pI h0 this 6 (0 : Int32)) (fun (h1 : PH) => lt (0 : Int32) (fun (x2 : Int32) => lt (fun (h3 : PH) => lt (fun (h4 : PH) => some ((), h4)) (fun (j55 : PH → Option (Unit × PH)) => if (h3.1 this 6) = 0 then (lt (pI h3 this 5 (-1 : Int32)) (fun (h5 : PH) => lt (pI h5 this 6 (-1 : Int32)) (fun (h6 : PH) => j55 h6))) else (j55 h3))) (fun (j38 : PH → Option (Unit × PH)) => lp (b_X5_find_7 this j38) FU x2 h1)))
set_option maxRecDepth 100000 in
set_option maxHeartbeats 4000000 in
theorem ct_X5_find (l : Launch) (this : Nat) (h0 : PH) (hk : (kd this).1 = 5) : CT mkV l yX5_find cX5_find 2 none (rmd 9) [.ref this] h0 (f_X5_find this h0) := by
  refine ct_of (by decide) (Nat.le_of_ble_eq_true rfl) ?_
  intro p e s m args below meth c D cA ad A X hr hlk
  have X : Cx p s m args c RX5 cX5_find 2 D cA ad A := X
  unfold f_X5_find
  refine so_pick (L' := [(0, .ref this)]) X [0] rfl ?_
  refine so_aload_n (i := 0) X 0 (dkX5_find (0, .aload_n 0, 1) (pgm 0 rfl)) rfl rfl ?_
  refine so_iconst (v := (0 : Int32)) X (dkX5_find (1, .iconst 0, 1) (pgm 1 rfl)) ic_0 ?_
  refine sf_putI X ff_5_6 ft_5 rfl lk_464 hk rfl rfl (dkX5_find (2, .putfield 35, 3) (pgm 2 rfl)) (fun h1 => ?_)
  refine so_iconst (v := (0 : Int32)) X (dkX5_find (5, .iconst 0, 1) (pgm 3 rfl)) ic_0 ?_
  refine so_istore_n (i := 1) X (dkX5_find (6, .istore_n 1, 1) (pgm 4 rfl)) rfl (by decide) (Lf := fun x2 => [(1, .int x2), (0, .ref this)]) (fun _ => rfl) (fun x2 => ?_)
  refine so_join (jf := fun (h3 : PH) => lt (fun (h4 : PH) => some ((), h4)) (fun (j55 : PH → Option (Unit × PH)) => if (h3.1 this 6) = 0 then (lt (pI h3 this 5 (-1 : Int32)) (fun (h5 : PH) => lt (pI h5 this 6 (-1 : Int32)) (fun (h6 : PH) => j55 h6))) else (j55 h3))) (fun (j : PH → Option (Unit × PH)) => ∀  (h3 : PH), SWo (QM mkV below args s D cA ad A) p l e (rmd 9) s m args below meth c 0 0 2 D cA ad A 38 [(0, .ref this)] [] h3 (j h3)) ?_ (fun j38 hj38 => ?_)
  · intro h3
    refine so_aload_n (i := 0) X 0 (dkX5_find (38, .aload_n 0, 1) (pgm 22 rfl)) rfl rfl ?_
    refine sf_getI X ff_5_6 lk_464 hk (dkX5_find (39, .getfield 35, 3) (pgm 23 rfl)) ?_
    refine so_join (jf := fun (h4 : PH) => some ((), h4)) (fun (j : PH → Option (Unit × PH)) => ∀  (h4 : PH), SWo (QM mkV below args s D cA ad A) p l e (rmd 9) s m args below meth c 0 0 2 D cA ad A 55 [] [] h4 (j h4)) ?_ (fun j55 hj55 => ?_)
    · intro h4
      exact so_vret X hr hlk (dkX5_find (55, .return_, 1) (pgm 31 rfl))
    refine so_if_ne (tgt := 55) X (dkX5_find (42, .ifCond .ne 13, 3) (pgm 24 rfl)) rfl (fun _ => ?_) (fun _ => ?_)
    · exact so_pick X [] rfl (hj55 h3)
    · refine so_aload_n (i := 0) X 0 (dkX5_find (45, .aload_n 0, 1) (pgm 25 rfl)) rfl rfl ?_
      refine so_iconst (v := (-1 : Int32)) X (dkX5_find (46, .iconst (-1), 1) (pgm 26 rfl)) ic_m1 ?_
      refine sf_putI X ff_5_5 ft_5 rfl lk_462 hk rfl rfl (dkX5_find (47, .putfield 38, 3) (pgm 27 rfl)) (fun h5 => ?_)
      refine so_aload_n (i := 0) X 0 (dkX5_find (50, .aload_n 0, 1) (pgm 28 rfl)) rfl rfl ?_
      refine so_iconst (v := (-1 : Int32)) X (dkX5_find (51, .iconst (-1), 1) (pgm 29 rfl)) ic_m1 ?_
      refine sf_putI X ff_5_6 ft_5 rfl lk_464 hk rfl rfl (dkX5_find (52, .putfield 35, 3) (pgm 30 rfl)) (fun h6 => ?_)
      exact so_pick X [] rfl (hj55 h6)
  refine so_pick (L' := [(0, .ref this), (1, .int x2)]) X [1, 0] rfl ?_
  refine so_loop (body := b_X5_find_7 this j38) (fun (s7 : Int32) => [(0, .ref this), (1, .int s7)]) (fun rec7 hrec7 s7 hh7 => ?_) FU x2 h1
  unfold b_X5_find_7
  refine so_iload_n (i := 1) X 1 (dkX5_find (7, .iload_n 1, 1) (pgm 5 rfl)) rfl rfl ?_
  refine so_iconst (v := (3 : Int32)) X (dkX5_find (8, .iconst 3, 1) (pgm 6 rfl)) ic_3 ?_
  refine so_icmp_gt (tgt := 38) X (dkX5_find (9, .if_icmp .gt 29, 3) (pgm 7 rfl)) rfl (fun _ => ?_) (fun _ => ?_)
  · exact so_pick X [0] rfl (hj38 hh7)
  · refine so_aload_n (i := 0) X 0 (dkX5_find (12, .aload_n 0, 1) (pgm 8 rfl)) rfl rfl ?_
    refine sf_getI X ff_5_6 lk_464 hk (dkX5_find (13, .getfield 35, 3) (pgm 9 rfl)) ?_
    refine so_if_ne (tgt := 38) X (dkX5_find (16, .ifCond .ne 22, 3) (pgm 10 rfl)) rfl (fun _ => ?_) (fun _ => ?_)
    · exact so_pick X [0] rfl (hj38 hh7)
    · refine so_aload_n (i := 0) X 0 (dkX5_find (19, .aload_n 0, 1) (pgm 11 rfl)) rfl rfl ?_
      refine so_iload_n (i := 1) X 1 (dkX5_find (20, .iload_n 1, 1) (pgm 12 rfl)) rfl rfl ?_
      refine sf_putI X ff_5_5 ft_5 rfl lk_462 hk rfl rfl (dkX5_find (21, .putfield 38, 3) (pgm 13 rfl)) (fun h7 => ?_)
      refine so_aload_n (i := 0) X 0 (dkX5_find (24, .aload_n 0, 1) (pgm 14 rfl)) rfl rfl ?_
      refine so_iload_n (i := 1) X 1 (dkX5_find (25, .iload_n 1, 1) (pgm 15 rfl)) rfl rfl ?_
      refine so_iconst (v := (0 : Int32)) X (dkX5_find (26, .iconst 0, 1) (pgm 16 rfl)) ic_0 ?_
      refine so_iconst (v := (0 : Int32)) X (dkX5_find (27, .iconst 0, 1) (pgm 17 rfl)) ic_0 ?_
      refine so_iconst (v := (0 : Int32)) X (dkX5_find (28, .iconst 0, 1) (pgm 18 rfl)) ic_0 ?_
      refine so_callV (n := 4) (As := [.int s7, .int (0 : Int32), .int (0 : Int32), .int (0 : Int32)]) X (ct_X5_search l 8 this s7 (0 : Int32) (0 : Int32) (0 : Int32) h7 hk) hk (by decide) rfl lk_1393 lk_1395 lk_43 lk_130 lk_1396 (by decide +kernel) rfl rfl rfl (rm_ok (by omega) (by decide)) ⟨Nat.zero_le _, Nat.zero_le _⟩ (Nat.le_of_ble_eq_true rfl) (dkX5_find (29, .invokevirtual 41, 3) (pgm 19 rfl)) (fun r8 h9 => ?_) rfl
      refine so_iinc (i := 1) X 1 (dkX5_find (32, .iinc 1 1, 3) (pgm 20 rfl)) rfl rfl (by decide) (Lf := fun x10 => [(1, .int x10), (0, .ref this)]) (fun _ => rfl) (fun x10 => ?_)
      refine so_goto (tgt := 7) X (dkX5_find (35, .goto (-28), 3) (pgm 21 rfl)) rfl ?_
      exact so_pick X [1, 0] rfl (hrec7 x10 h9)
def pgX6_take : List (Nat × Instr × Nat) := [(0, .aload_n 0, 1), (1, .getfield 24, 3), (4, .aload_n 1, 1), (5, .invokevirtual 69, 3), (8, .ifCond .ne 9, 3), (11, .aload_n 0, 1), (12, .iconst 2, 1), (13, .invokevirtual 73, 3), (16, .ireturn, 1), (17, .aload_n 0, 1), (18, .getfield 24, 3), (21, .invokevirtual 77, 3), (24, .iconst 1, 1), (25, .ireturn, 1)]
theorem dkX6_take : ∀ q ∈ pgX6_take, decode cX6_take q.1 = .ok q.2 := by decide +kernel
def f_X6_take (this : Nat) (a1 : Nat) (h0 : PH) : Option (Int32 × PH) :=
  cb (f_X9_at (rt this 0) a1 h0) (fun (r1 : Int32) (h2 : PH) => if r1 = 0 then (cb (f_X6_refuse this (2 : Int32) h2) (fun (r5 : Int32) (h6 : PH) => zr r5 h6)) else (cb (f_X9_advance (rt this 0) h2) (fun (r3 : Unit) (h4 : PH) => zr (1 : Int32) h4)))
set_option maxRecDepth 100000 in
set_option maxHeartbeats 4000000 in
theorem ct_X6_take (l : Launch) (this : Nat) (a1 : Nat) (h0 : PH) (hk : (kd this).1 = 6) (hk1 : a1 < NS) : CT mkI l yX6_take cX6_take 2 (some .boolean) (rmd 5) [.ref this, .ref (200 + a1)] h0 (f_X6_take this a1 h0) := by
  refine ct_of (by decide) (Nat.le_of_ble_eq_true rfl) ?_
  intro p e s m args below meth c D cA ad A X hr hlk
  have X : Cx p s m args c RX6 cX6_take 2 D cA ad A := X
  unfold f_X6_take
  refine so_pick (L' := [(0, .ref this), (1, .ref (200 + a1))]) X [0, 1] rfl ?_
  refine so_aload_n (i := 0) X 0 (dkX6_take (0, .aload_n 0, 1) (pgm 0 rfl)) rfl rfl ?_
  refine sf_getR X ff_6_0 lk_288 hk (dkX6_take (1, .getfield 24, 3) (pgm 1 rfl)) ?_
  refine so_aload_n (i := 1) X 1 (dkX6_take (4, .aload_n 1, 1) (pgm 2 rfl)) rfl rfl ?_
  refine so_callV (n := 1) (As := [.ref (200 + a1)]) X (ct_X9_at l (rt this 0) a1 h0 (fo (rk_6_0 this hk)) hk1) (fo (rk_6_0 this hk)) (by decide) rfl lk_967 lk_968 lk_969 lk_124 lk_970 (by decide +kernel) rfl rfl rfl (rm_ok (by omega) (by decide)) ⟨Nat.zero_le _, Nat.zero_le _⟩ (Nat.le_of_ble_eq_true rfl) (dkX6_take (5, .invokevirtual 69, 3) (pgm 3 rfl)) (fun r1 h2 => ?_) rfl
  refine so_if_ne (tgt := 17) X (dkX6_take (8, .ifCond .ne 9, 3) (pgm 4 rfl)) rfl (fun _ => ?_) (fun _ => ?_)
  · refine so_aload_n (i := 0) X 0 (dkX6_take (17, .aload_n 0, 1) (pgm 9 rfl)) rfl rfl ?_
    refine sf_getR X ff_6_0 lk_288 hk (dkX6_take (18, .getfield 24, 3) (pgm 10 rfl)) ?_
    refine so_callV (n := 0) (As := []) X (ct_X9_advance l (rt this 0) h2 (fo (rk_6_0 this hk))) (fo (rk_6_0 this hk)) (by decide) rfl lk_996 lk_864 lk_865 lk_124 lk_866 (by decide +kernel) rfl rfl rfl (rm_ok (by omega) (by decide)) ⟨Nat.zero_le _, Nat.zero_le _⟩ (Nat.le_of_ble_eq_true rfl) (dkX6_take (21, .invokevirtual 77, 3) (pgm 11 rfl)) (fun r3 h4 => ?_) rfl
    refine so_iconst (v := (1 : Int32)) X (dkX6_take (24, .iconst 1, 1) (pgm 12 rfl)) ic_1 ?_
    exact so_zret X hr hlk (dkX6_take (25, .ireturn, 1) (pgm 13 rfl))
  · refine so_aload_n (i := 0) X 0 (dkX6_take (11, .aload_n 0, 1) (pgm 5 rfl)) rfl rfl ?_
    refine so_iconst (v := (2 : Int32)) X (dkX6_take (12, .iconst 2, 1) (pgm 6 rfl)) ic_2 ?_
    refine so_callV (n := 1) (As := [.int (2 : Int32)]) X (ct_X6_refuse l this (2 : Int32) h2 hk) hk (by decide) rfl lk_992 lk_994 lk_16 lk_123 lk_995 (by decide +kernel) rfl rfl rfl (rm_ok (by omega) (by decide)) ⟨Nat.zero_le _, Nat.zero_le _⟩ (Nat.le_of_ble_eq_true rfl) (dkX6_take (13, .invokevirtual 73, 3) (pgm 7 rfl)) (fun r5 h6 => ?_) rfl
    exact so_zret X hr hlk (dkX6_take (16, .ireturn, 1) (pgm 8 rfl))
def pgX6_takeNumber : List (Nat × Instr × Nat) := [(0, .aload_n 0, 1), (1, .getfield 24, 3), (4, .getfield 51, 3), (7, .iconst 3, 1), (8, .if_icmp .eq 9, 3), (11, .aload_n 0, 1), (12, .iconst 2, 1), (13, .invokevirtual 73, 3), (16, .ireturn, 1), (17, .aload_n 0, 1), (18, .aload_n 0, 1), (19, .getfield 24, 3), (22, .invokevirtual 80, 3), (25, .putfield 84, 3), (28, .aload_n 0, 1), (29, .getfield 84, 3), (32, .iload_n 1, 1), (33, .if_icmp .lt 11, 3), (36, .aload_n 0, 1), (37, .getfield 84, 3), (40, .iload_n 2, 1), (41, .if_icmp .le 9, 3), (44, .aload_n 0, 1), (45, .iconst 3, 1), (46, .invokevirtual 73, 3), (49, .ireturn, 1), (50, .aload_n 0, 1), (51, .getfield 24, 3), (54, .invokevirtual 77, 3), (57, .iconst 1, 1), (58, .ireturn, 1)]
theorem dkX6_takeNumber : ∀ q ∈ pgX6_takeNumber, decode cX6_takeNumber q.1 = .ok q.2 := by decide +kernel
def f_X6_takeNumber (this : Nat) (a1 : Int32) (a2 : Int32) (h0 : PH) : Option (Int32 × PH) :=
  if (h0.1 (rt this 0) 4) = (3 : Int32) then (cb (f_X9_value (rt this 0) h0) (fun (r1 : Int32) (h2 : PH) => lt (pI h2 this 9 r1) (fun (h3 : PH) => lt (fun (h4 : PH) => cb (f_X6_refuse this (3 : Int32) h4) (fun (r5 : Int32) (h6 : PH) => zr r5 h6)) (fun (j44 : PH → Option (Int32 × PH)) => if (h3.1 this 9) < a1 then (j44 h3) else (if (h3.1 this 9) ≤ a2 then (cb (f_X9_advance (rt this 0) h3) (fun (r7 : Unit) (h8 : PH) => zr (1 : Int32) h8)) else (j44 h3)))))) else (cb (f_X6_refuse this (2 : Int32) h0) (fun (r9 : Int32) (h10 : PH) => zr r9 h10))
set_option maxRecDepth 100000 in
set_option maxHeartbeats 4000000 in
theorem ct_X6_takeNumber (l : Launch) (this : Nat) (a1 : Int32) (a2 : Int32) (h0 : PH) (hk : (kd this).1 = 6) : CT mkI l yX6_takeNumber cX6_takeNumber 3 (some .boolean) (rmd 5) [.ref this, .int a1, .int a2] h0 (f_X6_takeNumber this a1 a2 h0) := by
  refine ct_of (by decide) (Nat.le_of_ble_eq_true rfl) ?_
  intro p e s m args below meth c D cA ad A X hr hlk
  have X : Cx p s m args c RX6 cX6_takeNumber 3 D cA ad A := X
  unfold f_X6_takeNumber
  refine so_pick (L' := [(0, .ref this), (1, .int a1), (2, .int a2)]) X [0, 1, 2] rfl ?_
  refine so_aload_n (i := 0) X 0 (dkX6_takeNumber (0, .aload_n 0, 1) (pgm 0 rfl)) rfl rfl ?_
  refine sf_getR X ff_6_0 lk_288 hk (dkX6_takeNumber (1, .getfield 24, 3) (pgm 1 rfl)) ?_
  refine sf_getI X ff_9_4 lk_275 (fo (rk_6_0 this hk)) (dkX6_takeNumber (4, .getfield 51, 3) (pgm 2 rfl)) ?_
  refine so_iconst (v := (3 : Int32)) X (dkX6_takeNumber (7, .iconst 3, 1) (pgm 3 rfl)) ic_3 ?_
  refine so_icmp_eq (tgt := 17) X (dkX6_takeNumber (8, .if_icmp .eq 9, 3) (pgm 4 rfl)) rfl (fun _ => ?_) (fun _ => ?_)
  · refine so_aload_n (i := 0) X 0 (dkX6_takeNumber (17, .aload_n 0, 1) (pgm 9 rfl)) rfl rfl ?_
    refine so_aload_n (i := 0) X 0 (dkX6_takeNumber (18, .aload_n 0, 1) (pgm 10 rfl)) rfl rfl ?_
    refine sf_getR X ff_6_0 lk_288 hk (dkX6_takeNumber (19, .getfield 24, 3) (pgm 11 rfl)) ?_
    refine so_callV (n := 0) (As := []) X (ct_X9_value l (rt this 0) h0 (fo (rk_6_0 this hk))) (fo (rk_6_0 this hk)) (by decide) rfl lk_1001 lk_1002 lk_1003 lk_124 lk_1004 (by decide +kernel) rfl rfl rfl (rm_ok (by omega) (by decide)) ⟨Nat.zero_le _, Nat.zero_le _⟩ (Nat.le_of_ble_eq_true rfl) (dkX6_takeNumber (22, .invokevirtual 80, 3) (pgm 12 rfl)) (fun r1 h2 => ?_) rfl
    refine sf_putI X ff_6_9 ft_6 rfl lk_297 hk rfl rfl (dkX6_takeNumber (25, .putfield 84, 3) (pgm 13 rfl)) (fun h3 => ?_)
    refine so_aload_n (i := 0) X 0 (dkX6_takeNumber (28, .aload_n 0, 1) (pgm 14 rfl)) rfl rfl ?_
    refine sf_getI X ff_6_9 lk_297 hk (dkX6_takeNumber (29, .getfield 84, 3) (pgm 15 rfl)) ?_
    refine so_iload_n (i := 1) X 1 (dkX6_takeNumber (32, .iload_n 1, 1) (pgm 16 rfl)) rfl rfl ?_
    refine so_join (jf := fun (h4 : PH) => cb (f_X6_refuse this (3 : Int32) h4) (fun (r5 : Int32) (h6 : PH) => zr r5 h6)) (fun (j : PH → Option (Int32 × PH)) => ∀  (h4 : PH), SWo (QM mkI below args s D cA ad A) p l e (rmd 5) s m args below meth c 0 0 3 D cA ad A 44 [(0, .ref this)] [] h4 (j h4)) ?_ (fun j44 hj44 => ?_)
    · intro h4
      refine so_aload_n (i := 0) X 0 (dkX6_takeNumber (44, .aload_n 0, 1) (pgm 22 rfl)) rfl rfl ?_
      refine so_iconst (v := (3 : Int32)) X (dkX6_takeNumber (45, .iconst 3, 1) (pgm 23 rfl)) ic_3 ?_
      refine so_callV (n := 1) (As := [.int (3 : Int32)]) X (ct_X6_refuse l this (3 : Int32) h4 hk) hk (by decide) rfl lk_992 lk_994 lk_16 lk_123 lk_995 (by decide +kernel) rfl rfl rfl (rm_ok (by omega) (by decide)) ⟨Nat.zero_le _, Nat.zero_le _⟩ (Nat.le_of_ble_eq_true rfl) (dkX6_takeNumber (46, .invokevirtual 73, 3) (pgm 24 rfl)) (fun r5 h6 => ?_) rfl
      exact so_zret X hr hlk (dkX6_takeNumber (49, .ireturn, 1) (pgm 25 rfl))
    refine so_icmp_lt (tgt := 44) X (dkX6_takeNumber (33, .if_icmp .lt 11, 3) (pgm 17 rfl)) rfl (fun _ => ?_) (fun _ => ?_)
    · exact so_pick X [0] rfl (hj44 h3)
    · refine so_aload_n (i := 0) X 0 (dkX6_takeNumber (36, .aload_n 0, 1) (pgm 18 rfl)) rfl rfl ?_
      refine sf_getI X ff_6_9 lk_297 hk (dkX6_takeNumber (37, .getfield 84, 3) (pgm 19 rfl)) ?_
      refine so_iload_n (i := 2) X 2 (dkX6_takeNumber (40, .iload_n 2, 1) (pgm 20 rfl)) rfl rfl ?_
      refine so_icmp_le (tgt := 50) X (dkX6_takeNumber (41, .if_icmp .le 9, 3) (pgm 21 rfl)) rfl (fun _ => ?_) (fun _ => ?_)
      · refine so_aload_n (i := 0) X 0 (dkX6_takeNumber (50, .aload_n 0, 1) (pgm 26 rfl)) rfl rfl ?_
        refine sf_getR X ff_6_0 lk_288 hk (dkX6_takeNumber (51, .getfield 24, 3) (pgm 27 rfl)) ?_
        refine so_callV (n := 0) (As := []) X (ct_X9_advance l (rt this 0) h3 (fo (rk_6_0 this hk))) (fo (rk_6_0 this hk)) (by decide) rfl lk_996 lk_864 lk_865 lk_124 lk_866 (by decide +kernel) rfl rfl rfl (rm_ok (by omega) (by decide)) ⟨Nat.zero_le _, Nat.zero_le _⟩ (Nat.le_of_ble_eq_true rfl) (dkX6_takeNumber (54, .invokevirtual 77, 3) (pgm 28 rfl)) (fun r7 h8 => ?_) rfl
        refine so_iconst (v := (1 : Int32)) X (dkX6_takeNumber (57, .iconst 1, 1) (pgm 29 rfl)) ic_1 ?_
        exact so_zret X hr hlk (dkX6_takeNumber (58, .ireturn, 1) (pgm 30 rfl))
      · exact so_pick X [0] rfl (hj44 h3)
  · refine so_aload_n (i := 0) X 0 (dkX6_takeNumber (11, .aload_n 0, 1) (pgm 5 rfl)) rfl rfl ?_
    refine so_iconst (v := (2 : Int32)) X (dkX6_takeNumber (12, .iconst 2, 1) (pgm 6 rfl)) ic_2 ?_
    refine so_callV (n := 1) (As := [.int (2 : Int32)]) X (ct_X6_refuse l this (2 : Int32) h0 hk) hk (by decide) rfl lk_992 lk_994 lk_16 lk_123 lk_995 (by decide +kernel) rfl rfl rfl (rm_ok (by omega) (by decide)) ⟨Nat.zero_le _, Nat.zero_le _⟩ (Nat.le_of_ble_eq_true rfl) (dkX6_takeNumber (13, .invokevirtual 73, 3) (pgm 7 rfl)) (fun r9 h10 => ?_) rfl
    exact so_zret X hr hlk (dkX6_takeNumber (16, .ireturn, 1) (pgm 8 rfl))
def pgX6_endLine : List (Nat × Instr × Nat) := [(0, .aload_n 0, 1), (1, .getfield 28, 3), (4, .dup, 1), (5, .getfield 110, 3), (8, .iconst 1, 1), (9, .iadd, 1), (10, .putfield 110, 3), (13, .aload_n 0, 1), (14, .ldc 113, 2), (16, .invokevirtual 88, 3), (19, .ireturn, 1)]
theorem dkX6_endLine : ∀ q ∈ pgX6_endLine, decode cX6_endLine q.1 = .ok q.2 := by decide +kernel
def f_X6_endLine (this : Nat) (h0 : PH) : Option (Int32 × PH) :=
  lt (pI h0 (rt this 1) 0 ((h0.1 (rt this 1) 0) + (1 : Int32))) (fun (h1 : PH) => cb (f_X6_take this 3 h1) (fun (r2 : Int32) (h3 : PH) => zr r2 h3))
set_option maxRecDepth 100000 in
set_option maxHeartbeats 4000000 in
theorem ct_X6_endLine (l : Launch) (this : Nat) (h0 : PH) (hk : (kd this).1 = 6) : CT mkI l yX6_endLine cX6_endLine 1 (some .boolean) (rmd 6) [.ref this] h0 (f_X6_endLine this h0) := by
  refine ct_of (by decide) (Nat.le_of_ble_eq_true rfl) ?_
  intro p e s m args below meth c D cA ad A X hr hlk
  have X : Cx p s m args c RX6 cX6_endLine 1 D cA ad A := X
  unfold f_X6_endLine
  refine so_pick (L' := [(0, .ref this)]) X [0] rfl ?_
  refine so_aload_n (i := 0) X 0 (dkX6_endLine (0, .aload_n 0, 1) (pgm 0 rfl)) rfl rfl ?_
  refine sf_getR X ff_6_1 lk_289 hk (dkX6_endLine (1, .getfield 28, 3) (pgm 1 rfl)) ?_
  refine so_dup X (dkX6_endLine (4, .dup, 1) (pgm 2 rfl)) rfl ?_
  refine sf_getI X ff_8_0 lk_166 (fo (rk_6_1 this hk)) (dkX6_endLine (5, .getfield 110, 3) (pgm 3 rfl)) ?_
  refine so_iconst (v := (1 : Int32)) X (dkX6_endLine (8, .iconst 1, 1) (pgm 4 rfl)) ic_1 ?_
  refine so_iadd X (dkX6_endLine (9, .iadd, 1) (pgm 5 rfl)) ?_
  refine sf_putI X ff_8_0 ft_8 rfl lk_166 (fo (rk_6_1 this hk)) rfl rfl (dkX6_endLine (10, .putfield 110, 3) (pgm 6 rfl)) (fun h1 => ?_)
  refine so_aload_n (i := 0) X 0 (dkX6_endLine (13, .aload_n 0, 1) (pgm 7 rfl)) rfl rfl ?_
  refine so_ldcS (n := 3) (tx := ";") X (pgm 3 rfl) (dkX6_endLine (14, .ldc 113, 2) (pgm 8 rfl)) ?_
  refine so_callV (n := 1) (As := [.ref (200 + 3)]) X (ct_X6_take l this 3 h1 hk (by decide : 3 < NS)) hk (by decide) rfl lk_963 lk_965 lk_15 lk_123 lk_966 (by decide +kernel) rfl rfl rfl (rm_ok (by omega) (by decide)) ⟨Nat.zero_le _, Nat.zero_le _⟩ (Nat.le_of_ble_eq_true rfl) (dkX6_endLine (16, .invokevirtual 88, 3) (pgm 9 rfl)) (fun r2 h3 => ?_) rfl
  exact so_zret X hr hlk (dkX6_endLine (19, .ireturn, 1) (pgm 10 rfl))
def pgX6_readWish : List (Nat × Instr × Nat) := [(0, .aload_n 0, 1), (1, .getfield 28, 3), (4, .getfield 128, 3), (7, .istore_n 1, 1), (8, .iload_n 1, 1), (9, .bipush 10, 2), (11, .if_icmp .lt 9, 3), (14, .aload_n 0, 1), (15, .iconst 4, 1), (16, .invokevirtual 73, 3), (19, .ireturn, 1), (20, .aload_n 0, 1), (21, .getfield 24, 3), (24, .invokevirtual 77, 3), (27, .aload_n 0, 1), (28, .ldc 131, 2), (30, .invokevirtual 88, 3), (33, .ifCond .eq 12, 3), (36, .aload_n 0, 1), (37, .iconst 0, 1), (38, .iconst 5, 1), (39, .invokevirtual 91, 3), (42, .ifCond .ne 5, 3), (45, .iconst 0, 1), (46, .ireturn, 1), (47, .aload_n 0, 1), (48, .getfield 28, 3), (51, .getfield 133, 3), (54, .iload_n 1, 1), (55, .aload_n 0, 1), (56, .getfield 84, 3), (59, .iastore, 1), (60, .aload_n 0, 1), (61, .getfield 28, 3), (64, .getfield 135, 3), (67, .iload_n 1, 1), (68, .iconst 1, 1), (69, .iastore, 1), (70, .aload_n 0, 1), (71, .getfield 24, 3), (74, .ldc 138, 2), (76, .invokevirtual 69, 3), (79, .ifCond .eq 35, 3), (82, .aload_n 0, 1), (83, .getfield 24, 3), (86, .invokevirtual 77, 3), (89, .aload_n 0, 1), (90, .iconst 1, 1), (91, .bipush 9, 2), (93, .invokevirtual 91, 3), (96, .ifCond .ne 5, 3), (99, .iconst 0, 1), (100, .ireturn, 1), (101, .aload_n 0, 1), (102, .getfield 28, 3), (105, .getfield 135, 3), (108, .iload_n 1, 1), (109, .aload_n 0, 1), (110, .getfield 84, 3), (113, .iastore, 1), (114, .aload_n 0, 1), (115, .getfield 24, 3), (118, .ldc 139, 2), (120, .invokevirtual 69, 3), (123, .ifCond .eq 25, 3), (126, .aload_n 0, 1), (127, .getfield 24, 3), (130, .invokevirtual 77, 3), (133, .aload_n 0, 1), (134, .getfield 28, 3), (137, .dup, 1), (138, .getfield 141, 3), (141, .iconst 1, 1), (142, .iload_n 1, 1), (143, .ishl, 1), (144, .ior, 1), (145, .putfield 141, 3), (148, .aload_n 0, 1), (149, .getfield 28, 3), (152, .getfield 144, 3), (155, .iload_n 1, 1), (156, .aload_n 0, 1), (157, .getfield 28, 3), (160, .getfield 147, 3), (163, .iastore, 1), (164, .aload_n 0, 1), (165, .iconst 0, 1), (166, .putfield 150, 3), (169, .aload_n 0, 1), (170, .iconst 0, 1), (171, .putfield 153, 3), (174, .aload_n 0, 1), (175, .iconst 0, 1), (176, .putfield 156, 3), (179, .aload_n 0, 1), (180, .iconst 0, 1), (181, .putfield 159, 3), (184, .aload_n 0, 1), (185, .iconst 1, 1), (186, .putfield 40, 3), (189, .aload_n 0, 1), (190, .ldc 162, 2), (192, .invokevirtual 88, 3), (195, .ireturn, 1)]
theorem dkX6_readWish : ∀ q ∈ pgX6_readWish, decode cX6_readWish q.1 = .ok q.2 := by decide +kernel
def f_X6_readWish (this : Nat) (h0 : PH) : Option (Int32 × PH) :=
  lt (h0.1 (rt this 1) 5) (fun (x1 : Int32) => if x1 < (10 : Int32) then (cb (f_X9_advance (rt this 0) h0) (fun (r2 : Unit) (h3 : PH) => cb (f_X6_take this 5 h3) (fun (r4 : Int32) (h5 : PH) => lt (fun (h6 : PH) => zr (0 : Int32) h6) (fun (j45 : PH → Option (Int32 × PH)) => if r4 = 0 then (j45 h5) else (cb (f_X6_takeNumber this (0 : Int32) (5 : Int32) h5) (fun (r7 : Int32) (h8 : PH) => if r7 = 0 then (j45 h8) else (stI h8 (rt (rt this 1) 12) 10 x1 (h8.1 this 9) (fun (h9 : PH) => stI h9 (rt (rt this 1) 13) 10 x1 (1 : Int32) (fun (h10 : PH) => cb (f_X9_at (rt this 0) 6 h10) (fun (r11 : Int32) (h12 : PH) => lt (fun (h13 : PH) => cb (f_X9_at (rt this 0) 7 h13) (fun (r14 : Int32) (h15 : PH) => lt (fun (h16 : PH) => stI h16 (rt (rt this 1) 14) 11 x1 (h16.1 (rt this 1) 9) (fun (h17 : PH) => lt (pI h17 this 3 (0 : Int32)) (fun (h18 : PH) => lt (pI h18 this 4 (0 : Int32)) (fun (h19 : PH) => lt (pI h19 this 5 (0 : Int32)) (fun (h20 : PH) => lt (pI h20 this 6 (0 : Int32)) (fun (h21 : PH) => lt (pI h21 this 8 (1 : Int32)) (fun (h22 : PH) => cb (f_X6_take this 8 h22) (fun (r23 : Int32) (h24 : PH) => zr r23 h24)))))))) (fun (j148 : PH → Option (Int32 × PH)) => if r14 = 0 then (j148 h15) else (cb (f_X9_advance (rt this 0) h15) (fun (r25 : Unit) (h26 : PH) => lt (pI h26 (rt this 1) 6 ((h26.1 (rt this 1) 6) ||| ((1 : Int32) <<< (x1 &&& 31)))) (fun (h27 : PH) => j148 h27)))))) (fun (j114 : PH → Option (Int32 × PH)) => if r11 = 0 then (j114 h12) else (cb (f_X9_advance (rt this 0) h12) (fun (r28 : Unit) (h29 : PH) => cb (f_X6_takeNumber this (1 : Int32) (9 : Int32) h29) (fun (r30 : Int32) (h31 : PH) => if r30 = 0 then (zr (0 : Int32) h31) else (stI h31 (rt (rt this 1) 13) 10 x1 (h31.1 this 9) (fun (h32 : PH) => j114 h32)))))))))))))))) else (cb (f_X6_refuse this (4 : Int32) h0) (fun (r33 : Int32) (h34 : PH) => zr r33 h34)))
set_option maxRecDepth 100000 in
set_option maxHeartbeats 4000000 in
theorem ct_X6_readWish (l : Launch) (this : Nat) (h0 : PH) (hk : (kd this).1 = 6) : CT mkI l yX6_readWish cX6_readWish 2 (some .boolean) (rmd 6) [.ref this] h0 (f_X6_readWish this h0) := by
  refine ct_of (by decide) (Nat.le_of_ble_eq_true rfl) ?_
  intro p e s m args below meth c D cA ad A X hr hlk
  have X : Cx p s m args c RX6 cX6_readWish 2 D cA ad A := X
  unfold f_X6_readWish
  refine so_pick (L' := [(0, .ref this)]) X [0] rfl ?_
  refine so_aload_n (i := 0) X 0 (dkX6_readWish (0, .aload_n 0, 1) (pgm 0 rfl)) rfl rfl ?_
  refine sf_getR X ff_6_1 lk_289 hk (dkX6_readWish (1, .getfield 28, 3) (pgm 1 rfl)) ?_
  refine sf_getI X ff_8_5 lk_186 (fo (rk_6_1 this hk)) (dkX6_readWish (4, .getfield 128, 3) (pgm 2 rfl)) ?_
  refine so_istore_n (i := 1) X (dkX6_readWish (7, .istore_n 1, 1) (pgm 3 rfl)) rfl (by decide) (Lf := fun x1 => [(1, .int x1), (0, .ref this)]) (fun _ => rfl) (fun x1 => ?_)
  refine so_iload_n (i := 1) X 0 (dkX6_readWish (8, .iload_n 1, 1) (pgm 4 rfl)) rfl rfl ?_
  refine so_bipush (v := (10 : Int32)) X (dkX6_readWish (9, .bipush 10, 2) (pgm 5 rfl)) bp_10 ?_
  refine so_icmp_lt (tgt := 20) X (dkX6_readWish (11, .if_icmp .lt 9, 3) (pgm 6 rfl)) rfl (fun _ => ?_) (fun _ => ?_)
  · refine so_aload_n (i := 0) X 1 (dkX6_readWish (20, .aload_n 0, 1) (pgm 11 rfl)) rfl rfl ?_
    refine sf_getR X ff_6_0 lk_288 hk (dkX6_readWish (21, .getfield 24, 3) (pgm 12 rfl)) ?_
    refine so_callV (n := 0) (As := []) X (ct_X9_advance l (rt this 0) h0 (fo (rk_6_0 this hk))) (fo (rk_6_0 this hk)) (by decide) rfl lk_996 lk_864 lk_865 lk_124 lk_866 (by decide +kernel) rfl rfl rfl (rm_ok (by omega) (by decide)) ⟨Nat.zero_le _, Nat.zero_le _⟩ (Nat.le_of_ble_eq_true rfl) (dkX6_readWish (24, .invokevirtual 77, 3) (pgm 13 rfl)) (fun r2 h3 => ?_) rfl
    refine so_aload_n (i := 0) X 1 (dkX6_readWish (27, .aload_n 0, 1) (pgm 14 rfl)) rfl rfl ?_
    refine so_ldcS (n := 5) (tx := "by") X (pgm 5 rfl) (dkX6_readWish (28, .ldc 131, 2) (pgm 15 rfl)) ?_
    refine so_callV (n := 1) (As := [.ref (200 + 5)]) X (ct_X6_take l this 5 h3 hk (by decide : 5 < NS)) hk (by decide) rfl lk_963 lk_965 lk_15 lk_123 lk_966 (by decide +kernel) rfl rfl rfl (rm_ok (by omega) (by decide)) ⟨Nat.zero_le _, Nat.zero_le _⟩ (Nat.le_of_ble_eq_true rfl) (dkX6_readWish (30, .invokevirtual 88, 3) (pgm 16 rfl)) (fun r4 h5 => ?_) rfl
    refine so_join (jf := fun (h6 : PH) => zr (0 : Int32) h6) (fun (j : PH → Option (Int32 × PH)) => ∀  (h6 : PH), SWo (QM mkI below args s D cA ad A) p l e (rmd 6) s m args below meth c 0 0 2 D cA ad A 45 [] [] h6 (j h6)) ?_ (fun j45 hj45 => ?_)
    · intro h6
      refine so_iconst (v := (0 : Int32)) X (dkX6_readWish (45, .iconst 0, 1) (pgm 23 rfl)) ic_0 ?_
      exact so_zret X hr hlk (dkX6_readWish (46, .ireturn, 1) (pgm 24 rfl))
    refine so_if_eq (tgt := 45) X (dkX6_readWish (33, .ifCond .eq 12, 3) (pgm 17 rfl)) rfl (fun _ => ?_) (fun _ => ?_)
    · exact so_pick X [] rfl (hj45 h5)
    · refine so_aload_n (i := 0) X 1 (dkX6_readWish (36, .aload_n 0, 1) (pgm 18 rfl)) rfl rfl ?_
      refine so_iconst (v := (0 : Int32)) X (dkX6_readWish (37, .iconst 0, 1) (pgm 19 rfl)) ic_0 ?_
      refine so_iconst (v := (5 : Int32)) X (dkX6_readWish (38, .iconst 5, 1) (pgm 20 rfl)) ic_5 ?_
      refine so_callV (n := 2) (As := [.int (0 : Int32), .int (5 : Int32)]) X (ct_X6_takeNumber l this (0 : Int32) (5 : Int32) h5 hk) hk (by decide) rfl lk_997 lk_999 lk_17 lk_123 lk_1000 (by decide +kernel) rfl rfl rfl (rm_ok (by omega) (by decide)) ⟨Nat.zero_le _, Nat.zero_le _⟩ (Nat.le_of_ble_eq_true rfl) (dkX6_readWish (39, .invokevirtual 91, 3) (pgm 21 rfl)) (fun r7 h8 => ?_) rfl
      refine so_if_ne (tgt := 47) X (dkX6_readWish (42, .ifCond .ne 5, 3) (pgm 22 rfl)) rfl (fun _ => ?_) (fun _ => ?_)
      · refine so_aload_n (i := 0) X 1 (dkX6_readWish (47, .aload_n 0, 1) (pgm 25 rfl)) rfl rfl ?_
        refine sf_getR X ff_6_1 lk_289 hk (dkX6_readWish (48, .getfield 28, 3) (pgm 26 rfl)) ?_
        refine sf_getR X ff_8_12 lk_211 (fo (rk_6_1 this hk)) (dkX6_readWish (51, .getfield 133, 3) (pgm 27 rfl)) ?_
        refine so_iload_n (i := 1) X 0 (dkX6_readWish (54, .iload_n 1, 1) (pgm 28 rfl)) rfl rfl ?_
        refine so_aload_n (i := 0) X 1 (dkX6_readWish (55, .aload_n 0, 1) (pgm 29 rfl)) rfl rfl ?_
        refine sf_getI X ff_6_9 lk_297 hk (dkX6_readWish (56, .getfield 84, 3) (pgm 30 rfl)) ?_
        refine so_iast X (rk_8_12 (rt this 1) (fo (rk_6_1 this hk))) (dkX6_readWish (59, .iastore, 1) (pgm 31 rfl)) (fun h9 => ?_)
        refine so_aload_n (i := 0) X 1 (dkX6_readWish (60, .aload_n 0, 1) (pgm 32 rfl)) rfl rfl ?_
        refine sf_getR X ff_6_1 lk_289 hk (dkX6_readWish (61, .getfield 28, 3) (pgm 33 rfl)) ?_
        refine sf_getR X ff_8_13 lk_216 (fo (rk_6_1 this hk)) (dkX6_readWish (64, .getfield 135, 3) (pgm 34 rfl)) ?_
        refine so_iload_n (i := 1) X 0 (dkX6_readWish (67, .iload_n 1, 1) (pgm 35 rfl)) rfl rfl ?_
        refine so_iconst (v := (1 : Int32)) X (dkX6_readWish (68, .iconst 1, 1) (pgm 36 rfl)) ic_1 ?_
        refine so_iast X (rk_8_13 (rt this 1) (fo (rk_6_1 this hk))) (dkX6_readWish (69, .iastore, 1) (pgm 37 rfl)) (fun h10 => ?_)
        refine so_aload_n (i := 0) X 1 (dkX6_readWish (70, .aload_n 0, 1) (pgm 38 rfl)) rfl rfl ?_
        refine sf_getR X ff_6_0 lk_288 hk (dkX6_readWish (71, .getfield 24, 3) (pgm 39 rfl)) ?_
        refine so_ldcS (n := 6) (tx := "weight") X (pgm 6 rfl) (dkX6_readWish (74, .ldc 138, 2) (pgm 40 rfl)) ?_
        refine so_callV (n := 1) (As := [.ref (200 + 6)]) X (ct_X9_at l (rt this 0) 6 h10 (fo (rk_6_0 this hk)) (by decide : 6 < NS)) (fo (rk_6_0 this hk)) (by decide) rfl lk_967 lk_968 lk_969 lk_124 lk_970 (by decide +kernel) rfl rfl rfl (rm_ok (by omega) (by decide)) ⟨Nat.zero_le _, Nat.zero_le _⟩ (Nat.le_of_ble_eq_true rfl) (dkX6_readWish (76, .invokevirtual 69, 3) (pgm 41 rfl)) (fun r11 h12 => ?_) rfl
        refine so_join (jf := fun (h13 : PH) => cb (f_X9_at (rt this 0) 7 h13) (fun (r14 : Int32) (h15 : PH) => lt (fun (h16 : PH) => stI h16 (rt (rt this 1) 14) 11 x1 (h16.1 (rt this 1) 9) (fun (h17 : PH) => lt (pI h17 this 3 (0 : Int32)) (fun (h18 : PH) => lt (pI h18 this 4 (0 : Int32)) (fun (h19 : PH) => lt (pI h19 this 5 (0 : Int32)) (fun (h20 : PH) => lt (pI h20 this 6 (0 : Int32)) (fun (h21 : PH) => lt (pI h21 this 8 (1 : Int32)) (fun (h22 : PH) => cb (f_X6_take this 8 h22) (fun (r23 : Int32) (h24 : PH) => zr r23 h24)))))))) (fun (j148 : PH → Option (Int32 × PH)) => if r14 = 0 then (j148 h15) else (cb (f_X9_advance (rt this 0) h15) (fun (r25 : Unit) (h26 : PH) => lt (pI h26 (rt this 1) 6 ((h26.1 (rt this 1) 6) ||| ((1 : Int32) <<< (x1 &&& 31)))) (fun (h27 : PH) => j148 h27)))))) (fun (j : PH → Option (Int32 × PH)) => ∀  (h13 : PH), SWo (QM mkI below args s D cA ad A) p l e (rmd 6) s m args below meth c 0 0 2 D cA ad A 114 [(0, .ref this), (1, .int x1)] [] h13 (j h13)) ?_ (fun j114 hj114 => ?_)
        · intro h13
          refine so_aload_n (i := 0) X 0 (dkX6_readWish (114, .aload_n 0, 1) (pgm 60 rfl)) rfl rfl ?_
          refine sf_getR X ff_6_0 lk_288 hk (dkX6_readWish (115, .getfield 24, 3) (pgm 61 rfl)) ?_
          refine so_ldcS (n := 7) (tx := "must") X (pgm 7 rfl) (dkX6_readWish (118, .ldc 139, 2) (pgm 62 rfl)) ?_
          refine so_callV (n := 1) (As := [.ref (200 + 7)]) X (ct_X9_at l (rt this 0) 7 h13 (fo (rk_6_0 this hk)) (by decide : 7 < NS)) (fo (rk_6_0 this hk)) (by decide) rfl lk_967 lk_968 lk_969 lk_124 lk_970 (by decide +kernel) rfl rfl rfl (rm_ok (by omega) (by decide)) ⟨Nat.zero_le _, Nat.zero_le _⟩ (Nat.le_of_ble_eq_true rfl) (dkX6_readWish (120, .invokevirtual 69, 3) (pgm 63 rfl)) (fun r14 h15 => ?_) rfl
          refine so_join (jf := fun (h16 : PH) => stI h16 (rt (rt this 1) 14) 11 x1 (h16.1 (rt this 1) 9) (fun (h17 : PH) => lt (pI h17 this 3 (0 : Int32)) (fun (h18 : PH) => lt (pI h18 this 4 (0 : Int32)) (fun (h19 : PH) => lt (pI h19 this 5 (0 : Int32)) (fun (h20 : PH) => lt (pI h20 this 6 (0 : Int32)) (fun (h21 : PH) => lt (pI h21 this 8 (1 : Int32)) (fun (h22 : PH) => cb (f_X6_take this 8 h22) (fun (r23 : Int32) (h24 : PH) => zr r23 h24)))))))) (fun (j : PH → Option (Int32 × PH)) => ∀  (h16 : PH), SWo (QM mkI below args s D cA ad A) p l e (rmd 6) s m args below meth c 0 0 2 D cA ad A 148 [(0, .ref this), (1, .int x1)] [] h16 (j h16)) ?_ (fun j148 hj148 => ?_)
          · intro h16
            refine so_aload_n (i := 0) X 0 (dkX6_readWish (148, .aload_n 0, 1) (pgm 77 rfl)) rfl rfl ?_
            refine sf_getR X ff_6_1 lk_289 hk (dkX6_readWish (149, .getfield 28, 3) (pgm 78 rfl)) ?_
            refine sf_getR X ff_8_14 lk_219 (fo (rk_6_1 this hk)) (dkX6_readWish (152, .getfield 144, 3) (pgm 79 rfl)) ?_
            refine so_iload_n (i := 1) X 1 (dkX6_readWish (155, .iload_n 1, 1) (pgm 80 rfl)) rfl rfl ?_
            refine so_aload_n (i := 0) X 0 (dkX6_readWish (156, .aload_n 0, 1) (pgm 81 rfl)) rfl rfl ?_
            refine sf_getR X ff_6_1 lk_289 hk (dkX6_readWish (157, .getfield 28, 3) (pgm 82 rfl)) ?_
            refine sf_getI X ff_8_9 lk_204 (fo (rk_6_1 this hk)) (dkX6_readWish (160, .getfield 147, 3) (pgm 83 rfl)) ?_
            refine so_iast X (rk_8_14 (rt this 1) (fo (rk_6_1 this hk))) (dkX6_readWish (163, .iastore, 1) (pgm 84 rfl)) (fun h17 => ?_)
            refine so_aload_n (i := 0) X 0 (dkX6_readWish (164, .aload_n 0, 1) (pgm 85 rfl)) rfl rfl ?_
            refine so_iconst (v := (0 : Int32)) X (dkX6_readWish (165, .iconst 0, 1) (pgm 86 rfl)) ic_0 ?_
            refine sf_putI X ff_6_3 ft_6 rfl lk_291 hk rfl rfl (dkX6_readWish (166, .putfield 150, 3) (pgm 87 rfl)) (fun h18 => ?_)
            refine so_aload_n (i := 0) X 0 (dkX6_readWish (169, .aload_n 0, 1) (pgm 88 rfl)) rfl rfl ?_
            refine so_iconst (v := (0 : Int32)) X (dkX6_readWish (170, .iconst 0, 1) (pgm 89 rfl)) ic_0 ?_
            refine sf_putI X ff_6_4 ft_6 rfl lk_292 hk rfl rfl (dkX6_readWish (171, .putfield 153, 3) (pgm 90 rfl)) (fun h19 => ?_)
            refine so_aload_n (i := 0) X 0 (dkX6_readWish (174, .aload_n 0, 1) (pgm 91 rfl)) rfl rfl ?_
            refine so_iconst (v := (0 : Int32)) X (dkX6_readWish (175, .iconst 0, 1) (pgm 92 rfl)) ic_0 ?_
            refine sf_putI X ff_6_5 ft_6 rfl lk_293 hk rfl rfl (dkX6_readWish (176, .putfield 156, 3) (pgm 93 rfl)) (fun h20 => ?_)
            refine so_aload_n (i := 0) X 0 (dkX6_readWish (179, .aload_n 0, 1) (pgm 94 rfl)) rfl rfl ?_
            refine so_iconst (v := (0 : Int32)) X (dkX6_readWish (180, .iconst 0, 1) (pgm 95 rfl)) ic_0 ?_
            refine sf_putI X ff_6_6 ft_6 rfl lk_294 hk rfl rfl (dkX6_readWish (181, .putfield 159, 3) (pgm 96 rfl)) (fun h21 => ?_)
            refine so_aload_n (i := 0) X 0 (dkX6_readWish (184, .aload_n 0, 1) (pgm 97 rfl)) rfl rfl ?_
            refine so_iconst (v := (1 : Int32)) X (dkX6_readWish (185, .iconst 1, 1) (pgm 98 rfl)) ic_1 ?_
            refine sf_putI X ff_6_8 ft_6 rfl lk_296 hk rfl rfl (dkX6_readWish (186, .putfield 40, 3) (pgm 99 rfl)) (fun h22 => ?_)
            refine so_aload_n (i := 0) X 0 (dkX6_readWish (189, .aload_n 0, 1) (pgm 100 rfl)) rfl rfl ?_
            refine so_ldcS (n := 8) (tx := ":") X (pgm 8 rfl) (dkX6_readWish (190, .ldc 162, 2) (pgm 101 rfl)) ?_
            refine so_callV (n := 1) (As := [.ref (200 + 8)]) X (ct_X6_take l this 8 h22 hk (by decide : 8 < NS)) hk (by decide) rfl lk_963 lk_965 lk_15 lk_123 lk_966 (by decide +kernel) rfl rfl rfl (rm_ok (by omega) (by decide)) ⟨Nat.zero_le _, Nat.zero_le _⟩ (Nat.le_of_ble_eq_true rfl) (dkX6_readWish (192, .invokevirtual 88, 3) (pgm 102 rfl)) (fun r23 h24 => ?_) rfl
            exact so_zret X hr hlk (dkX6_readWish (195, .ireturn, 1) (pgm 103 rfl))
          refine so_if_eq (tgt := 148) X (dkX6_readWish (123, .ifCond .eq 25, 3) (pgm 64 rfl)) rfl (fun _ => ?_) (fun _ => ?_)
          · exact so_pick X [0, 1] rfl (hj148 h15)
          · refine so_aload_n (i := 0) X 0 (dkX6_readWish (126, .aload_n 0, 1) (pgm 65 rfl)) rfl rfl ?_
            refine sf_getR X ff_6_0 lk_288 hk (dkX6_readWish (127, .getfield 24, 3) (pgm 66 rfl)) ?_
            refine so_callV (n := 0) (As := []) X (ct_X9_advance l (rt this 0) h15 (fo (rk_6_0 this hk))) (fo (rk_6_0 this hk)) (by decide) rfl lk_996 lk_864 lk_865 lk_124 lk_866 (by decide +kernel) rfl rfl rfl (rm_ok (by omega) (by decide)) ⟨Nat.zero_le _, Nat.zero_le _⟩ (Nat.le_of_ble_eq_true rfl) (dkX6_readWish (130, .invokevirtual 77, 3) (pgm 67 rfl)) (fun r25 h26 => ?_) rfl
            refine so_aload_n (i := 0) X 0 (dkX6_readWish (133, .aload_n 0, 1) (pgm 68 rfl)) rfl rfl ?_
            refine sf_getR X ff_6_1 lk_289 hk (dkX6_readWish (134, .getfield 28, 3) (pgm 69 rfl)) ?_
            refine so_dup X (dkX6_readWish (137, .dup, 1) (pgm 70 rfl)) rfl ?_
            refine sf_getI X ff_8_6 lk_190 (fo (rk_6_1 this hk)) (dkX6_readWish (138, .getfield 141, 3) (pgm 71 rfl)) ?_
            refine so_iconst (v := (1 : Int32)) X (dkX6_readWish (141, .iconst 1, 1) (pgm 72 rfl)) ic_1 ?_
            refine so_iload_n (i := 1) X 1 (dkX6_readWish (142, .iload_n 1, 1) (pgm 73 rfl)) rfl rfl ?_
            refine so_ishl X (dkX6_readWish (143, .ishl, 1) (pgm 74 rfl)) ?_
            refine so_ior X (dkX6_readWish (144, .ior, 1) (pgm 75 rfl)) ?_
            refine sf_putI X ff_8_6 ft_8 rfl lk_190 (fo (rk_6_1 this hk)) rfl rfl (dkX6_readWish (145, .putfield 141, 3) (pgm 76 rfl)) (fun h27 => ?_)
            exact so_pick X [0, 1] rfl (hj148 h27)
        refine so_if_eq (tgt := 114) X (dkX6_readWish (79, .ifCond .eq 35, 3) (pgm 42 rfl)) rfl (fun _ => ?_) (fun _ => ?_)
        · exact so_pick X [1, 0] rfl (hj114 h12)
        · refine so_aload_n (i := 0) X 1 (dkX6_readWish (82, .aload_n 0, 1) (pgm 43 rfl)) rfl rfl ?_
          refine sf_getR X ff_6_0 lk_288 hk (dkX6_readWish (83, .getfield 24, 3) (pgm 44 rfl)) ?_
          refine so_callV (n := 0) (As := []) X (ct_X9_advance l (rt this 0) h12 (fo (rk_6_0 this hk))) (fo (rk_6_0 this hk)) (by decide) rfl lk_996 lk_864 lk_865 lk_124 lk_866 (by decide +kernel) rfl rfl rfl (rm_ok (by omega) (by decide)) ⟨Nat.zero_le _, Nat.zero_le _⟩ (Nat.le_of_ble_eq_true rfl) (dkX6_readWish (86, .invokevirtual 77, 3) (pgm 45 rfl)) (fun r28 h29 => ?_) rfl
          refine so_aload_n (i := 0) X 1 (dkX6_readWish (89, .aload_n 0, 1) (pgm 46 rfl)) rfl rfl ?_
          refine so_iconst (v := (1 : Int32)) X (dkX6_readWish (90, .iconst 1, 1) (pgm 47 rfl)) ic_1 ?_
          refine so_bipush (v := (9 : Int32)) X (dkX6_readWish (91, .bipush 9, 2) (pgm 48 rfl)) bp_9 ?_
          refine so_callV (n := 2) (As := [.int (1 : Int32), .int (9 : Int32)]) X (ct_X6_takeNumber l this (1 : Int32) (9 : Int32) h29 hk) hk (by decide) rfl lk_997 lk_999 lk_17 lk_123 lk_1000 (by decide +kernel) rfl rfl rfl (rm_ok (by omega) (by decide)) ⟨Nat.zero_le _, Nat.zero_le _⟩ (Nat.le_of_ble_eq_true rfl) (dkX6_readWish (93, .invokevirtual 91, 3) (pgm 49 rfl)) (fun r30 h31 => ?_) rfl
          refine so_if_ne (tgt := 101) X (dkX6_readWish (96, .ifCond .ne 5, 3) (pgm 50 rfl)) rfl (fun _ => ?_) (fun _ => ?_)
          · refine so_aload_n (i := 0) X 1 (dkX6_readWish (101, .aload_n 0, 1) (pgm 53 rfl)) rfl rfl ?_
            refine sf_getR X ff_6_1 lk_289 hk (dkX6_readWish (102, .getfield 28, 3) (pgm 54 rfl)) ?_
            refine sf_getR X ff_8_13 lk_216 (fo (rk_6_1 this hk)) (dkX6_readWish (105, .getfield 135, 3) (pgm 55 rfl)) ?_
            refine so_iload_n (i := 1) X 0 (dkX6_readWish (108, .iload_n 1, 1) (pgm 56 rfl)) rfl rfl ?_
            refine so_aload_n (i := 0) X 1 (dkX6_readWish (109, .aload_n 0, 1) (pgm 57 rfl)) rfl rfl ?_
            refine sf_getI X ff_6_9 lk_297 hk (dkX6_readWish (110, .getfield 84, 3) (pgm 58 rfl)) ?_
            refine so_iast X (rk_8_13 (rt this 1) (fo (rk_6_1 this hk))) (dkX6_readWish (113, .iastore, 1) (pgm 59 rfl)) (fun h32 => ?_)
            exact so_pick X [1, 0] rfl (hj114 h32)
          · refine so_iconst (v := (0 : Int32)) X (dkX6_readWish (99, .iconst 0, 1) (pgm 51 rfl)) ic_0 ?_
            exact so_zret X hr hlk (dkX6_readWish (100, .ireturn, 1) (pgm 52 rfl))
      · exact so_pick X [] rfl (hj45 h8)
  · refine so_aload_n (i := 0) X 1 (dkX6_readWish (14, .aload_n 0, 1) (pgm 7 rfl)) rfl rfl ?_
    refine so_iconst (v := (4 : Int32)) X (dkX6_readWish (15, .iconst 4, 1) (pgm 8 rfl)) ic_4 ?_
    refine so_callV (n := 1) (As := [.int (4 : Int32)]) X (ct_X6_refuse l this (4 : Int32) h0 hk) hk (by decide) rfl lk_992 lk_994 lk_16 lk_123 lk_995 (by decide +kernel) rfl rfl rfl (rm_ok (by omega) (by decide)) ⟨Nat.zero_le _, Nat.zero_le _⟩ (Nat.le_of_ble_eq_true rfl) (dkX6_readWish (16, .invokevirtual 73, 3) (pgm 9 rfl)) (fun r33 h34 => ?_) rfl
    exact so_zret X hr hlk (dkX6_readWish (19, .ireturn, 1) (pgm 10 rfl))
def pgX6_await : List (Nat × Instr × Nat) := [(0, .aload_n 0, 1), (1, .getfield 150, 3), (4, .sipush 900, 3), (7, .if_icmp .ge 23, 3), (10, .aload_n 0, 1), (11, .getfield 9, 3), (14, .aload_n 0, 1), (15, .getfield 150, 3), (18, .iload_n 1, 1), (19, .iastore, 1), (20, .aload_n 0, 1), (21, .dup, 1), (22, .getfield 150, 3), (25, .iconst 1, 1), (26, .iadd, 1), (27, .putfield 150, 3), (30, .aload_n 0, 1), (31, .iload_n 2, 1), (32, .putfield 40, 3), (35, .aload_n 0, 1), (36, .getfield 24, 3), (39, .invokevirtual 77, 3), (42, .iconst 1, 1), (43, .ireturn, 1)]
theorem dkX6_await : ∀ q ∈ pgX6_await, decode cX6_await q.1 = .ok q.2 := by decide +kernel
def f_X6_await (this : Nat) (a1 : Int32) (a2 : Int32) (h0 : PH) : Option (Int32 × PH) :=
  lt (fun (h1 : PH) => lt (pI h1 this 8 a2) (fun (h2 : PH) => cb (f_X9_advance (rt this 0) h2) (fun (r3 : Unit) (h4 : PH) => zr (1 : Int32) h4))) (fun (j30 : PH → Option (Int32 × PH)) => if (900 : Int32) ≤ (h0.1 this 3) then (j30 h0) else (stI h0 (rt this 2) 900 (h0.1 this 3) a1 (fun (h5 : PH) => lt (pI h5 this 3 ((h5.1 this 3) + (1 : Int32))) (fun (h6 : PH) => j30 h6))))
set_option maxRecDepth 100000 in
set_option maxHeartbeats 4000000 in
theorem ct_X6_await (l : Launch) (this : Nat) (a1 : Int32) (a2 : Int32) (h0 : PH) (hk : (kd this).1 = 6) : CT mkI l yX6_await cX6_await 3 (some .boolean) (rmd 5) [.ref this, .int a1, .int a2] h0 (f_X6_await this a1 a2 h0) := by
  refine ct_of (by decide) (Nat.le_of_ble_eq_true rfl) ?_
  intro p e s m args below meth c D cA ad A X hr hlk
  have X : Cx p s m args c RX6 cX6_await 3 D cA ad A := X
  unfold f_X6_await
  refine so_pick (L' := [(0, .ref this), (1, .int a1), (2, .int a2)]) X [0, 1, 2] rfl ?_
  refine so_aload_n (i := 0) X 0 (dkX6_await (0, .aload_n 0, 1) (pgm 0 rfl)) rfl rfl ?_
  refine sf_getI X ff_6_3 lk_291 hk (dkX6_await (1, .getfield 150, 3) (pgm 1 rfl)) ?_
  refine so_sipush (v := (900 : Int32)) X (dkX6_await (4, .sipush 900, 3) (pgm 2 rfl)) sp_900 ?_
  refine so_join (jf := fun (h1 : PH) => lt (pI h1 this 8 a2) (fun (h2 : PH) => cb (f_X9_advance (rt this 0) h2) (fun (r3 : Unit) (h4 : PH) => zr (1 : Int32) h4))) (fun (j : PH → Option (Int32 × PH)) => ∀  (h1 : PH), SWo (QM mkI below args s D cA ad A) p l e (rmd 5) s m args below meth c 0 0 3 D cA ad A 30 [(0, .ref this), (2, .int a2)] [] h1 (j h1)) ?_ (fun j30 hj30 => ?_)
  · intro h1
    refine so_aload_n (i := 0) X 0 (dkX6_await (30, .aload_n 0, 1) (pgm 16 rfl)) rfl rfl ?_
    refine so_iload_n (i := 2) X 1 (dkX6_await (31, .iload_n 2, 1) (pgm 17 rfl)) rfl rfl ?_
    refine sf_putI X ff_6_8 ft_6 rfl lk_296 hk rfl rfl (dkX6_await (32, .putfield 40, 3) (pgm 18 rfl)) (fun h2 => ?_)
    refine so_aload_n (i := 0) X 0 (dkX6_await (35, .aload_n 0, 1) (pgm 19 rfl)) rfl rfl ?_
    refine sf_getR X ff_6_0 lk_288 hk (dkX6_await (36, .getfield 24, 3) (pgm 20 rfl)) ?_
    refine so_callV (n := 0) (As := []) X (ct_X9_advance l (rt this 0) h2 (fo (rk_6_0 this hk))) (fo (rk_6_0 this hk)) (by decide) rfl lk_996 lk_864 lk_865 lk_124 lk_866 (by decide +kernel) rfl rfl rfl (rm_ok (by omega) (by decide)) ⟨Nat.zero_le _, Nat.zero_le _⟩ (Nat.le_of_ble_eq_true rfl) (dkX6_await (39, .invokevirtual 77, 3) (pgm 21 rfl)) (fun r3 h4 => ?_) rfl
    refine so_iconst (v := (1 : Int32)) X (dkX6_await (42, .iconst 1, 1) (pgm 22 rfl)) ic_1 ?_
    exact so_zret X hr hlk (dkX6_await (43, .ireturn, 1) (pgm 23 rfl))
  refine so_icmp_ge (tgt := 30) X (dkX6_await (7, .if_icmp .ge 23, 3) (pgm 3 rfl)) rfl (fun _ => ?_) (fun _ => ?_)
  · exact so_pick X [0, 2] rfl (hj30 h0)
  · refine so_aload_n (i := 0) X 0 (dkX6_await (10, .aload_n 0, 1) (pgm 4 rfl)) rfl rfl ?_
    refine sf_getR X ff_6_2 lk_290 hk (dkX6_await (11, .getfield 9, 3) (pgm 5 rfl)) ?_
    refine so_aload_n (i := 0) X 0 (dkX6_await (14, .aload_n 0, 1) (pgm 6 rfl)) rfl rfl ?_
    refine sf_getI X ff_6_3 lk_291 hk (dkX6_await (15, .getfield 150, 3) (pgm 7 rfl)) ?_
    refine so_iload_n (i := 1) X 1 (dkX6_await (18, .iload_n 1, 1) (pgm 8 rfl)) rfl rfl ?_
    refine so_iast X (rk_6_2 this hk) (dkX6_await (19, .iastore, 1) (pgm 9 rfl)) (fun h5 => ?_)
    refine so_aload_n (i := 0) X 0 (dkX6_await (20, .aload_n 0, 1) (pgm 10 rfl)) rfl rfl ?_
    refine so_dup X (dkX6_await (21, .dup, 1) (pgm 11 rfl)) rfl ?_
    refine sf_getI X ff_6_3 lk_291 hk (dkX6_await (22, .getfield 150, 3) (pgm 12 rfl)) ?_
    refine so_iconst (v := (1 : Int32)) X (dkX6_await (25, .iconst 1, 1) (pgm 13 rfl)) ic_1 ?_
    refine so_iadd X (dkX6_await (26, .iadd, 1) (pgm 14 rfl)) ?_
    refine sf_putI X ff_6_3 ft_6 rfl lk_291 hk rfl rfl (dkX6_await (27, .putfield 150, 3) (pgm 15 rfl)) (fun h6 => ?_)
    exact so_pick X [0, 2] rfl (hj30 h6)
def pgX6_readAtom : List (Nat × Instr × Nat) := [(0, .aload_n 0, 1), (1, .iconst 3, 1), (2, .putfield 40, 3), (5, .aload_n 0, 1), (6, .getfield 24, 3), (9, .getfield 51, 3), (12, .iconst 3, 1), (13, .if_icmp .ne 28, 3), (16, .aload_n 0, 1), (17, .getfield 28, 3), (20, .bipush 11, 2), (22, .aload_n 0, 1), (23, .getfield 24, 3), (26, .invokevirtual 80, 3), (29, .invokevirtual 183, 3), (32, .aload_n 0, 1), (33, .getfield 24, 3), (36, .invokevirtual 77, 3), (39, .iconst 1, 1), (40, .ireturn, 1), (41, .aload_n 0, 1), (42, .getfield 24, 3), (45, .ldc 187, 2), (47, .invokevirtual 69, 3), (50, .ifCond .eq 28, 3), (53, .aload_n 0, 1), (54, .getfield 28, 3), (57, .bipush 12, 2), (59, .aload_n 0, 1), (60, .getfield 28, 3), (63, .getfield 189, 3), (66, .invokevirtual 183, 3), (69, .aload_n 0, 1), (70, .getfield 24, 3), (73, .invokevirtual 77, 3), (76, .iconst 1, 1), (77, .ireturn, 1), (78, .aload_n 0, 1), (79, .getfield 24, 3), (82, .ldc 192, 2), (84, .invokevirtual 69, 3), (87, .istore_n 1, 1), (88, .aload_n 0, 1), (89, .getfield 24, 3), (92, .ldc 194, 2), (94, .invokevirtual 69, 3), (97, .istore_n 2, 1), (98, .iload_n 1, 1), (99, .ifCond .ne 25, 3), (102, .iload_n 2, 1), (103, .ifCond .ne 21, 3), (106, .aload_n 0, 1), (107, .getfield 24, 3), (110, .ldc 196, 2), (112, .invokevirtual 69, 3), (115, .ifCond .ne 9, 3), (118, .aload_n 0, 1), (119, .iconst 2, 1), (120, .invokevirtual 73, 3), (123, .ireturn, 1), (124, .aload_n 0, 1), (125, .getfield 24, 3), (128, .invokevirtual 77, 3), (131, .aload_n 0, 1), (132, .iconst 0, 1), (133, .iload_n 2, 1), (134, .ifCond .eq 13, 3), (137, .aload_n 0, 1), (138, .getfield 28, 3), (141, .getfield 104, 3), (144, .goto 10, 3), (147, .aload_n 0, 1), (148, .getfield 28, 3), (151, .getfield 95, 3), (154, .iconst 1, 1), (155, .isub, 1), (156, .invokevirtual 91, 3), (159, .ifCond .ne 5, 3), (162, .iconst 0, 1), (163, .ireturn, 1), (164, .iload_n 2, 1), (165, .ifCond .eq 17, 3), (168, .aload_n 0, 1), (169, .getfield 28, 3), (172, .aload_n 0, 1), (173, .getfield 84, 3), (176, .invokevirtual 198, 3), (179, .goto 14, 3), (182, .aload_n 0, 1), (183, .getfield 28, 3), (186, .aload_n 0, 1), (187, .getfield 84, 3), (190, .invokevirtual 202, 3), (193, .istore_n 3, 1), (194, .iload_n 1, 1), (195, .ifCond .eq 36, 3), (198, .aload_n 0, 1), (199, .iconst 0, 1), (200, .aload_n 0, 1), (201, .getfield 28, 3), (204, .getfield 104, 3), (207, .iconst 1, 1), (208, .isub, 1), (209, .invokevirtual 91, 3), (212, .ifCond .ne 5, 3), (215, .iconst 0, 1), (216, .ireturn, 1), (217, .iload_n 3, 1), (218, .aload_n 0, 1), (219, .getfield 28, 3), (222, .aload_n 0, 1), (223, .getfield 84, 3), (226, .invokevirtual 198, 3), (229, .iand, 1), (230, .istore_n 3, 1), (231, .aload_n 0, 1), (232, .getfield 28, 3), (235, .bipush 12, 2), (237, .iload_n 3, 1), (238, .invokevirtual 183, 3), (241, .iconst 1, 1), (242, .ireturn, 1)]
theorem dkX6_readAtom : ∀ q ∈ pgX6_readAtom, decode cX6_readAtom q.1 = .ok q.2 := by decide +kernel
def f_X6_readAtom (this : Nat) (h0 : PH) : Option (Int32 × PH) :=
  lt (pI h0 this 8 (3 : Int32)) (fun (h1 : PH) => if (h1.1 (rt this 0) 4) = (3 : Int32) then (cb (f_X9_value (rt this 0) h1) (fun (r41 : Int32) (h42 : PH) => cb (f_X8_emit (rt this 1) (11 : Int32) r41 h42) (fun (r43 : Unit) (h44 : PH) => cb (f_X9_advance (rt this 0) h44) (fun (r45 : Unit) (h46 : PH) => zr (1 : Int32) h46)))) else (cb (f_X9_at (rt this 0) 14 h1) (fun (r2 : Int32) (h3 : PH) => if r2 = 0 then (cb (f_X9_at (rt this 0) 15 h3) (fun (r4 : Int32) (h5 : PH) => lt r4 (fun (x6 : Int32) => cb (f_X9_at (rt this 0) 16 h5) (fun (r7 : Int32) (h8 : PH) => lt r7 (fun (x9 : Int32) => lt (fun (h10 : PH) => cb (f_X9_advance (rt this 0) h10) (fun (r11 : Unit) (h12 : PH) => lt (fun (t13 : Int32) (h14 : PH) => cb (f_X6_takeNumber this (0 : Int32) (t13 - (1 : Int32)) h14) (fun (r15 : Int32) (h16 : PH) => if r15 = 0 then (zr (0 : Int32) h16) else (lt (fun (t17 : Int32) (h18 : PH) => lt t17 (fun (x19 : Int32) => lt (fun (y20 : Int32) (h21 : PH) => cb (f_X8_emit (rt this 1) (12 : Int32) y20 h21) (fun (r22 : Unit) (h23 : PH) => zr (1 : Int32) h23)) (fun (j231 : Int32 → PH → Option (Int32 × PH)) => if x6 = 0 then (j231 x19 h18) else (cb (f_X6_takeNumber this (0 : Int32) ((h18.1 (rt this 1) 2) - (1 : Int32)) h18) (fun (r24 : Int32) (h25 : PH) => if r24 = 0 then (zr (0 : Int32) h25) else (cb (f_X8_cellsOnDay (rt this 1) (h25.1 this 9) h25) (fun (r26 : Int32) (h27 : PH) => lt (x19 &&& r26) (fun (x28 : Int32) => j231 x28 h27)))))))) (fun (j193 : Int32 → PH → Option (Int32 × PH)) => if x9 = 0 then (cb (f_X8_cellsOfParish (rt this 1) (h16.1 this 9) h16) (fun (r29 : Int32) (h30 : PH) => j193 r29 h30)) else (cb (f_X8_cellsOnDay (rt this 1) (h16.1 this 9) h16) (fun (r31 : Int32) (h32 : PH) => j193 r31 h32)))))) (fun (j154 : Int32 → PH → Option (Int32 × PH)) => if x9 = 0 then (j154 (h12.1 (rt this 1) 1) h12) else (j154 (h12.1 (rt this 1) 2) h12)))) (fun (j124 : PH → Option (Int32 × PH)) => if x6 = 0 then (if x9 = 0 then (cb (f_X9_at (rt this 0) 17 h8) (fun (r33 : Int32) (h34 : PH) => if r33 = 0 then (cb (f_X6_refuse this (2 : Int32) h34) (fun (r35 : Int32) (h36 : PH) => zr r35 h36)) else (j124 h34))) else (j124 h8)) else (j124 h8))))))) else (cb (f_X8_emit (rt this 1) (12 : Int32) (h3.1 (rt this 1) 8) h3) (fun (r37 : Unit) (h38 : PH) => cb (f_X9_advance (rt this 0) h38) (fun (r39 : Unit) (h40 : PH) => zr (1 : Int32) h40))))))
set_option maxRecDepth 100000 in
set_option maxHeartbeats 4000000 in
theorem ct_X6_readAtom (l : Launch) (this : Nat) (h0 : PH) (hk : (kd this).1 = 6) : CT mkI l yX6_readAtom cX6_readAtom 4 (some .boolean) (rmd 6) [.ref this] h0 (f_X6_readAtom this h0) := by
  refine ct_of (by decide) (Nat.le_of_ble_eq_true rfl) ?_
  intro p e s m args below meth c D cA ad A X hr hlk
  have X : Cx p s m args c RX6 cX6_readAtom 4 D cA ad A := X
  unfold f_X6_readAtom
  refine so_pick (L' := [(0, .ref this)]) X [0] rfl ?_
  refine so_aload_n (i := 0) X 0 (dkX6_readAtom (0, .aload_n 0, 1) (pgm 0 rfl)) rfl rfl ?_
  refine so_iconst (v := (3 : Int32)) X (dkX6_readAtom (1, .iconst 3, 1) (pgm 1 rfl)) ic_3 ?_
  refine sf_putI X ff_6_8 ft_6 rfl lk_296 hk rfl rfl (dkX6_readAtom (2, .putfield 40, 3) (pgm 2 rfl)) (fun h1 => ?_)
  refine so_aload_n (i := 0) X 0 (dkX6_readAtom (5, .aload_n 0, 1) (pgm 3 rfl)) rfl rfl ?_
  refine sf_getR X ff_6_0 lk_288 hk (dkX6_readAtom (6, .getfield 24, 3) (pgm 4 rfl)) ?_
  refine sf_getI X ff_9_4 lk_275 (fo (rk_6_0 this hk)) (dkX6_readAtom (9, .getfield 51, 3) (pgm 5 rfl)) ?_
  refine so_iconst (v := (3 : Int32)) X (dkX6_readAtom (12, .iconst 3, 1) (pgm 6 rfl)) ic_3 ?_
  refine so_icmp_ne (tgt := 41) X (dkX6_readAtom (13, .if_icmp .ne 28, 3) (pgm 7 rfl)) rfl (fun _ => ?_) (fun _ => ?_)
  · refine so_aload_n (i := 0) X 0 (dkX6_readAtom (41, .aload_n 0, 1) (pgm 20 rfl)) rfl rfl ?_
    refine sf_getR X ff_6_0 lk_288 hk (dkX6_readAtom (42, .getfield 24, 3) (pgm 21 rfl)) ?_
    refine so_ldcS (n := 14) (tx := "all") X (pgm 14 rfl) (dkX6_readAtom (45, .ldc 187, 2) (pgm 22 rfl)) ?_
    refine so_callV (n := 1) (As := [.ref (200 + 14)]) X (ct_X9_at l (rt this 0) 14 h1 (fo (rk_6_0 this hk)) (by decide : 14 < NS)) (fo (rk_6_0 this hk)) (by decide) rfl lk_967 lk_968 lk_969 lk_124 lk_970 (by decide +kernel) rfl rfl rfl (rm_ok (by omega) (by decide)) ⟨Nat.zero_le _, Nat.zero_le _⟩ (Nat.le_of_ble_eq_true rfl) (dkX6_readAtom (47, .invokevirtual 69, 3) (pgm 23 rfl)) (fun r2 h3 => ?_) rfl
    refine so_if_eq (tgt := 78) X (dkX6_readAtom (50, .ifCond .eq 28, 3) (pgm 24 rfl)) rfl (fun _ => ?_) (fun _ => ?_)
    · refine so_aload_n (i := 0) X 0 (dkX6_readAtom (78, .aload_n 0, 1) (pgm 37 rfl)) rfl rfl ?_
      refine sf_getR X ff_6_0 lk_288 hk (dkX6_readAtom (79, .getfield 24, 3) (pgm 38 rfl)) ?_
      refine so_ldcS (n := 15) (tx := "wet") X (pgm 15 rfl) (dkX6_readAtom (82, .ldc 192, 2) (pgm 39 rfl)) ?_
      refine so_callV (n := 1) (As := [.ref (200 + 15)]) X (ct_X9_at l (rt this 0) 15 h3 (fo (rk_6_0 this hk)) (by decide : 15 < NS)) (fo (rk_6_0 this hk)) (by decide) rfl lk_967 lk_968 lk_969 lk_124 lk_970 (by decide +kernel) rfl rfl rfl (rm_ok (by omega) (by decide)) ⟨Nat.zero_le _, Nat.zero_le _⟩ (Nat.le_of_ble_eq_true rfl) (dkX6_readAtom (84, .invokevirtual 69, 3) (pgm 40 rfl)) (fun r4 h5 => ?_) rfl
      refine so_istore_n (i := 1) X (dkX6_readAtom (87, .istore_n 1, 1) (pgm 41 rfl)) rfl (by decide) (Lf := fun x6 => [(1, .int x6), (0, .ref this)]) (fun _ => rfl) (fun x6 => ?_)
      refine so_aload_n (i := 0) X 1 (dkX6_readAtom (88, .aload_n 0, 1) (pgm 42 rfl)) rfl rfl ?_
      refine sf_getR X ff_6_0 lk_288 hk (dkX6_readAtom (89, .getfield 24, 3) (pgm 43 rfl)) ?_
      refine so_ldcS (n := 16) (tx := "on") X (pgm 16 rfl) (dkX6_readAtom (92, .ldc 194, 2) (pgm 44 rfl)) ?_
      refine so_callV (n := 1) (As := [.ref (200 + 16)]) X (ct_X9_at l (rt this 0) 16 h5 (fo (rk_6_0 this hk)) (by decide : 16 < NS)) (fo (rk_6_0 this hk)) (by decide) rfl lk_967 lk_968 lk_969 lk_124 lk_970 (by decide +kernel) rfl rfl rfl (rm_ok (by omega) (by decide)) ⟨Nat.zero_le _, Nat.zero_le _⟩ (Nat.le_of_ble_eq_true rfl) (dkX6_readAtom (94, .invokevirtual 69, 3) (pgm 45 rfl)) (fun r7 h8 => ?_) rfl
      refine so_istore_n (i := 2) X (dkX6_readAtom (97, .istore_n 2, 1) (pgm 46 rfl)) rfl (by decide) (Lf := fun x9 => [(2, .int x9), (1, .int x6), (0, .ref this)]) (fun _ => rfl) (fun x9 => ?_)
      refine so_iload_n (i := 1) X 1 (dkX6_readAtom (98, .iload_n 1, 1) (pgm 47 rfl)) rfl rfl ?_
      refine so_join (jf := fun (h10 : PH) => cb (f_X9_advance (rt this 0) h10) (fun (r11 : Unit) (h12 : PH) => lt (fun (t13 : Int32) (h14 : PH) => cb (f_X6_takeNumber this (0 : Int32) (t13 - (1 : Int32)) h14) (fun (r15 : Int32) (h16 : PH) => if r15 = 0 then (zr (0 : Int32) h16) else (lt (fun (t17 : Int32) (h18 : PH) => lt t17 (fun (x19 : Int32) => lt (fun (y20 : Int32) (h21 : PH) => cb (f_X8_emit (rt this 1) (12 : Int32) y20 h21) (fun (r22 : Unit) (h23 : PH) => zr (1 : Int32) h23)) (fun (j231 : Int32 → PH → Option (Int32 × PH)) => if x6 = 0 then (j231 x19 h18) else (cb (f_X6_takeNumber this (0 : Int32) ((h18.1 (rt this 1) 2) - (1 : Int32)) h18) (fun (r24 : Int32) (h25 : PH) => if r24 = 0 then (zr (0 : Int32) h25) else (cb (f_X8_cellsOnDay (rt this 1) (h25.1 this 9) h25) (fun (r26 : Int32) (h27 : PH) => lt (x19 &&& r26) (fun (x28 : Int32) => j231 x28 h27)))))))) (fun (j193 : Int32 → PH → Option (Int32 × PH)) => if x9 = 0 then (cb (f_X8_cellsOfParish (rt this 1) (h16.1 this 9) h16) (fun (r29 : Int32) (h30 : PH) => j193 r29 h30)) else (cb (f_X8_cellsOnDay (rt this 1) (h16.1 this 9) h16) (fun (r31 : Int32) (h32 : PH) => j193 r31 h32)))))) (fun (j154 : Int32 → PH → Option (Int32 × PH)) => if x9 = 0 then (j154 (h12.1 (rt this 1) 1) h12) else (j154 (h12.1 (rt this 1) 2) h12)))) (fun (j : PH → Option (Int32 × PH)) => ∀  (h10 : PH), SWo (QM mkI below args s D cA ad A) p l e (rmd 6) s m args below meth c 0 0 4 D cA ad A 124 [(0, .ref this), (1, .int x6), (2, .int x9)] [] h10 (j h10)) ?_ (fun j124 hj124 => ?_)
      · intro h10
        refine so_aload_n (i := 0) X 0 (dkX6_readAtom (124, .aload_n 0, 1) (pgm 60 rfl)) rfl rfl ?_
        refine sf_getR X ff_6_0 lk_288 hk (dkX6_readAtom (125, .getfield 24, 3) (pgm 61 rfl)) ?_
        refine so_callV (n := 0) (As := []) X (ct_X9_advance l (rt this 0) h10 (fo (rk_6_0 this hk))) (fo (rk_6_0 this hk)) (by decide) rfl lk_996 lk_864 lk_865 lk_124 lk_866 (by decide +kernel) rfl rfl rfl (rm_ok (by omega) (by decide)) ⟨Nat.zero_le _, Nat.zero_le _⟩ (Nat.le_of_ble_eq_true rfl) (dkX6_readAtom (128, .invokevirtual 77, 3) (pgm 62 rfl)) (fun r11 h12 => ?_) rfl
        refine so_aload_n (i := 0) X 0 (dkX6_readAtom (131, .aload_n 0, 1) (pgm 63 rfl)) rfl rfl ?_
        refine so_iconst (v := (0 : Int32)) X (dkX6_readAtom (132, .iconst 0, 1) (pgm 64 rfl)) ic_0 ?_
        refine so_iload_n (i := 2) X 2 (dkX6_readAtom (133, .iload_n 2, 1) (pgm 65 rfl)) rfl rfl ?_
        refine so_join (jf := fun (t13 : Int32) (h14 : PH) => cb (f_X6_takeNumber this (0 : Int32) (t13 - (1 : Int32)) h14) (fun (r15 : Int32) (h16 : PH) => if r15 = 0 then (zr (0 : Int32) h16) else (lt (fun (t17 : Int32) (h18 : PH) => lt t17 (fun (x19 : Int32) => lt (fun (y20 : Int32) (h21 : PH) => cb (f_X8_emit (rt this 1) (12 : Int32) y20 h21) (fun (r22 : Unit) (h23 : PH) => zr (1 : Int32) h23)) (fun (j231 : Int32 → PH → Option (Int32 × PH)) => if x6 = 0 then (j231 x19 h18) else (cb (f_X6_takeNumber this (0 : Int32) ((h18.1 (rt this 1) 2) - (1 : Int32)) h18) (fun (r24 : Int32) (h25 : PH) => if r24 = 0 then (zr (0 : Int32) h25) else (cb (f_X8_cellsOnDay (rt this 1) (h25.1 this 9) h25) (fun (r26 : Int32) (h27 : PH) => lt (x19 &&& r26) (fun (x28 : Int32) => j231 x28 h27)))))))) (fun (j193 : Int32 → PH → Option (Int32 × PH)) => if x9 = 0 then (cb (f_X8_cellsOfParish (rt this 1) (h16.1 this 9) h16) (fun (r29 : Int32) (h30 : PH) => j193 r29 h30)) else (cb (f_X8_cellsOnDay (rt this 1) (h16.1 this 9) h16) (fun (r31 : Int32) (h32 : PH) => j193 r31 h32)))))) (fun (j : Int32 → PH → Option (Int32 × PH)) => ∀ (t13 : Int32) (h14 : PH), SWo (QM mkI below args s D cA ad A) p l e (rmd 6) s m args below meth c 0 0 4 D cA ad A 154 [(0, .ref this), (1, .int x6), (2, .int x9)] [.int t13, .int (0 : Int32), .ref this] h14 (j t13 h14)) ?_ (fun j154 hj154 => ?_)
        · intro t13 h14
          refine so_iconst (v := (1 : Int32)) X (dkX6_readAtom (154, .iconst 1, 1) (pgm 74 rfl)) ic_1 ?_
          refine so_isub X (dkX6_readAtom (155, .isub, 1) (pgm 75 rfl)) ?_
          refine so_callV (n := 2) (As := [.int (0 : Int32), .int (t13 - (1 : Int32))]) X (ct_X6_takeNumber l this (0 : Int32) (t13 - (1 : Int32)) h14 hk) hk (by decide) rfl lk_997 lk_999 lk_17 lk_123 lk_1000 (by decide +kernel) rfl rfl rfl (rm_ok (by omega) (by decide)) ⟨Nat.zero_le _, Nat.zero_le _⟩ (Nat.le_of_ble_eq_true rfl) (dkX6_readAtom (156, .invokevirtual 91, 3) (pgm 76 rfl)) (fun r15 h16 => ?_) rfl
          refine so_if_ne (tgt := 164) X (dkX6_readAtom (159, .ifCond .ne 5, 3) (pgm 77 rfl)) rfl (fun _ => ?_) (fun _ => ?_)
          · refine so_iload_n (i := 2) X 2 (dkX6_readAtom (164, .iload_n 2, 1) (pgm 80 rfl)) rfl rfl ?_
            refine so_join (jf := fun (t17 : Int32) (h18 : PH) => lt t17 (fun (x19 : Int32) => lt (fun (y20 : Int32) (h21 : PH) => cb (f_X8_emit (rt this 1) (12 : Int32) y20 h21) (fun (r22 : Unit) (h23 : PH) => zr (1 : Int32) h23)) (fun (j231 : Int32 → PH → Option (Int32 × PH)) => if x6 = 0 then (j231 x19 h18) else (cb (f_X6_takeNumber this (0 : Int32) ((h18.1 (rt this 1) 2) - (1 : Int32)) h18) (fun (r24 : Int32) (h25 : PH) => if r24 = 0 then (zr (0 : Int32) h25) else (cb (f_X8_cellsOnDay (rt this 1) (h25.1 this 9) h25) (fun (r26 : Int32) (h27 : PH) => lt (x19 &&& r26) (fun (x28 : Int32) => j231 x28 h27)))))))) (fun (j : Int32 → PH → Option (Int32 × PH)) => ∀ (t17 : Int32) (h18 : PH), SWo (QM mkI below args s D cA ad A) p l e (rmd 6) s m args below meth c 0 0 4 D cA ad A 193 [(0, .ref this), (1, .int x6)] [.int t17] h18 (j t17 h18)) ?_ (fun j193 hj193 => ?_)
            · intro t17 h18
              refine so_istore_n (i := 3) X (dkX6_readAtom (193, .istore_n 3, 1) (pgm 93 rfl)) rfl (by decide) (Lf := fun x19 => [(3, .int x19), (0, .ref this), (1, .int x6)]) (fun _ => rfl) (fun x19 => ?_)
              refine so_iload_n (i := 1) X 2 (dkX6_readAtom (194, .iload_n 1, 1) (pgm 94 rfl)) rfl rfl ?_
              refine so_join (jf := fun (y20 : Int32) (h21 : PH) => cb (f_X8_emit (rt this 1) (12 : Int32) y20 h21) (fun (r22 : Unit) (h23 : PH) => zr (1 : Int32) h23)) (fun (j : Int32 → PH → Option (Int32 × PH)) => ∀ (y20 : Int32) (h21 : PH), SWo (QM mkI below args s D cA ad A) p l e (rmd 6) s m args below meth c 0 0 4 D cA ad A 231 [(0, .ref this), (3, .int y20)] [] h21 (j y20 h21)) ?_ (fun j231 hj231 => ?_)
              · intro y20 h21
                refine so_aload_n (i := 0) X 0 (dkX6_readAtom (231, .aload_n 0, 1) (pgm 115 rfl)) rfl rfl ?_
                refine sf_getR X ff_6_1 lk_289 hk (dkX6_readAtom (232, .getfield 28, 3) (pgm 116 rfl)) ?_
                refine so_bipush (v := (12 : Int32)) X (dkX6_readAtom (235, .bipush 12, 2) (pgm 117 rfl)) bp_12 ?_
                refine so_iload_n (i := 3) X 1 (dkX6_readAtom (237, .iload_n 3, 1) (pgm 118 rfl)) rfl rfl ?_
                refine so_callV (n := 2) (As := [.int (12 : Int32), .int y20]) X (ct_X8_emit l (rt this 1) (12 : Int32) y20 h21 (fo (rk_6_1 this hk))) (fo (rk_6_1 this hk)) (by decide) rfl lk_1046 lk_1047 lk_1048 lk_122 lk_1049 (by decide +kernel) rfl rfl rfl (rm_ok (by omega) (by decide)) ⟨Nat.zero_le _, Nat.zero_le _⟩ (Nat.le_of_ble_eq_true rfl) (dkX6_readAtom (238, .invokevirtual 183, 3) (pgm 119 rfl)) (fun r22 h23 => ?_) rfl
                refine so_iconst (v := (1 : Int32)) X (dkX6_readAtom (241, .iconst 1, 1) (pgm 120 rfl)) ic_1 ?_
                exact so_zret X hr hlk (dkX6_readAtom (242, .ireturn, 1) (pgm 121 rfl))
              refine so_if_eq (tgt := 231) X (dkX6_readAtom (195, .ifCond .eq 36, 3) (pgm 95 rfl)) rfl (fun _ => ?_) (fun _ => ?_)
              · exact so_pick X [1, 0] rfl (hj231 x19 h18)
              · refine so_aload_n (i := 0) X 1 (dkX6_readAtom (198, .aload_n 0, 1) (pgm 96 rfl)) rfl rfl ?_
                refine so_iconst (v := (0 : Int32)) X (dkX6_readAtom (199, .iconst 0, 1) (pgm 97 rfl)) ic_0 ?_
                refine so_aload_n (i := 0) X 1 (dkX6_readAtom (200, .aload_n 0, 1) (pgm 98 rfl)) rfl rfl ?_
                refine sf_getR X ff_6_1 lk_289 hk (dkX6_readAtom (201, .getfield 28, 3) (pgm 99 rfl)) ?_
                refine sf_getI X ff_8_2 lk_171 (fo (rk_6_1 this hk)) (dkX6_readAtom (204, .getfield 104, 3) (pgm 100 rfl)) ?_
                refine so_iconst (v := (1 : Int32)) X (dkX6_readAtom (207, .iconst 1, 1) (pgm 101 rfl)) ic_1 ?_
                refine so_isub X (dkX6_readAtom (208, .isub, 1) (pgm 102 rfl)) ?_
                refine so_callV (n := 2) (As := [.int (0 : Int32), .int ((h18.1 (rt this 1) 2) - (1 : Int32))]) X (ct_X6_takeNumber l this (0 : Int32) ((h18.1 (rt this 1) 2) - (1 : Int32)) h18 hk) hk (by decide) rfl lk_997 lk_999 lk_17 lk_123 lk_1000 (by decide +kernel) rfl rfl rfl (rm_ok (by omega) (by decide)) ⟨Nat.zero_le _, Nat.zero_le _⟩ (Nat.le_of_ble_eq_true rfl) (dkX6_readAtom (209, .invokevirtual 91, 3) (pgm 103 rfl)) (fun r24 h25 => ?_) rfl
                refine so_if_ne (tgt := 217) X (dkX6_readAtom (212, .ifCond .ne 5, 3) (pgm 104 rfl)) rfl (fun _ => ?_) (fun _ => ?_)
                · refine so_iload_n (i := 3) X 0 (dkX6_readAtom (217, .iload_n 3, 1) (pgm 107 rfl)) rfl rfl ?_
                  refine so_aload_n (i := 0) X 1 (dkX6_readAtom (218, .aload_n 0, 1) (pgm 108 rfl)) rfl rfl ?_
                  refine sf_getR X ff_6_1 lk_289 hk (dkX6_readAtom (219, .getfield 28, 3) (pgm 109 rfl)) ?_
                  refine so_aload_n (i := 0) X 1 (dkX6_readAtom (222, .aload_n 0, 1) (pgm 110 rfl)) rfl rfl ?_
                  refine sf_getI X ff_6_9 lk_297 hk (dkX6_readAtom (223, .getfield 84, 3) (pgm 111 rfl)) ?_
                  refine so_callV (n := 1) (As := [.int (h25.1 this 9)]) X (ct_X8_cellsOnDay l (rt this 1) (h25.1 this 9) h25 (fo (rk_6_1 this hk))) (fo (rk_6_1 this hk)) (by decide) rfl lk_1054 lk_1055 lk_1056 lk_122 lk_1057 (by decide +kernel) rfl rfl rfl (rm_ok (by omega) (by decide)) ⟨Nat.zero_le _, Nat.zero_le _⟩ (Nat.le_of_ble_eq_true rfl) (dkX6_readAtom (226, .invokevirtual 198, 3) (pgm 112 rfl)) (fun r26 h27 => ?_) rfl
                  refine so_iand X (dkX6_readAtom (229, .iand, 1) (pgm 113 rfl)) ?_
                  refine so_istore_n (i := 3) X (dkX6_readAtom (230, .istore_n 3, 1) (pgm 114 rfl)) rfl (by decide) (Lf := fun x28 => [(3, .int x28), (0, .ref this), (1, .int x6)]) (fun _ => rfl) (fun x28 => ?_)
                  exact so_pick X [1, 0] rfl (hj231 x28 h27)
                · refine so_iconst (v := (0 : Int32)) X (dkX6_readAtom (215, .iconst 0, 1) (pgm 105 rfl)) ic_0 ?_
                  exact so_zret X hr hlk (dkX6_readAtom (216, .ireturn, 1) (pgm 106 rfl))
            refine so_if_eq (tgt := 182) X (dkX6_readAtom (165, .ifCond .eq 17, 3) (pgm 81 rfl)) rfl (fun _ => ?_) (fun _ => ?_)
            · refine so_aload_n (i := 0) X 0 (dkX6_readAtom (182, .aload_n 0, 1) (pgm 88 rfl)) rfl rfl ?_
              refine sf_getR X ff_6_1 lk_289 hk (dkX6_readAtom (183, .getfield 28, 3) (pgm 89 rfl)) ?_
              refine so_aload_n (i := 0) X 0 (dkX6_readAtom (186, .aload_n 0, 1) (pgm 90 rfl)) rfl rfl ?_
              refine sf_getI X ff_6_9 lk_297 hk (dkX6_readAtom (187, .getfield 84, 3) (pgm 91 rfl)) ?_
              refine so_callV (n := 1) (As := [.int (h16.1 this 9)]) X (ct_X8_cellsOfParish l (rt this 1) (h16.1 this 9) h16 (fo (rk_6_1 this hk))) (fo (rk_6_1 this hk)) (by decide) rfl lk_1058 lk_1059 lk_1060 lk_122 lk_1061 (by decide +kernel) rfl rfl rfl (rm_ok (by omega) (by decide)) ⟨Nat.zero_le _, Nat.zero_le _⟩ (Nat.le_of_ble_eq_true rfl) (dkX6_readAtom (190, .invokevirtual 202, 3) (pgm 92 rfl)) (fun r29 h30 => ?_) rfl
              exact so_pick X [0, 1] rfl (hj193 r29 h30)
            · refine so_aload_n (i := 0) X 0 (dkX6_readAtom (168, .aload_n 0, 1) (pgm 82 rfl)) rfl rfl ?_
              refine sf_getR X ff_6_1 lk_289 hk (dkX6_readAtom (169, .getfield 28, 3) (pgm 83 rfl)) ?_
              refine so_aload_n (i := 0) X 0 (dkX6_readAtom (172, .aload_n 0, 1) (pgm 84 rfl)) rfl rfl ?_
              refine sf_getI X ff_6_9 lk_297 hk (dkX6_readAtom (173, .getfield 84, 3) (pgm 85 rfl)) ?_
              refine so_callV (n := 1) (As := [.int (h16.1 this 9)]) X (ct_X8_cellsOnDay l (rt this 1) (h16.1 this 9) h16 (fo (rk_6_1 this hk))) (fo (rk_6_1 this hk)) (by decide) rfl lk_1054 lk_1055 lk_1056 lk_122 lk_1057 (by decide +kernel) rfl rfl rfl (rm_ok (by omega) (by decide)) ⟨Nat.zero_le _, Nat.zero_le _⟩ (Nat.le_of_ble_eq_true rfl) (dkX6_readAtom (176, .invokevirtual 198, 3) (pgm 86 rfl)) (fun r31 h32 => ?_) rfl
              refine so_goto (tgt := 193) X (dkX6_readAtom (179, .goto 14, 3) (pgm 87 rfl)) rfl ?_
              exact so_pick X [0, 1] rfl (hj193 r31 h32)
          · refine so_iconst (v := (0 : Int32)) X (dkX6_readAtom (162, .iconst 0, 1) (pgm 78 rfl)) ic_0 ?_
            exact so_zret X hr hlk (dkX6_readAtom (163, .ireturn, 1) (pgm 79 rfl))
        refine so_if_eq (tgt := 147) X (dkX6_readAtom (134, .ifCond .eq 13, 3) (pgm 66 rfl)) rfl (fun _ => ?_) (fun _ => ?_)
        · refine so_aload_n (i := 0) X 0 (dkX6_readAtom (147, .aload_n 0, 1) (pgm 71 rfl)) rfl rfl ?_
          refine sf_getR X ff_6_1 lk_289 hk (dkX6_readAtom (148, .getfield 28, 3) (pgm 72 rfl)) ?_
          refine sf_getI X ff_8_1 lk_168 (fo (rk_6_1 this hk)) (dkX6_readAtom (151, .getfield 95, 3) (pgm 73 rfl)) ?_
          exact so_pick X [0, 1, 2] rfl (hj154 (h12.1 (rt this 1) 1) h12)
        · refine so_aload_n (i := 0) X 0 (dkX6_readAtom (137, .aload_n 0, 1) (pgm 67 rfl)) rfl rfl ?_
          refine sf_getR X ff_6_1 lk_289 hk (dkX6_readAtom (138, .getfield 28, 3) (pgm 68 rfl)) ?_
          refine sf_getI X ff_8_2 lk_171 (fo (rk_6_1 this hk)) (dkX6_readAtom (141, .getfield 104, 3) (pgm 69 rfl)) ?_
          refine so_goto (tgt := 154) X (dkX6_readAtom (144, .goto 10, 3) (pgm 70 rfl)) rfl ?_
          exact so_pick X [0, 1, 2] rfl (hj154 (h12.1 (rt this 1) 2) h12)
      refine so_if_ne (tgt := 124) X (dkX6_readAtom (99, .ifCond .ne 25, 3) (pgm 48 rfl)) rfl (fun _ => ?_) (fun _ => ?_)
      · exact so_pick X [2, 1, 0] rfl (hj124 h8)
      · refine so_iload_n (i := 2) X 0 (dkX6_readAtom (102, .iload_n 2, 1) (pgm 49 rfl)) rfl rfl ?_
        refine so_if_ne (tgt := 124) X (dkX6_readAtom (103, .ifCond .ne 21, 3) (pgm 50 rfl)) rfl (fun _ => ?_) (fun _ => ?_)
        · exact so_pick X [2, 1, 0] rfl (hj124 h8)
        · refine so_aload_n (i := 0) X 2 (dkX6_readAtom (106, .aload_n 0, 1) (pgm 51 rfl)) rfl rfl ?_
          refine sf_getR X ff_6_0 lk_288 hk (dkX6_readAtom (107, .getfield 24, 3) (pgm 52 rfl)) ?_
          refine so_ldcS (n := 17) (tx := "of") X (pgm 17 rfl) (dkX6_readAtom (110, .ldc 196, 2) (pgm 53 rfl)) ?_
          refine so_callV (n := 1) (As := [.ref (200 + 17)]) X (ct_X9_at l (rt this 0) 17 h8 (fo (rk_6_0 this hk)) (by decide : 17 < NS)) (fo (rk_6_0 this hk)) (by decide) rfl lk_967 lk_968 lk_969 lk_124 lk_970 (by decide +kernel) rfl rfl rfl (rm_ok (by omega) (by decide)) ⟨Nat.zero_le _, Nat.zero_le _⟩ (Nat.le_of_ble_eq_true rfl) (dkX6_readAtom (112, .invokevirtual 69, 3) (pgm 54 rfl)) (fun r33 h34 => ?_) rfl
          refine so_if_ne (tgt := 124) X (dkX6_readAtom (115, .ifCond .ne 9, 3) (pgm 55 rfl)) rfl (fun _ => ?_) (fun _ => ?_)
          · exact so_pick X [2, 1, 0] rfl (hj124 h34)
          · refine so_aload_n (i := 0) X 2 (dkX6_readAtom (118, .aload_n 0, 1) (pgm 56 rfl)) rfl rfl ?_
            refine so_iconst (v := (2 : Int32)) X (dkX6_readAtom (119, .iconst 2, 1) (pgm 57 rfl)) ic_2 ?_
            refine so_callV (n := 1) (As := [.int (2 : Int32)]) X (ct_X6_refuse l this (2 : Int32) h34 hk) hk (by decide) rfl lk_992 lk_994 lk_16 lk_123 lk_995 (by decide +kernel) rfl rfl rfl (rm_ok (by omega) (by decide)) ⟨Nat.zero_le _, Nat.zero_le _⟩ (Nat.le_of_ble_eq_true rfl) (dkX6_readAtom (120, .invokevirtual 73, 3) (pgm 58 rfl)) (fun r35 h36 => ?_) rfl
            exact so_zret X hr hlk (dkX6_readAtom (123, .ireturn, 1) (pgm 59 rfl))
    · refine so_aload_n (i := 0) X 0 (dkX6_readAtom (53, .aload_n 0, 1) (pgm 25 rfl)) rfl rfl ?_
      refine sf_getR X ff_6_1 lk_289 hk (dkX6_readAtom (54, .getfield 28, 3) (pgm 26 rfl)) ?_
      refine so_bipush (v := (12 : Int32)) X (dkX6_readAtom (57, .bipush 12, 2) (pgm 27 rfl)) bp_12 ?_
      refine so_aload_n (i := 0) X 0 (dkX6_readAtom (59, .aload_n 0, 1) (pgm 28 rfl)) rfl rfl ?_
      refine sf_getR X ff_6_1 lk_289 hk (dkX6_readAtom (60, .getfield 28, 3) (pgm 29 rfl)) ?_
      refine sf_getI X ff_8_8 lk_201 (fo (rk_6_1 this hk)) (dkX6_readAtom (63, .getfield 189, 3) (pgm 30 rfl)) ?_
      refine so_callV (n := 2) (As := [.int (12 : Int32), .int (h3.1 (rt this 1) 8)]) X (ct_X8_emit l (rt this 1) (12 : Int32) (h3.1 (rt this 1) 8) h3 (fo (rk_6_1 this hk))) (fo (rk_6_1 this hk)) (by decide) rfl lk_1046 lk_1047 lk_1048 lk_122 lk_1049 (by decide +kernel) rfl rfl rfl (rm_ok (by omega) (by decide)) ⟨Nat.zero_le _, Nat.zero_le _⟩ (Nat.le_of_ble_eq_true rfl) (dkX6_readAtom (66, .invokevirtual 183, 3) (pgm 31 rfl)) (fun r37 h38 => ?_) rfl
      refine so_aload_n (i := 0) X 0 (dkX6_readAtom (69, .aload_n 0, 1) (pgm 32 rfl)) rfl rfl ?_
      refine sf_getR X ff_6_0 lk_288 hk (dkX6_readAtom (70, .getfield 24, 3) (pgm 33 rfl)) ?_
      refine so_callV (n := 0) (As := []) X (ct_X9_advance l (rt this 0) h38 (fo (rk_6_0 this hk))) (fo (rk_6_0 this hk)) (by decide) rfl lk_996 lk_864 lk_865 lk_124 lk_866 (by decide +kernel) rfl rfl rfl (rm_ok (by omega) (by decide)) ⟨Nat.zero_le _, Nat.zero_le _⟩ (Nat.le_of_ble_eq_true rfl) (dkX6_readAtom (73, .invokevirtual 77, 3) (pgm 34 rfl)) (fun r39 h40 => ?_) rfl
      refine so_iconst (v := (1 : Int32)) X (dkX6_readAtom (76, .iconst 1, 1) (pgm 35 rfl)) ic_1 ?_
      exact so_zret X hr hlk (dkX6_readAtom (77, .ireturn, 1) (pgm 36 rfl))
  · refine so_aload_n (i := 0) X 0 (dkX6_readAtom (16, .aload_n 0, 1) (pgm 8 rfl)) rfl rfl ?_
    refine sf_getR X ff_6_1 lk_289 hk (dkX6_readAtom (17, .getfield 28, 3) (pgm 9 rfl)) ?_
    refine so_bipush (v := (11 : Int32)) X (dkX6_readAtom (20, .bipush 11, 2) (pgm 10 rfl)) bp_11 ?_
    refine so_aload_n (i := 0) X 0 (dkX6_readAtom (22, .aload_n 0, 1) (pgm 11 rfl)) rfl rfl ?_
    refine sf_getR X ff_6_0 lk_288 hk (dkX6_readAtom (23, .getfield 24, 3) (pgm 12 rfl)) ?_
    refine so_callV (n := 0) (As := []) X (ct_X9_value l (rt this 0) h1 (fo (rk_6_0 this hk))) (fo (rk_6_0 this hk)) (by decide) rfl lk_1001 lk_1002 lk_1003 lk_124 lk_1004 (by decide +kernel) rfl rfl rfl (rm_ok (by omega) (by decide)) ⟨Nat.zero_le _, Nat.zero_le _⟩ (Nat.le_of_ble_eq_true rfl) (dkX6_readAtom (26, .invokevirtual 80, 3) (pgm 13 rfl)) (fun r41 h42 => ?_) rfl
    refine so_callV (n := 2) (As := [.int (11 : Int32), .int r41]) X (ct_X8_emit l (rt this 1) (11 : Int32) r41 h42 (fo (rk_6_1 this hk))) (fo (rk_6_1 this hk)) (by decide) rfl lk_1046 lk_1047 lk_1048 lk_122 lk_1049 (by decide +kernel) rfl rfl rfl (rm_ok (by omega) (by decide)) ⟨Nat.zero_le _, Nat.zero_le _⟩ (Nat.le_of_ble_eq_true rfl) (dkX6_readAtom (29, .invokevirtual 183, 3) (pgm 14 rfl)) (fun r43 h44 => ?_) rfl
    refine so_aload_n (i := 0) X 0 (dkX6_readAtom (32, .aload_n 0, 1) (pgm 15 rfl)) rfl rfl ?_
    refine sf_getR X ff_6_0 lk_288 hk (dkX6_readAtom (33, .getfield 24, 3) (pgm 16 rfl)) ?_
    refine so_callV (n := 0) (As := []) X (ct_X9_advance l (rt this 0) h44 (fo (rk_6_0 this hk))) (fo (rk_6_0 this hk)) (by decide) rfl lk_996 lk_864 lk_865 lk_124 lk_866 (by decide +kernel) rfl rfl rfl (rm_ok (by omega) (by decide)) ⟨Nat.zero_le _, Nat.zero_le _⟩ (Nat.le_of_ble_eq_true rfl) (dkX6_readAtom (36, .invokevirtual 77, 3) (pgm 17 rfl)) (fun r45 h46 => ?_) rfl
    refine so_iconst (v := (1 : Int32)) X (dkX6_readAtom (39, .iconst 1, 1) (pgm 18 rfl)) ic_1 ?_
    exact so_zret X hr hlk (dkX6_readAtom (40, .ireturn, 1) (pgm 19 rfl))
def pgX6_join : List (Nat × Instr × Nat) := [(0, .aload_n 0, 1), (1, .getstatic 240, 3), (4, .iload_n 1, 1), (5, .iaload, 1), (6, .invokevirtual 243, 3), (9, .aload_n 0, 1), (10, .iload_n 1, 1), (11, .iload_n 2, 1), (12, .invokevirtual 180, 3), (15, .ireturn, 1)]
theorem dkX6_join : ∀ q ∈ pgX6_join, decode cX6_join q.1 = .ok q.2 := by decide +kernel
def f_X6_join (this : Nat) (a1 : Int32) (a2 : Int32) (h0 : PH) : Option (Int32 × PH) :=
  ldT a1 (fun (x1 : Int32) => cb (f_X6_settleDownTo this x1 h0) (fun (r2 : Unit) (h3 : PH) => cb (f_X6_await this a1 a2 h3) (fun (r4 : Int32) (h5 : PH) => zr r4 h5)))
set_option maxRecDepth 100000 in
set_option maxHeartbeats 4000000 in
theorem ct_X6_join (l : Launch) (this : Nat) (a1 : Int32) (a2 : Int32) (h0 : PH) (hk : (kd this).1 = 6) : CT mkI l yX6_join cX6_join 3 (some .boolean) (rmd 6) [.ref this, .int a1, .int a2] h0 (f_X6_join this a1 a2 h0) := by
  refine ct_of (by decide) (Nat.le_of_ble_eq_true rfl) ?_
  intro p e s m args below meth c D cA ad A X hr hlk
  have X : Cx p s m args c RX6 cX6_join 3 D cA ad A := X
  unfold f_X6_join
  refine so_pick (L' := [(0, .ref this), (1, .int a1), (2, .int a2)]) X [0, 1, 2] rfl ?_
  refine so_aload_n (i := 0) X 0 (dkX6_join (0, .aload_n 0, 1) (pgm 0 rfl)) rfl rfl ?_
  refine so_tgS X lk_1077 (dkX6_join (1, .getstatic 240, 3) (pgm 1 rfl)) ?_
  refine so_iload_n (i := 1) X 1 (dkX6_join (4, .iload_n 1, 1) (pgm 2 rfl)) rfl rfl ?_
  refine so_tgI X (dkX6_join (5, .iaload, 1) (pgm 3 rfl)) (fun x1 => ?_)
  refine so_callV (n := 1) (As := [.int x1]) X (ct_X6_settleDownTo l this x1 h0 hk) hk (by decide) rfl lk_1079 lk_1081 lk_28 lk_123 lk_1082 (by decide +kernel) rfl rfl rfl (rm_ok (by omega) (by decide)) ⟨Nat.zero_le _, Nat.zero_le _⟩ (Nat.le_of_ble_eq_true rfl) (dkX6_join (6, .invokevirtual 243, 3) (pgm 4 rfl)) (fun r2 h3 => ?_) rfl
  refine so_aload_n (i := 0) X 0 (dkX6_join (9, .aload_n 0, 1) (pgm 5 rfl)) rfl rfl ?_
  refine so_iload_n (i := 1) X 1 (dkX6_join (10, .iload_n 1, 1) (pgm 6 rfl)) rfl rfl ?_
  refine so_iload_n (i := 2) X 2 (dkX6_join (11, .iload_n 2, 1) (pgm 7 rfl)) rfl rfl ?_
  refine so_callV (n := 2) (As := [.int a1, .int a2]) X (ct_X6_await l this a1 a2 h3 hk) hk (by decide) rfl lk_1036 lk_1038 lk_23 lk_123 lk_1039 (by decide +kernel) rfl rfl rfl (rm_ok (by omega) (by decide)) ⟨Nat.zero_le _, Nat.zero_le _⟩ (Nat.le_of_ble_eq_true rfl) (dkX6_join (12, .invokevirtual 180, 3) (pgm 8 rfl)) (fun r4 h5 => ?_) rfl
  exact so_zret X hr hlk (dkX6_join (15, .ireturn, 1) (pgm 9 rfl))
def pgX6_close : List (Nat × Instr × Nat) := [(0, .aload_n 0, 1), (1, .iconst 1, 1), (2, .invokevirtual 243, 3), (5, .aload_n 0, 1), (6, .getfield 150, 3), (9, .ifCond .le 13, 3), (12, .aload_n 0, 1), (13, .dup, 1), (14, .getfield 150, 3), (17, .iconst 1, 1), (18, .isub, 1), (19, .putfield 150, 3), (22, .aload_n 0, 1), (23, .dup, 1), (24, .getfield 153, 3), (27, .iconst 1, 1), (28, .isub, 1), (29, .putfield 153, 3), (32, .iload_n 1, 1), (33, .ifCond .ne 21, 3), (36, .aload_n 0, 1), (37, .dup, 1), (38, .getfield 156, 3), (41, .iconst 1, 1), (42, .isub, 1), (43, .putfield 156, 3), (46, .aload_n 0, 1), (47, .iconst 3, 1), (48, .putfield 40, 3), (51, .goto 18, 3), (54, .aload_n 0, 1), (55, .dup, 1), (56, .getfield 159, 3), (59, .iconst 1, 1), (60, .isub, 1), (61, .putfield 159, 3), (64, .aload_n 0, 1), (65, .iconst 4, 1), (66, .putfield 40, 3), (69, .aload_n 0, 1), (70, .getfield 24, 3), (73, .invokevirtual 77, 3), (76, .iconst 1, 1), (77, .ireturn, 1)]
theorem dkX6_close : ∀ q ∈ pgX6_close, decode cX6_close q.1 = .ok q.2 := by decide +kernel
def f_X6_close (this : Nat) (a1 : Int32) (h0 : PH) : Option (Int32 × PH) :=
  cb (f_X6_settleDownTo this (1 : Int32) h0) (fun (r1 : Unit) (h2 : PH) => lt (fun (h3 : PH) => lt (pI h3 this 4 ((h3.1 this 4) - (1 : Int32))) (fun (h4 : PH) => lt (fun (h5 : PH) => cb (f_X9_advance (rt this 0) h5) (fun (r6 : Unit) (h7 : PH) => zr (1 : Int32) h7)) (fun (j69 : PH → Option (Int32 × PH)) => if a1 = 0 then (lt (pI h4 this 5 ((h4.1 this 5) - (1 : Int32))) (fun (h10 : PH) => lt (pI h10 this 8 (3 : Int32)) (fun (h11 : PH) => j69 h11))) else (lt (pI h4 this 6 ((h4.1 this 6) - (1 : Int32))) (fun (h8 : PH) => lt (pI h8 this 8 (4 : Int32)) (fun (h9 : PH) => j69 h9)))))) (fun (j22 : PH → Option (Int32 × PH)) => if (h2.1 this 3) ≤ 0 then (j22 h2) else (lt (pI h2 this 3 ((h2.1 this 3) - (1 : Int32))) (fun (h12 : PH) => j22 h12))))
set_option maxRecDepth 100000 in
set_option maxHeartbeats 4000000 in
theorem ct_X6_close (l : Launch) (this : Nat) (a1 : Int32) (h0 : PH) (hk : (kd this).1 = 6) : CT mkI l yX6_close cX6_close 2 (some .boolean) (rmd 5) [.ref this, .int a1] h0 (f_X6_close this a1 h0) := by
  refine ct_of (by decide) (Nat.le_of_ble_eq_true rfl) ?_
  intro p e s m args below meth c D cA ad A X hr hlk
  have X : Cx p s m args c RX6 cX6_close 2 D cA ad A := X
  unfold f_X6_close
  refine so_pick (L' := [(0, .ref this), (1, .int a1)]) X [0, 1] rfl ?_
  refine so_aload_n (i := 0) X 0 (dkX6_close (0, .aload_n 0, 1) (pgm 0 rfl)) rfl rfl ?_
  refine so_iconst (v := (1 : Int32)) X (dkX6_close (1, .iconst 1, 1) (pgm 1 rfl)) ic_1 ?_
  refine so_callV (n := 1) (As := [.int (1 : Int32)]) X (ct_X6_settleDownTo l this (1 : Int32) h0 hk) hk (by decide) rfl lk_1079 lk_1081 lk_28 lk_123 lk_1082 (by decide +kernel) rfl rfl rfl (rm_ok (by omega) (by decide)) ⟨Nat.zero_le _, Nat.zero_le _⟩ (Nat.le_of_ble_eq_true rfl) (dkX6_close (2, .invokevirtual 243, 3) (pgm 2 rfl)) (fun r1 h2 => ?_) rfl
  refine so_aload_n (i := 0) X 0 (dkX6_close (5, .aload_n 0, 1) (pgm 3 rfl)) rfl rfl ?_
  refine sf_getI X ff_6_3 lk_291 hk (dkX6_close (6, .getfield 150, 3) (pgm 4 rfl)) ?_
  refine so_join (jf := fun (h3 : PH) => lt (pI h3 this 4 ((h3.1 this 4) - (1 : Int32))) (fun (h4 : PH) => lt (fun (h5 : PH) => cb (f_X9_advance (rt this 0) h5) (fun (r6 : Unit) (h7 : PH) => zr (1 : Int32) h7)) (fun (j69 : PH → Option (Int32 × PH)) => if a1 = 0 then (lt (pI h4 this 5 ((h4.1 this 5) - (1 : Int32))) (fun (h10 : PH) => lt (pI h10 this 8 (3 : Int32)) (fun (h11 : PH) => j69 h11))) else (lt (pI h4 this 6 ((h4.1 this 6) - (1 : Int32))) (fun (h8 : PH) => lt (pI h8 this 8 (4 : Int32)) (fun (h9 : PH) => j69 h9)))))) (fun (j : PH → Option (Int32 × PH)) => ∀  (h3 : PH), SWo (QM mkI below args s D cA ad A) p l e (rmd 5) s m args below meth c 0 0 2 D cA ad A 22 [(0, .ref this), (1, .int a1)] [] h3 (j h3)) ?_ (fun j22 hj22 => ?_)
  · intro h3
    refine so_aload_n (i := 0) X 0 (dkX6_close (22, .aload_n 0, 1) (pgm 12 rfl)) rfl rfl ?_
    refine so_dup X (dkX6_close (23, .dup, 1) (pgm 13 rfl)) rfl ?_
    refine sf_getI X ff_6_4 lk_292 hk (dkX6_close (24, .getfield 153, 3) (pgm 14 rfl)) ?_
    refine so_iconst (v := (1 : Int32)) X (dkX6_close (27, .iconst 1, 1) (pgm 15 rfl)) ic_1 ?_
    refine so_isub X (dkX6_close (28, .isub, 1) (pgm 16 rfl)) ?_
    refine sf_putI X ff_6_4 ft_6 rfl lk_292 hk rfl rfl (dkX6_close (29, .putfield 153, 3) (pgm 17 rfl)) (fun h4 => ?_)
    refine so_iload_n (i := 1) X 1 (dkX6_close (32, .iload_n 1, 1) (pgm 18 rfl)) rfl rfl ?_
    refine so_join (jf := fun (h5 : PH) => cb (f_X9_advance (rt this 0) h5) (fun (r6 : Unit) (h7 : PH) => zr (1 : Int32) h7)) (fun (j : PH → Option (Int32 × PH)) => ∀  (h5 : PH), SWo (QM mkI below args s D cA ad A) p l e (rmd 5) s m args below meth c 0 0 2 D cA ad A 69 [(0, .ref this)] [] h5 (j h5)) ?_ (fun j69 hj69 => ?_)
    · intro h5
      refine so_aload_n (i := 0) X 0 (dkX6_close (69, .aload_n 0, 1) (pgm 39 rfl)) rfl rfl ?_
      refine sf_getR X ff_6_0 lk_288 hk (dkX6_close (70, .getfield 24, 3) (pgm 40 rfl)) ?_
      refine so_callV (n := 0) (As := []) X (ct_X9_advance l (rt this 0) h5 (fo (rk_6_0 this hk))) (fo (rk_6_0 this hk)) (by decide) rfl lk_996 lk_864 lk_865 lk_124 lk_866 (by decide +kernel) rfl rfl rfl (rm_ok (by omega) (by decide)) ⟨Nat.zero_le _, Nat.zero_le _⟩ (Nat.le_of_ble_eq_true rfl) (dkX6_close (73, .invokevirtual 77, 3) (pgm 41 rfl)) (fun r6 h7 => ?_) rfl
      refine so_iconst (v := (1 : Int32)) X (dkX6_close (76, .iconst 1, 1) (pgm 42 rfl)) ic_1 ?_
      exact so_zret X hr hlk (dkX6_close (77, .ireturn, 1) (pgm 43 rfl))
    refine so_if_ne (tgt := 54) X (dkX6_close (33, .ifCond .ne 21, 3) (pgm 19 rfl)) rfl (fun _ => ?_) (fun _ => ?_)
    · refine so_aload_n (i := 0) X 0 (dkX6_close (54, .aload_n 0, 1) (pgm 30 rfl)) rfl rfl ?_
      refine so_dup X (dkX6_close (55, .dup, 1) (pgm 31 rfl)) rfl ?_
      refine sf_getI X ff_6_6 lk_294 hk (dkX6_close (56, .getfield 159, 3) (pgm 32 rfl)) ?_
      refine so_iconst (v := (1 : Int32)) X (dkX6_close (59, .iconst 1, 1) (pgm 33 rfl)) ic_1 ?_
      refine so_isub X (dkX6_close (60, .isub, 1) (pgm 34 rfl)) ?_
      refine sf_putI X ff_6_6 ft_6 rfl lk_294 hk rfl rfl (dkX6_close (61, .putfield 159, 3) (pgm 35 rfl)) (fun h8 => ?_)
      refine so_aload_n (i := 0) X 0 (dkX6_close (64, .aload_n 0, 1) (pgm 36 rfl)) rfl rfl ?_
      refine so_iconst (v := (4 : Int32)) X (dkX6_close (65, .iconst 4, 1) (pgm 37 rfl)) ic_4 ?_
      refine sf_putI X ff_6_8 ft_6 rfl lk_296 hk rfl rfl (dkX6_close (66, .putfield 40, 3) (pgm 38 rfl)) (fun h9 => ?_)
      exact so_pick X [0] rfl (hj69 h9)
    · refine so_aload_n (i := 0) X 0 (dkX6_close (36, .aload_n 0, 1) (pgm 20 rfl)) rfl rfl ?_
      refine so_dup X (dkX6_close (37, .dup, 1) (pgm 21 rfl)) rfl ?_
      refine sf_getI X ff_6_5 lk_293 hk (dkX6_close (38, .getfield 156, 3) (pgm 22 rfl)) ?_
      refine so_iconst (v := (1 : Int32)) X (dkX6_close (41, .iconst 1, 1) (pgm 23 rfl)) ic_1 ?_
      refine so_isub X (dkX6_close (42, .isub, 1) (pgm 24 rfl)) ?_
      refine sf_putI X ff_6_5 ft_6 rfl lk_293 hk rfl rfl (dkX6_close (43, .putfield 156, 3) (pgm 25 rfl)) (fun h10 => ?_)
      refine so_aload_n (i := 0) X 0 (dkX6_close (46, .aload_n 0, 1) (pgm 26 rfl)) rfl rfl ?_
      refine so_iconst (v := (3 : Int32)) X (dkX6_close (47, .iconst 3, 1) (pgm 27 rfl)) ic_3 ?_
      refine sf_putI X ff_6_8 ft_6 rfl lk_296 hk rfl rfl (dkX6_close (48, .putfield 40, 3) (pgm 28 rfl)) (fun h11 => ?_)
      refine so_goto (tgt := 69) X (dkX6_close (51, .goto 18, 3) (pgm 29 rfl)) rfl ?_
      exact so_pick X [0] rfl (hj69 h11)
  refine so_if_le (tgt := 22) X (dkX6_close (9, .ifCond .le 13, 3) (pgm 5 rfl)) rfl (fun _ => ?_) (fun _ => ?_)
  · exact so_pick X [0, 1] rfl (hj22 h2)
  · refine so_aload_n (i := 0) X 0 (dkX6_close (12, .aload_n 0, 1) (pgm 6 rfl)) rfl rfl ?_
    refine so_dup X (dkX6_close (13, .dup, 1) (pgm 7 rfl)) rfl ?_
    refine sf_getI X ff_6_3 lk_291 hk (dkX6_close (14, .getfield 150, 3) (pgm 8 rfl)) ?_
    refine so_iconst (v := (1 : Int32)) X (dkX6_close (17, .iconst 1, 1) (pgm 9 rfl)) ic_1 ?_
    refine so_isub X (dkX6_close (18, .isub, 1) (pgm 10 rfl)) ?_
    refine sf_putI X ff_6_3 ft_6 rfl lk_291 hk rfl rfl (dkX6_close (19, .putfield 150, 3) (pgm 11 rfl)) (fun h12 => ?_)
    exact so_pick X [0, 1] rfl (hj22 h12)
def pgX6_endWish : List (Nat × Instr × Nat) := [(0, .aload_n 0, 1), (1, .iconst 1, 1), (2, .invokevirtual 243, 3), (5, .aload_n 0, 1), (6, .getfield 28, 3), (9, .dup, 1), (10, .getfield 128, 3), (13, .iconst 1, 1), (14, .iadd, 1), (15, .putfield 128, 3), (18, .aload_n 0, 1), (19, .getfield 28, 3), (22, .getfield 144, 3), (25, .aload_n 0, 1), (26, .getfield 28, 3), (29, .getfield 128, 3), (32, .aload_n 0, 1), (33, .getfield 28, 3), (36, .getfield 147, 3), (39, .iastore, 1), (40, .aload_n 0, 1), (41, .iconst 0, 1), (42, .putfield 40, 3), (45, .return_, 1)]
theorem dkX6_endWish : ∀ q ∈ pgX6_endWish, decode cX6_endWish q.1 = .ok q.2 := by decide +kernel
def f_X6_endWish (this : Nat) (h0 : PH) : Option (Unit × PH) :=
  cb (f_X6_settleDownTo this (1 : Int32) h0) (fun (r1 : Unit) (h2 : PH) => lt (pI h2 (rt this 1) 5 ((h2.1 (rt this 1) 5) + (1 : Int32))) (fun (h3 : PH) => stI h3 (rt (rt this 1) 14) 11 (h3.1 (rt this 1) 5) (h3.1 (rt this 1) 9) (fun (h4 : PH) => lt (pI h4 this 8 (0 : Int32)) (fun (h5 : PH) => some ((), h5)))))
set_option maxRecDepth 100000 in
set_option maxHeartbeats 4000000 in
theorem ct_X6_endWish (l : Launch) (this : Nat) (h0 : PH) (hk : (kd this).1 = 6) : CT mkV l yX6_endWish cX6_endWish 1 none (rmd 2) [.ref this] h0 (f_X6_endWish this h0) := by
  refine ct_of (by decide) (Nat.le_of_ble_eq_true rfl) ?_
  intro p e s m args below meth c D cA ad A X hr hlk
  have X : Cx p s m args c RX6 cX6_endWish 1 D cA ad A := X
  unfold f_X6_endWish
  refine so_pick (L' := [(0, .ref this)]) X [0] rfl ?_
  refine so_aload_n (i := 0) X 0 (dkX6_endWish (0, .aload_n 0, 1) (pgm 0 rfl)) rfl rfl ?_
  refine so_iconst (v := (1 : Int32)) X (dkX6_endWish (1, .iconst 1, 1) (pgm 1 rfl)) ic_1 ?_
  refine so_callV (n := 1) (As := [.int (1 : Int32)]) X (ct_X6_settleDownTo l this (1 : Int32) h0 hk) hk (by decide) rfl lk_1079 lk_1081 lk_28 lk_123 lk_1082 (by decide +kernel) rfl rfl rfl (rm_ok (by omega) (by decide)) ⟨Nat.zero_le _, Nat.zero_le _⟩ (Nat.le_of_ble_eq_true rfl) (dkX6_endWish (2, .invokevirtual 243, 3) (pgm 2 rfl)) (fun r1 h2 => ?_) rfl
  refine so_aload_n (i := 0) X 0 (dkX6_endWish (5, .aload_n 0, 1) (pgm 3 rfl)) rfl rfl ?_
  refine sf_getR X ff_6_1 lk_289 hk (dkX6_endWish (6, .getfield 28, 3) (pgm 4 rfl)) ?_
  refine so_dup X (dkX6_endWish (9, .dup, 1) (pgm 5 rfl)) rfl ?_
  refine sf_getI X ff_8_5 lk_186 (fo (rk_6_1 this hk)) (dkX6_endWish (10, .getfield 128, 3) (pgm 6 rfl)) ?_
  refine so_iconst (v := (1 : Int32)) X (dkX6_endWish (13, .iconst 1, 1) (pgm 7 rfl)) ic_1 ?_
  refine so_iadd X (dkX6_endWish (14, .iadd, 1) (pgm 8 rfl)) ?_
  refine sf_putI X ff_8_5 ft_8 rfl lk_186 (fo (rk_6_1 this hk)) rfl rfl (dkX6_endWish (15, .putfield 128, 3) (pgm 9 rfl)) (fun h3 => ?_)
  refine so_aload_n (i := 0) X 0 (dkX6_endWish (18, .aload_n 0, 1) (pgm 10 rfl)) rfl rfl ?_
  refine sf_getR X ff_6_1 lk_289 hk (dkX6_endWish (19, .getfield 28, 3) (pgm 11 rfl)) ?_
  refine sf_getR X ff_8_14 lk_219 (fo (rk_6_1 this hk)) (dkX6_endWish (22, .getfield 144, 3) (pgm 12 rfl)) ?_
  refine so_aload_n (i := 0) X 0 (dkX6_endWish (25, .aload_n 0, 1) (pgm 13 rfl)) rfl rfl ?_
  refine sf_getR X ff_6_1 lk_289 hk (dkX6_endWish (26, .getfield 28, 3) (pgm 14 rfl)) ?_
  refine sf_getI X ff_8_5 lk_186 (fo (rk_6_1 this hk)) (dkX6_endWish (29, .getfield 128, 3) (pgm 15 rfl)) ?_
  refine so_aload_n (i := 0) X 0 (dkX6_endWish (32, .aload_n 0, 1) (pgm 16 rfl)) rfl rfl ?_
  refine sf_getR X ff_6_1 lk_289 hk (dkX6_endWish (33, .getfield 28, 3) (pgm 17 rfl)) ?_
  refine sf_getI X ff_8_9 lk_204 (fo (rk_6_1 this hk)) (dkX6_endWish (36, .getfield 147, 3) (pgm 18 rfl)) ?_
  refine so_iast X (rk_8_14 (rt this 1) (fo (rk_6_1 this hk))) (dkX6_endWish (39, .iastore, 1) (pgm 19 rfl)) (fun h4 => ?_)
  refine so_aload_n (i := 0) X 0 (dkX6_endWish (40, .aload_n 0, 1) (pgm 20 rfl)) rfl rfl ?_
  refine so_iconst (v := (0 : Int32)) X (dkX6_endWish (41, .iconst 0, 1) (pgm 21 rfl)) ic_0 ?_
  refine sf_putI X ff_6_8 ft_6 rfl lk_296 hk rfl rfl (dkX6_endWish (42, .putfield 40, 3) (pgm 22 rfl)) (fun h5 => ?_)
  exact so_vret X hr hlk (dkX6_endWish (45, .return_, 1) (pgm 23 rfl))
def pgX7_firstOf : List (Nat × Instr × Nat) := [(0, .iconst (-1), 1), (1, .istore_n 3, 1), (2, .iconst 0, 1), (3, .istore 4, 2), (5, .iconst 0, 1), (6, .istore 5, 2), (8, .iload 5, 2), (10, .aload_n 0, 1), (11, .getfield 18, 3), (14, .getfield 60, 3), (17, .if_icmp .ge 47, 3), (20, .iload_n 1, 1), (21, .iload 5, 2), (23, .ishr, 1), (24, .iconst 1, 1), (25, .iand, 1), (26, .iconst 1, 1), (27, .if_icmp .ne 31, 3), (30, .aload_n 0, 1), (31, .iload 5, 2), (33, .iload_n 2, 1), (34, .invokevirtual 72, 3), (37, .istore 6, 2), (39, .iload_n 3, 1), (40, .iconst (-1), 1), (41, .if_icmp .eq 10, 3), (44, .iload 6, 2), (46, .iload 4, 2), (48, .if_icmp .ge 10, 3), (51, .iload 5, 2), (53, .istore_n 3, 1), (54, .iload 6, 2), (56, .istore 4, 2), (58, .iinc 5 1, 3), (61, .goto (-53), 3), (64, .iload_n 3, 1), (65, .ireturn, 1)]
theorem dkX7_firstOf : ∀ q ∈ pgX7_firstOf, decode cX7_firstOf q.1 = .ok q.2 := by decide +kernel
def b_X7_firstOf_8 (this : Nat) (a1 : Int32) (a2 : Int32) (rec8 : (Int32 × Int32 × Int32) → PH → Option (Int32 × PH)) (s8 : Int32 × Int32 × Int32) (hh8 : PH) : Option (Int32 × PH) :=
  if (hh8.1 (rt this 0) 5) ≤ s8.2.2 then (some (s8.1, hh8)) else (lt (fun (y4 : Int32) (y5 : Int32) (h6 : PH) => lt (s8.2.2 + Int32.ofInt 1) (fun (x7 : Int32) => rec8 (y4, y5, x7) h6)) (fun (j58 : Int32 → Int32 → PH → Option (Int32 × PH)) => if ((a1 >>> (s8.2.2 &&& 31)) &&& (1 : Int32)) = (1 : Int32) then (cb (f_X7_turnOf this s8.2.2 a2 hh8) (fun (r8 : Int32) (h9 : PH) => lt r8 (fun (x10 : Int32) => lt (fun (h11 : PH) => lt s8.2.2 (fun (x12 : Int32) => lt x10 (fun (x13 : Int32) => j58 x12 x13 h11))) (fun (j51 : PH → Option (Int32 × PH)) => if s8.1 = (-1 : Int32) then (j51 h9) else (if s8.2.1 ≤ x10 then (j58 s8.1 s8.2.1 h9) else (j51 h9)))))) else (j58 s8.1 s8.2.1 hh8)))
def f_X7_firstOf (this : Nat) (a1 : Int32) (a2 : Int32) (h0 : PH) : Option (Int32 × PH) :=
  lt (-1 : Int32) (fun (x1 : Int32) => lt (0 : Int32) (fun (x2 : Int32) => lt (0 : Int32) (fun (x3 : Int32) => lp (b_X7_firstOf_8 this a1 a2) FU (x1, x2, x3) h0)))
set_option maxRecDepth 100000 in
set_option maxHeartbeats 4000000 in
theorem ct_X7_firstOf (l : Launch) (this : Nat) (a1 : Int32) (a2 : Int32) (h0 : PH) (hk : (kd this).1 = 7) : CT mkI l yX7_firstOf cX7_firstOf 7 (some .int) (rmd 2) [.ref this, .int a1, .int a2] h0 (f_X7_firstOf this a1 a2 h0) := by
  refine ct_of (by decide) (Nat.le_of_ble_eq_true rfl) ?_
  intro p e s m args below meth c D cA ad A X hr hlk
  have X : Cx p s m args c RX7 cX7_firstOf 7 D cA ad A := X
  unfold f_X7_firstOf
  refine so_pick (L' := [(0, .ref this), (1, .int a1), (2, .int a2)]) X [0, 1, 2] rfl ?_
  refine so_iconst (v := (-1 : Int32)) X (dkX7_firstOf (0, .iconst (-1), 1) (pgm 0 rfl)) ic_m1 ?_
  refine so_istore_n (i := 3) X (dkX7_firstOf (1, .istore_n 3, 1) (pgm 1 rfl)) rfl (by decide) (Lf := fun x1 => [(3, .int x1), (0, .ref this), (1, .int a1), (2, .int a2)]) (fun _ => rfl) (fun x1 => ?_)
  refine so_iconst (v := (0 : Int32)) X (dkX7_firstOf (2, .iconst 0, 1) (pgm 2 rfl)) ic_0 ?_
  refine so_istore (i := 4) X (dkX7_firstOf (3, .istore 4, 2) (pgm 3 rfl)) (by decide) (Lf := fun x2 => [(4, .int x2), (3, .int x1), (0, .ref this), (1, .int a1), (2, .int a2)]) (fun _ => rfl) (fun x2 => ?_)
  refine so_iconst (v := (0 : Int32)) X (dkX7_firstOf (5, .iconst 0, 1) (pgm 4 rfl)) ic_0 ?_
  refine so_istore (i := 5) X (dkX7_firstOf (6, .istore 5, 2) (pgm 5 rfl)) (by decide) (Lf := fun x3 => [(5, .int x3), (4, .int x2), (3, .int x1), (0, .ref this), (1, .int a1), (2, .int a2)]) (fun _ => rfl) (fun x3 => ?_)
  refine so_pick (L' := [(0, .ref this), (1, .int a1), (2, .int a2), (3, .int x1), (4, .int x2), (5, .int x3)]) X [3, 4, 5, 2, 1, 0] rfl ?_
  refine so_loop (body := b_X7_firstOf_8 this a1 a2) (fun (s8 : Int32 × Int32 × Int32) => [(0, .ref this), (1, .int a1), (2, .int a2), (3, .int s8.1), (4, .int s8.2.1), (5, .int s8.2.2)]) (fun rec8 hrec8 s8 hh8 => ?_) FU (x1, x2, x3) h0
  unfold b_X7_firstOf_8
  refine so_iload (i := 5) X 5 (dkX7_firstOf (8, .iload 5, 2) (pgm 6 rfl)) rfl ?_
  refine so_aload_n (i := 0) X 0 (dkX7_firstOf (10, .aload_n 0, 1) (pgm 7 rfl)) rfl rfl ?_
  refine sf_getR X ff_7_0 lk_424 hk (dkX7_firstOf (11, .getfield 18, 3) (pgm 8 rfl)) ?_
  refine sf_getI X ff_8_5 lk_182 (fo (rk_7_0 this hk)) (dkX7_firstOf (14, .getfield 60, 3) (pgm 9 rfl)) ?_
  refine so_icmp_ge (tgt := 64) X (dkX7_firstOf (17, .if_icmp .ge 47, 3) (pgm 10 rfl)) rfl (fun _ => ?_) (fun _ => ?_)
  · refine so_iload_n (i := 3) X 3 (dkX7_firstOf (64, .iload_n 3, 1) (pgm 35 rfl)) rfl rfl ?_
    exact so_iret X hr hlk (dkX7_firstOf (65, .ireturn, 1) (pgm 36 rfl))
  · refine so_iload_n (i := 1) X 1 (dkX7_firstOf (20, .iload_n 1, 1) (pgm 11 rfl)) rfl rfl ?_
    refine so_iload (i := 5) X 5 (dkX7_firstOf (21, .iload 5, 2) (pgm 12 rfl)) rfl ?_
    refine so_ishr X (dkX7_firstOf (23, .ishr, 1) (pgm 13 rfl)) ?_
    refine so_iconst (v := (1 : Int32)) X (dkX7_firstOf (24, .iconst 1, 1) (pgm 14 rfl)) ic_1 ?_
    refine so_iand X (dkX7_firstOf (25, .iand, 1) (pgm 15 rfl)) ?_
    refine so_iconst (v := (1 : Int32)) X (dkX7_firstOf (26, .iconst 1, 1) (pgm 16 rfl)) ic_1 ?_
    refine so_join (jf := fun (y4 : Int32) (y5 : Int32) (h6 : PH) => lt (s8.2.2 + Int32.ofInt 1) (fun (x7 : Int32) => rec8 (y4, y5, x7) h6)) (fun (j : Int32 → Int32 → PH → Option (Int32 × PH)) => ∀ (y4 : Int32) (y5 : Int32) (h6 : PH), SWo (QM mkI below args s D cA ad A) p l e (rmd 2) s m args below meth c 0 0 7 D cA ad A 58 [(0, .ref this), (1, .int a1), (2, .int a2), (3, .int y4), (4, .int y5), (5, .int s8.2.2)] [] h6 (j y4 y5 h6)) ?_ (fun j58 hj58 => ?_)
    · intro y4 y5 h6
      refine so_iinc (i := 5) X 5 (dkX7_firstOf (58, .iinc 5 1, 3) (pgm 33 rfl)) rfl rfl (by decide) (Lf := fun x7 => [(5, .int x7), (0, .ref this), (1, .int a1), (2, .int a2), (3, .int y4), (4, .int y5)]) (fun _ => rfl) (fun x7 => ?_)
      refine so_goto (tgt := 8) X (dkX7_firstOf (61, .goto (-53), 3) (pgm 34 rfl)) rfl ?_
      exact so_pick X [1, 2, 3, 4, 5, 0] rfl (hrec8 (y4, y5, x7) h6)
    refine so_icmp_ne (tgt := 58) X (dkX7_firstOf (27, .if_icmp .ne 31, 3) (pgm 17 rfl)) rfl (fun _ => ?_) (fun _ => ?_)
    · exact so_pick X [0, 1, 2, 3, 4, 5] rfl (hj58 s8.1 s8.2.1 hh8)
    · refine so_aload_n (i := 0) X 0 (dkX7_firstOf (30, .aload_n 0, 1) (pgm 18 rfl)) rfl rfl ?_
      refine so_iload (i := 5) X 5 (dkX7_firstOf (31, .iload 5, 2) (pgm 19 rfl)) rfl ?_
      refine so_iload_n (i := 2) X 2 (dkX7_firstOf (33, .iload_n 2, 1) (pgm 20 rfl)) rfl rfl ?_
      refine so_callV (n := 2) (As := [.int s8.2.2, .int a2]) X (ct_X7_turnOf l this s8.2.2 a2 hh8 hk) hk (by decide) rfl lk_727 lk_729 lk_9 lk_129 lk_730 (by decide +kernel) rfl rfl rfl (rm_ok (by omega) (by decide)) ⟨Nat.zero_le _, Nat.zero_le _⟩ (Nat.le_of_ble_eq_true rfl) (dkX7_firstOf (34, .invokevirtual 72, 3) (pgm 21 rfl)) (fun r8 h9 => ?_) rfl
      refine so_istore (i := 6) X (dkX7_firstOf (37, .istore 6, 2) (pgm 22 rfl)) (by decide) (Lf := fun x10 => [(6, .int x10), (0, .ref this), (1, .int a1), (2, .int a2), (3, .int s8.1), (4, .int s8.2.1), (5, .int s8.2.2)]) (fun _ => rfl) (fun x10 => ?_)
      refine so_iload_n (i := 3) X 4 (dkX7_firstOf (39, .iload_n 3, 1) (pgm 23 rfl)) rfl rfl ?_
      refine so_iconst (v := (-1 : Int32)) X (dkX7_firstOf (40, .iconst (-1), 1) (pgm 24 rfl)) ic_m1 ?_
      refine so_join (jf := fun (h11 : PH) => lt s8.2.2 (fun (x12 : Int32) => lt x10 (fun (x13 : Int32) => j58 x12 x13 h11))) (fun (j : PH → Option (Int32 × PH)) => ∀  (h11 : PH), SWo (QM mkI below args s D cA ad A) p l e (rmd 2) s m args below meth c 0 0 7 D cA ad A 51 [(0, .ref this), (1, .int a1), (2, .int a2), (5, .int s8.2.2), (6, .int x10)] [] h11 (j h11)) ?_ (fun j51 hj51 => ?_)
      · intro h11
        refine so_iload (i := 5) X 3 (dkX7_firstOf (51, .iload 5, 2) (pgm 29 rfl)) rfl ?_
        refine so_istore_n (i := 3) X (dkX7_firstOf (53, .istore_n 3, 1) (pgm 30 rfl)) rfl (by decide) (Lf := fun x12 => [(3, .int x12), (0, .ref this), (1, .int a1), (2, .int a2), (5, .int s8.2.2), (6, .int x10)]) (fun _ => rfl) (fun x12 => ?_)
        refine so_iload (i := 6) X 5 (dkX7_firstOf (54, .iload 6, 2) (pgm 31 rfl)) rfl ?_
        refine so_istore (i := 4) X (dkX7_firstOf (56, .istore 4, 2) (pgm 32 rfl)) (by decide) (Lf := fun x13 => [(4, .int x13), (3, .int x12), (0, .ref this), (1, .int a1), (2, .int a2), (5, .int s8.2.2), (6, .int x10)]) (fun _ => rfl) (fun x13 => ?_)
        exact so_pick X [2, 3, 4, 1, 0, 5] rfl (hj58 x12 x13 h11)
      refine so_icmp_eq (tgt := 51) X (dkX7_firstOf (41, .if_icmp .eq 10, 3) (pgm 25 rfl)) rfl (fun _ => ?_) (fun _ => ?_)
      · exact so_pick X [1, 2, 3, 6, 0] rfl (hj51 h9)
      · refine so_iload (i := 6) X 0 (dkX7_firstOf (44, .iload 6, 2) (pgm 26 rfl)) rfl ?_
        refine so_iload (i := 4) X 5 (dkX7_firstOf (46, .iload 4, 2) (pgm 27 rfl)) rfl ?_
        refine so_icmp_ge (tgt := 58) X (dkX7_firstOf (48, .if_icmp .ge 10, 3) (pgm 28 rfl)) rfl (fun _ => ?_) (fun _ => ?_)
        · exact so_pick X [1, 2, 3, 4, 5, 6] rfl (hj58 s8.1 s8.2.1 h9)
        · exact so_pick X [1, 2, 3, 6, 0] rfl (hj51 h9)
def pgX9_begin : List (Nat × Instr × Nat) := [(0, .aload_n 0, 1), (1, .iload_n 1, 1), (2, .putfield 13, 3), (5, .aload_n 0, 1), (6, .iconst 0, 1), (7, .putfield 17, 3), (10, .aload_n 0, 1), (11, .invokevirtual 20, 3), (14, .return_, 1)]
theorem dkX9_begin : ∀ q ∈ pgX9_begin, decode cX9_begin q.1 = .ok q.2 := by decide +kernel
def f_X9_begin (this : Nat) (a1 : Int32) (h0 : PH) : Option (Unit × PH) :=
  lt (pI h0 this 1 a1) (fun (h1 : PH) => lt (pI h1 this 2 (0 : Int32)) (fun (h2 : PH) => cb (f_X9_advance this h2) (fun (r3 : Unit) (h4 : PH) => some ((), h4))))
set_option maxRecDepth 100000 in
set_option maxHeartbeats 4000000 in
theorem ct_X9_begin (l : Launch) (this : Nat) (a1 : Int32) (h0 : PH) (hk : (kd this).1 = 9) : CT mkV l yX9_begin cX9_begin 2 none (rmd 5) [.ref this, .int a1] h0 (f_X9_begin this a1 h0) := by
  refine ct_of (by decide) (Nat.le_of_ble_eq_true rfl) ?_
  intro p e s m args below meth c D cA ad A X hr hlk
  have X : Cx p s m args c RX9 cX9_begin 2 D cA ad A := X
  unfold f_X9_begin
  refine so_pick (L' := [(0, .ref this), (1, .int a1)]) X [0, 1] rfl ?_
  refine so_aload_n (i := 0) X 0 (dkX9_begin (0, .aload_n 0, 1) (pgm 0 rfl)) rfl rfl ?_
  refine so_iload_n (i := 1) X 1 (dkX9_begin (1, .iload_n 1, 1) (pgm 1 rfl)) rfl rfl ?_
  refine sf_putI X ff_9_1 ft_9 rfl lk_271 hk rfl rfl (dkX9_begin (2, .putfield 13, 3) (pgm 2 rfl)) (fun h1 => ?_)
  refine so_aload_n (i := 0) X 0 (dkX9_begin (5, .aload_n 0, 1) (pgm 3 rfl)) rfl rfl ?_
  refine so_iconst (v := (0 : Int32)) X (dkX9_begin (6, .iconst 0, 1) (pgm 4 rfl)) ic_0 ?_
  refine sf_putI X ff_9_2 ft_9 rfl lk_272 hk rfl rfl (dkX9_begin (7, .putfield 17, 3) (pgm 5 rfl)) (fun h2 => ?_)
  refine so_aload_n (i := 0) X 0 (dkX9_begin (10, .aload_n 0, 1) (pgm 6 rfl)) rfl rfl ?_
  refine so_callV (n := 0) (As := []) X (ct_X9_advance l this h2 hk) hk (by decide) rfl lk_863 lk_864 lk_865 lk_124 lk_866 (by decide +kernel) rfl rfl rfl (rm_ok (by omega) (by decide)) ⟨Nat.zero_le _, Nat.zero_le _⟩ (Nat.le_of_ble_eq_true rfl) (dkX9_begin (11, .invokevirtual 20, 3) (pgm 7 rfl)) (fun r3 h4 => ?_) rfl
  exact so_vret X hr hlk (dkX9_begin (14, .return_, 1) (pgm 8 rfl))
def pgX11_why : List (Nat × Instr × Nat) := [(0, .aload_n 0, 1), (1, .getfield 48, 3), (4, .iload_n 1, 1), (5, .i2l, 1), (6, .aload_n 0, 1), (7, .getfield 39, 3), (10, .getfield 165, 3), (13, .invokevirtual 186, 3), (16, .ireturn, 1)]
theorem dkX11_why : ∀ q ∈ pgX11_why, decode cX11_why q.1 = .ok q.2 := by decide +kernel
def f_X11_why (this : Nat) (a1 : Int32) (h0 : PH) : Option (Int32 × PH) :=
  cb (f_X3_whyNot (rt this 6) a1.toInt64 (h0.1 (rt this 5) 0) h0) (fun (r1 : Int32) (h2 : PH) => some (r1, h2))
set_option maxRecDepth 100000 in
set_option maxHeartbeats 4000000 in
theorem ct_X11_why (l : Launch) (this : Nat) (a1 : Int32) (h0 : PH) (hk : (kd this).1 = 11) : CT mkI l yX11_why cX11_why 2 (some .int) (rmd 4) [.ref this, .int a1] h0 (f_X11_why this a1 h0) := by
  refine ct_of (by decide) (Nat.le_of_ble_eq_true rfl) ?_
  intro p e s m args below meth c D cA ad A X hr hlk
  have X : Cx p s m args c RX11 cX11_why 2 D cA ad A := X
  unfold f_X11_why
  refine so_pick (L' := [(0, .ref this), (1, .int a1)]) X [0, 1] rfl ?_
  refine so_aload_n (i := 0) X 0 (dkX11_why (0, .aload_n 0, 1) (pgm 0 rfl)) rfl rfl ?_
  refine sf_getR X ff_11_6 lk_571 hk (dkX11_why (1, .getfield 48, 3) (pgm 1 rfl)) ?_
  refine so_iload_n (i := 1) X 1 (dkX11_why (4, .iload_n 1, 1) (pgm 2 rfl)) rfl rfl ?_
  refine so_i2l X (dkX11_why (5, .i2l, 1) (pgm 3 rfl)) ?_
  refine so_aload_n (i := 0) X 0 (dkX11_why (6, .aload_n 0, 1) (pgm 4 rfl)) rfl rfl ?_
  refine sf_getR X ff_11_5 lk_570 hk (dkX11_why (7, .getfield 39, 3) (pgm 5 rfl)) ?_
  refine sf_getI X ff_0_0 lk_338 (fo (rk_11_5 this hk)) (dkX11_why (10, .getfield 165, 3) (pgm 6 rfl)) ?_
  refine so_callV (n := 2) (As := [.long a1.toInt64, .int (h0.1 (rt this 5) 0)]) X (ct_X3_whyNot l (rt this 6) a1.toInt64 (h0.1 (rt this 5) 0) h0 (fo (rk_11_6 this hk))) (fo (rk_11_6 this hk)) (by decide) rfl lk_630 lk_631 lk_632 lk_126 lk_633 (by decide +kernel) rfl rfl rfl (rm_ok (by omega) (by decide)) ⟨Nat.zero_le _, Nat.zero_le _⟩ (Nat.le_of_ble_eq_true rfl) (dkX11_why (13, .invokevirtual 186, 3) (pgm 7 rfl)) (fun r1 h2 => ?_) rfl
  exact so_iret X hr hlk (dkX11_why (16, .ireturn, 1) (pgm 8 rfl))
def pgX11_makeNight : List (Nat × Instr × Nat) := [(0, .aload_n 0, 1), (1, .getfield 48, 3), (4, .iload_n 1, 1), (5, .aload_n 0, 1), (6, .getfield 39, 3), (9, .getfield 165, 3), (12, .invokevirtual 190, 3), (15, .istore_n 2, 1), (16, .aload_n 0, 1), (17, .getfield 39, 3), (20, .invokevirtual 354, 3), (23, .aload_n 0, 1), (24, .getfield 39, 3), (27, .iload_n 2, 1), (28, .aload_n 0, 1), (29, .getfield 20, 3), (32, .invokevirtual 357, 3), (35, .aload_n 0, 1), (36, .getfield 20, 3), (39, .iload_n 2, 1), (40, .invokevirtual 254, 3), (43, .ireturn, 1)]
theorem dkX11_makeNight : ∀ q ∈ pgX11_makeNight, decode cX11_makeNight q.1 = .ok q.2 := by decide +kernel
def f_X11_makeNight (this : Nat) (a1 : Int32) (h0 : PH) : Option (Int32 × PH) :=
  cb (f_X3_grantedBy (rt this 6) a1 (h0.1 (rt this 5) 0) h0) (fun (r1 : Int32) (h2 : PH) => lt r1 (fun (x3 : Int32) => cb (f_X0_remember (rt this 5) h2) (fun (r4 : Unit) (h5 : PH) => cb (f_X0_pass (rt this 5) x3 (rt this 2) h5) (fun (r6 : Unit) (h7 : PH) => cb (f_X8_weightOf (rt this 2) x3 h7) (fun (r8 : Int32) (h9 : PH) => some (r8, h9))))))
set_option maxRecDepth 100000 in
set_option maxHeartbeats 4000000 in
theorem ct_X11_makeNight (l : Launch) (this : Nat) (a1 : Int32) (h0 : PH) (hk : (kd this).1 = 11) : CT mkI l yX11_makeNight cX11_makeNight 3 (some .int) (rmd 4) [.ref this, .int a1] h0 (f_X11_makeNight this a1 h0) := by
  refine ct_of (by decide) (Nat.le_of_ble_eq_true rfl) ?_
  intro p e s m args below meth c D cA ad A X hr hlk
  have X : Cx p s m args c RX11 cX11_makeNight 3 D cA ad A := X
  unfold f_X11_makeNight
  refine so_pick (L' := [(0, .ref this), (1, .int a1)]) X [0, 1] rfl ?_
  refine so_aload_n (i := 0) X 0 (dkX11_makeNight (0, .aload_n 0, 1) (pgm 0 rfl)) rfl rfl ?_
  refine sf_getR X ff_11_6 lk_571 hk (dkX11_makeNight (1, .getfield 48, 3) (pgm 1 rfl)) ?_
  refine so_iload_n (i := 1) X 1 (dkX11_makeNight (4, .iload_n 1, 1) (pgm 2 rfl)) rfl rfl ?_
  refine so_aload_n (i := 0) X 0 (dkX11_makeNight (5, .aload_n 0, 1) (pgm 3 rfl)) rfl rfl ?_
  refine sf_getR X ff_11_5 lk_570 hk (dkX11_makeNight (6, .getfield 39, 3) (pgm 4 rfl)) ?_
  refine sf_getI X ff_0_0 lk_338 (fo (rk_11_5 this hk)) (dkX11_makeNight (9, .getfield 165, 3) (pgm 5 rfl)) ?_
  refine so_callV (n := 2) (As := [.int a1, .int (h0.1 (rt this 5) 0)]) X (ct_X3_grantedBy l (rt this 6) a1 (h0.1 (rt this 5) 0) h0 (fo (rk_11_6 this hk))) (fo (rk_11_6 this hk)) (by decide) rfl lk_752 lk_677 lk_678 lk_126 lk_679 (by decide +kernel) rfl rfl rfl (rm_ok (by omega) (by decide)) ⟨Nat.zero_le _, Nat.zero_le _⟩ (Nat.le_of_ble_eq_true rfl) (dkX11_makeNight (12, .invokevirtual 190, 3) (pgm 6 rfl)) (fun r1 h2 => ?_) rfl
  refine so_istore_n (i := 2) X (dkX11_makeNight (15, .istore_n 2, 1) (pgm 7 rfl)) rfl (by decide) (Lf := fun x3 => [(2, .int x3), (0, .ref this), (1, .int a1)]) (fun _ => rfl) (fun x3 => ?_)
  refine so_aload_n (i := 0) X 1 (dkX11_makeNight (16, .aload_n 0, 1) (pgm 8 rfl)) rfl rfl ?_
  refine sf_getR X ff_11_5 lk_570 hk (dkX11_makeNight (17, .getfield 39, 3) (pgm 9 rfl)) ?_
  refine so_callV (n := 0) (As := []) X (ct_X0_remember l (rt this 5) h2 (fo (rk_11_5 this hk))) (fo (rk_11_5 this hk)) (by decide) rfl lk_753 lk_754 lk_755 lk_125 lk_756 (by decide +kernel) rfl rfl rfl (rm_ok (by omega) (by decide)) ⟨Nat.zero_le _, Nat.zero_le _⟩ (Nat.le_of_ble_eq_true rfl) (dkX11_makeNight (20, .invokevirtual 354, 3) (pgm 10 rfl)) (fun r4 h5 => ?_) rfl
  refine so_aload_n (i := 0) X 1 (dkX11_makeNight (23, .aload_n 0, 1) (pgm 11 rfl)) rfl rfl ?_
  refine sf_getR X ff_11_5 lk_570 hk (dkX11_makeNight (24, .getfield 39, 3) (pgm 12 rfl)) ?_
  refine so_iload_n (i := 2) X 0 (dkX11_makeNight (27, .iload_n 2, 1) (pgm 13 rfl)) rfl rfl ?_
  refine so_aload_n (i := 0) X 1 (dkX11_makeNight (28, .aload_n 0, 1) (pgm 14 rfl)) rfl rfl ?_
  refine sf_getR X ff_11_2 lk_567 hk (dkX11_makeNight (29, .getfield 20, 3) (pgm 15 rfl)) ?_
  refine so_callV (n := 2) (As := [.int x3, .ref (rt this 2)]) X (ct_X0_pass l (rt this 5) x3 (rt this 2) h5 (fo (rk_11_5 this hk)) (fo (rk_11_2 this hk))) (fo (rk_11_5 this hk)) (by decide) rfl lk_758 lk_759 lk_760 lk_125 lk_761 (by decide +kernel) rfl rfl rfl (rm_ok (by omega) (by decide)) ⟨Nat.zero_le _, Nat.zero_le _⟩ (Nat.le_of_ble_eq_true rfl) (dkX11_makeNight (32, .invokevirtual 357, 3) (pgm 16 rfl)) (fun r6 h7 => ?_) rfl
  refine so_aload_n (i := 0) X 1 (dkX11_makeNight (35, .aload_n 0, 1) (pgm 17 rfl)) rfl rfl ?_
  refine sf_getR X ff_11_2 lk_567 hk (dkX11_makeNight (36, .getfield 20, 3) (pgm 18 rfl)) ?_
  refine so_iload_n (i := 2) X 0 (dkX11_makeNight (39, .iload_n 2, 1) (pgm 19 rfl)) rfl rfl ?_
  refine so_callV (n := 1) (As := [.int x3]) X (ct_X8_weightOf l (rt this 2) x3 h7 (fo (rk_11_2 this hk))) (fo (rk_11_2 this hk)) (by decide) rfl lk_740 lk_741 lk_742 lk_122 lk_743 (by decide +kernel) rfl rfl rfl (rm_ok (by omega) (by decide)) ⟨Nat.zero_le _, Nat.zero_le _⟩ (Nat.le_of_ble_eq_true rfl) (dkX11_makeNight (40, .invokevirtual 254, 3) (pgm 20 rfl)) (fun r8 h9 => ?_) rfl
  exact so_iret X hr hlk (dkX11_makeNight (43, .ireturn, 1) (pgm 21 rfl))
def pgX2_settle : List (Nat × Instr × Nat) := [(0, .aload_n 0, 1), (1, .aload_n 0, 1), (2, .getfield 25, 3), (5, .getfield 41, 3), (8, .putfield 37, 3), (11, .aload_n 0, 1), (12, .iconst 1, 1), (13, .putfield 33, 3), (16, .aload_n 0, 1), (17, .iconst 0, 1), (18, .putfield 47, 3), (21, .aload_n 0, 1), (22, .getfield 15, 3), (25, .iconst (-1), 1), (26, .invokestatic 50, 3), (29, .iconst 0, 1), (30, .istore_n 1, 1), (31, .iload_n 1, 1), (32, .aload_n 0, 1), (33, .getfield 21, 3), (36, .getfield 56, 3), (39, .if_icmp .gt 74, 3), (42, .aload_n 0, 1), (43, .getfield 29, 3), (46, .iload_n 1, 1), (47, .i2l, 1), (48, .aload_n 0, 1), (49, .getfield 37, 3), (52, .invokevirtual 61, 3), (55, .ifCond .ne 52, 3), (58, .aload_n 0, 1), (59, .getfield 9, 3), (62, .aload_n 0, 1), (63, .getfield 47, 3), (66, .iload_n 1, 1), (67, .iastore, 1), (68, .aload_n 0, 1), (69, .dup, 1), (70, .getfield 47, 3), (73, .iconst 1, 1), (74, .iadd, 1), (75, .putfield 47, 3), (78, .aload_n 0, 1), (79, .getfield 29, 3), (82, .iload_n 1, 1), (83, .aload_n 0, 1), (84, .getfield 37, 3), (87, .invokevirtual 67, 3), (90, .istore_n 2, 1), (91, .aload_n 0, 1), (92, .getfield 15, 3), (95, .iload_n 2, 1), (96, .aload_n 0, 1), (97, .getfield 15, 3), (100, .iload_n 2, 1), (101, .iaload, 1), (102, .iload_n 1, 1), (103, .invokestatic 71, 3), (106, .iastore, 1), (107, .iinc 1 1, 3), (110, .goto (-79), 3), (113, .aload_n 0, 1), (114, .invokevirtual 74, 3), (117, .return_, 1)]
theorem dkX2_settle : ∀ q ∈ pgX2_settle, decode cX2_settle q.1 = .ok q.2 := by decide +kernel
def b_X2_settle_31 (this : Nat) (j113 : PH → Option (Unit × PH)) (rec31 : (Int32) → PH → Option (Unit × PH)) (s31 : Int32) (hh31 : PH) : Option (Unit × PH) :=
  if (hh31.1 (rt this 0) 8) < s31 then (j113 hh31) else (cb (f_X3_whyNot (rt this 2) s31.toInt64 (hh31.1 this 7) hh31) (fun (r10 : Int32) (h11 : PH) => lt (fun (h12 : PH) => lt (s31 + Int32.ofInt 1) (fun (x13 : Int32) => rec31 x13 h12)) (fun (j107 : PH → Option (Unit × PH)) => if r10 = 0 then (stI h11 (rt this 3) 4096 (h11.1 this 4) s31 (fun (h14 : PH) => lt (pI h14 this 4 ((h14.1 this 4) + (1 : Int32))) (fun (h15 : PH) => cb (f_X3_grantedBy (rt this 2) s31 (h15.1 this 7) h15) (fun (r16 : Int32) (h17 : PH) => lt r16 (fun (x18 : Int32) => ldI h17 (rt this 5) 1024 x18 (fun (x19 : Int32) => cb (f_X2_lesser x19 s31 h17) (fun (r20 : Int32) (h21 : PH) => stI h21 (rt this 5) 1024 x18 r20 (fun (h22 : PH) => j107 h22)))))))) else (j107 h11))))
def f_X2_settle (this : Nat) (h0 : PH) : Option (Unit × PH) :=
  lt (pI h0 this 7 (h0.1 (rt this 1) 0)) (fun (h1 : PH) => lt (pI h1 this 8 (1 : Int32)) (fun (h2 : PH) => lt (pI h2 this 4 (0 : Int32)) (fun (h3 : PH) => cb (f_J7_fill_53178 (rt this 5) 1024 (-1 : Int32) h3) (fun (r4 : Unit) (h5 : PH) => lt (0 : Int32) (fun (x6 : Int32) => lt (fun (h7 : PH) => cb (f_X2_spread this h7) (fun (r8 : Unit) (h9 : PH) => some ((), h9))) (fun (j113 : PH → Option (Unit × PH)) => lp (b_X2_settle_31 this j113) FU x6 h5))))))
set_option maxRecDepth 100000 in
set_option maxHeartbeats 4000000 in
theorem ct_X2_settle (l : Launch) (this : Nat) (h0 : PH) (hk : (kd this).1 = 2) : CT mkV l yX2_settle cX2_settle 3 none (rmd 4) [.ref this] h0 (f_X2_settle this h0) := by
  refine ct_of (by decide) (Nat.le_of_ble_eq_true rfl) ?_
  intro p e s m args below meth c D cA ad A X hr hlk
  have X : Cx p s m args c RX2 cX2_settle 3 D cA ad A := X
  unfold f_X2_settle
  refine so_pick (L' := [(0, .ref this)]) X [0] rfl ?_
  refine so_aload_n (i := 0) X 0 (dkX2_settle (0, .aload_n 0, 1) (pgm 0 rfl)) rfl rfl ?_
  refine so_aload_n (i := 0) X 0 (dkX2_settle (1, .aload_n 0, 1) (pgm 1 rfl)) rfl rfl ?_
  refine sf_getR X ff_2_1 lk_387 hk (dkX2_settle (2, .getfield 25, 3) (pgm 2 rfl)) ?_
  refine sf_getI X ff_0_0 lk_336 (fo (rk_2_1 this hk)) (dkX2_settle (5, .getfield 41, 3) (pgm 3 rfl)) ?_
  refine sf_putI X ff_2_7 ft_2 rfl lk_397 hk rfl rfl (dkX2_settle (8, .putfield 37, 3) (pgm 4 rfl)) (fun h1 => ?_)
  refine so_aload_n (i := 0) X 0 (dkX2_settle (11, .aload_n 0, 1) (pgm 5 rfl)) rfl rfl ?_
  refine so_iconst (v := (1 : Int32)) X (dkX2_settle (12, .iconst 1, 1) (pgm 6 rfl)) ic_1 ?_
  refine sf_putI X ff_2_8 ft_2 rfl lk_398 hk rfl rfl (dkX2_settle (13, .putfield 33, 3) (pgm 7 rfl)) (fun h2 => ?_)
  refine so_aload_n (i := 0) X 0 (dkX2_settle (16, .aload_n 0, 1) (pgm 8 rfl)) rfl rfl ?_
  refine so_iconst (v := (0 : Int32)) X (dkX2_settle (17, .iconst 0, 1) (pgm 9 rfl)) ic_0 ?_
  refine sf_putI X ff_2_4 ft_2 rfl lk_392 hk rfl rfl (dkX2_settle (18, .putfield 47, 3) (pgm 10 rfl)) (fun h3 => ?_)
  refine so_aload_n (i := 0) X 0 (dkX2_settle (21, .aload_n 0, 1) (pgm 11 rfl)) rfl rfl ?_
  refine sf_getR X ff_2_5 lk_395 hk (dkX2_settle (22, .getfield 15, 3) (pgm 12 rfl)) ?_
  refine so_iconst (v := (-1 : Int32)) X (dkX2_settle (25, .iconst (-1), 1) (pgm 13 rfl)) ic_m1 ?_
  refine so_callS (n := 2) (As := [.ref (rt this 5), .int (-1 : Int32)]) X (ct_J7_fill_53178 l (rt this 5) 1024 (-1 : Int32) h3 (rk_2_5 this hk)) lk_674 lk_368 lk_127 lk_369 (by decide +kernel) rfl rfl rfl (rm_ok (by omega) (by decide)) ⟨Nat.zero_le _, Nat.zero_le _⟩ (Nat.le_of_ble_eq_true rfl) (dkX2_settle (26, .invokestatic 50, 3) (pgm 14 rfl)) (fun r4 h5 => ?_) rfl
  refine so_iconst (v := (0 : Int32)) X (dkX2_settle (29, .iconst 0, 1) (pgm 15 rfl)) ic_0 ?_
  refine so_istore_n (i := 1) X (dkX2_settle (30, .istore_n 1, 1) (pgm 16 rfl)) rfl (by decide) (Lf := fun x6 => [(1, .int x6), (0, .ref this)]) (fun _ => rfl) (fun x6 => ?_)
  refine so_join (jf := fun (h7 : PH) => cb (f_X2_spread this h7) (fun (r8 : Unit) (h9 : PH) => some ((), h9))) (fun (j : PH → Option (Unit × PH)) => ∀  (h7 : PH), SWo (QM mkV below args s D cA ad A) p l e (rmd 4) s m args below meth c 0 0 3 D cA ad A 113 [(0, .ref this)] [] h7 (j h7)) ?_ (fun j113 hj113 => ?_)
  · intro h7
    refine so_aload_n (i := 0) X 0 (dkX2_settle (113, .aload_n 0, 1) (pgm 61 rfl)) rfl rfl ?_
    refine so_callV (n := 0) (As := []) X (ct_X2_spread l this h7 hk) hk (by decide) rfl lk_684 lk_686 lk_3 lk_128 lk_687 (by decide +kernel) rfl rfl rfl (rm_ok (by omega) (by decide)) ⟨Nat.zero_le _, Nat.zero_le _⟩ (Nat.le_of_ble_eq_true rfl) (dkX2_settle (114, .invokevirtual 74, 3) (pgm 62 rfl)) (fun r8 h9 => ?_) rfl
    exact so_vret X hr hlk (dkX2_settle (117, .return_, 1) (pgm 63 rfl))
  refine so_pick (L' := [(0, .ref this), (1, .int x6)]) X [1, 0] rfl ?_
  refine so_loop (body := b_X2_settle_31 this j113) (fun (s31 : Int32) => [(0, .ref this), (1, .int s31)]) (fun rec31 hrec31 s31 hh31 => ?_) FU x6 h5
  unfold b_X2_settle_31
  refine so_iload_n (i := 1) X 1 (dkX2_settle (31, .iload_n 1, 1) (pgm 17 rfl)) rfl rfl ?_
  refine so_aload_n (i := 0) X 0 (dkX2_settle (32, .aload_n 0, 1) (pgm 18 rfl)) rfl rfl ?_
  refine sf_getR X ff_2_0 lk_386 hk (dkX2_settle (33, .getfield 21, 3) (pgm 19 rfl)) ?_
  refine sf_getI X ff_8_8 lk_199 (fo (rk_2_0 this hk)) (dkX2_settle (36, .getfield 56, 3) (pgm 20 rfl)) ?_
  refine so_icmp_gt (tgt := 113) X (dkX2_settle (39, .if_icmp .gt 74, 3) (pgm 21 rfl)) rfl (fun _ => ?_) (fun _ => ?_)
  · exact so_pick X [0] rfl (hj113 hh31)
  · refine so_aload_n (i := 0) X 0 (dkX2_settle (42, .aload_n 0, 1) (pgm 22 rfl)) rfl rfl ?_
    refine sf_getR X ff_2_2 lk_388 hk (dkX2_settle (43, .getfield 29, 3) (pgm 23 rfl)) ?_
    refine so_iload_n (i := 1) X 1 (dkX2_settle (46, .iload_n 1, 1) (pgm 24 rfl)) rfl rfl ?_
    refine so_i2l X (dkX2_settle (47, .i2l, 1) (pgm 25 rfl)) ?_
    refine so_aload_n (i := 0) X 0 (dkX2_settle (48, .aload_n 0, 1) (pgm 26 rfl)) rfl rfl ?_
    refine sf_getI X ff_2_7 lk_397 hk (dkX2_settle (49, .getfield 37, 3) (pgm 27 rfl)) ?_
    refine so_callV (n := 2) (As := [.long s31.toInt64, .int (hh31.1 this 7)]) X (ct_X3_whyNot l (rt this 2) s31.toInt64 (hh31.1 this 7) hh31 (fo (rk_2_2 this hk))) (fo (rk_2_2 this hk)) (by decide) rfl lk_675 lk_631 lk_632 lk_126 lk_633 (by decide +kernel) rfl rfl rfl (rm_ok (by omega) (by decide)) ⟨Nat.zero_le _, Nat.zero_le _⟩ (Nat.le_of_ble_eq_true rfl) (dkX2_settle (52, .invokevirtual 61, 3) (pgm 28 rfl)) (fun r10 h11 => ?_) rfl
    refine so_join (jf := fun (h12 : PH) => lt (s31 + Int32.ofInt 1) (fun (x13 : Int32) => rec31 x13 h12)) (fun (j : PH → Option (Unit × PH)) => ∀  (h12 : PH), SWo (QM mkV below args s D cA ad A) p l e (rmd 4) s m args below meth c 0 0 3 D cA ad A 107 [(0, .ref this), (1, .int s31)] [] h12 (j h12)) ?_ (fun j107 hj107 => ?_)
    · intro h12
      refine so_iinc (i := 1) X 1 (dkX2_settle (107, .iinc 1 1, 3) (pgm 59 rfl)) rfl rfl (by decide) (Lf := fun x13 => [(1, .int x13), (0, .ref this)]) (fun _ => rfl) (fun x13 => ?_)
      refine so_goto (tgt := 31) X (dkX2_settle (110, .goto (-79), 3) (pgm 60 rfl)) rfl ?_
      exact so_pick X [1, 0] rfl (hrec31 x13 h12)
    refine so_if_ne (tgt := 107) X (dkX2_settle (55, .ifCond .ne 52, 3) (pgm 29 rfl)) rfl (fun _ => ?_) (fun _ => ?_)
    · exact so_pick X [0, 1] rfl (hj107 h11)
    · refine so_aload_n (i := 0) X 0 (dkX2_settle (58, .aload_n 0, 1) (pgm 30 rfl)) rfl rfl ?_
      refine sf_getR X ff_2_3 lk_389 hk (dkX2_settle (59, .getfield 9, 3) (pgm 31 rfl)) ?_
      refine so_aload_n (i := 0) X 0 (dkX2_settle (62, .aload_n 0, 1) (pgm 32 rfl)) rfl rfl ?_
      refine sf_getI X ff_2_4 lk_392 hk (dkX2_settle (63, .getfield 47, 3) (pgm 33 rfl)) ?_
      refine so_iload_n (i := 1) X 1 (dkX2_settle (66, .iload_n 1, 1) (pgm 34 rfl)) rfl rfl ?_
      refine so_iast X (rk_2_3 this hk) (dkX2_settle (67, .iastore, 1) (pgm 35 rfl)) (fun h14 => ?_)
      refine so_aload_n (i := 0) X 0 (dkX2_settle (68, .aload_n 0, 1) (pgm 36 rfl)) rfl rfl ?_
      refine so_dup X (dkX2_settle (69, .dup, 1) (pgm 37 rfl)) rfl ?_
      refine sf_getI X ff_2_4 lk_392 hk (dkX2_settle (70, .getfield 47, 3) (pgm 38 rfl)) ?_
      refine so_iconst (v := (1 : Int32)) X (dkX2_settle (73, .iconst 1, 1) (pgm 39 rfl)) ic_1 ?_
      refine so_iadd X (dkX2_settle (74, .iadd, 1) (pgm 40 rfl)) ?_
      refine sf_putI X ff_2_4 ft_2 rfl lk_392 hk rfl rfl (dkX2_settle (75, .putfield 47, 3) (pgm 41 rfl)) (fun h15 => ?_)
      refine so_aload_n (i := 0) X 0 (dkX2_settle (78, .aload_n 0, 1) (pgm 42 rfl)) rfl rfl ?_
      refine sf_getR X ff_2_2 lk_388 hk (dkX2_settle (79, .getfield 29, 3) (pgm 43 rfl)) ?_
      refine so_iload_n (i := 1) X 1 (dkX2_settle (82, .iload_n 1, 1) (pgm 44 rfl)) rfl rfl ?_
      refine so_aload_n (i := 0) X 0 (dkX2_settle (83, .aload_n 0, 1) (pgm 45 rfl)) rfl rfl ?_
      refine sf_getI X ff_2_7 lk_397 hk (dkX2_settle (84, .getfield 37, 3) (pgm 46 rfl)) ?_
      refine so_callV (n := 2) (As := [.int s31, .int (h15.1 this 7)]) X (ct_X3_grantedBy l (rt this 2) s31 (h15.1 this 7) h15 (fo (rk_2_2 this hk))) (fo (rk_2_2 this hk)) (by decide) rfl lk_676 lk_677 lk_678 lk_126 lk_679 (by decide +kernel) rfl rfl rfl (rm_ok (by omega) (by decide)) ⟨Nat.zero_le _, Nat.zero_le _⟩ (Nat.le_of_ble_eq_true rfl) (dkX2_settle (87, .invokevirtual 67, 3) (pgm 47 rfl)) (fun r16 h17 => ?_) rfl
      refine so_istore_n (i := 2) X (dkX2_settle (90, .istore_n 2, 1) (pgm 48 rfl)) rfl (by decide) (Lf := fun x18 => [(2, .int x18), (0, .ref this), (1, .int s31)]) (fun _ => rfl) (fun x18 => ?_)
      refine so_aload_n (i := 0) X 1 (dkX2_settle (91, .aload_n 0, 1) (pgm 49 rfl)) rfl rfl ?_
      refine sf_getR X ff_2_5 lk_395 hk (dkX2_settle (92, .getfield 15, 3) (pgm 50 rfl)) ?_
      refine so_iload_n (i := 2) X 0 (dkX2_settle (95, .iload_n 2, 1) (pgm 51 rfl)) rfl rfl ?_
      refine so_aload_n (i := 0) X 1 (dkX2_settle (96, .aload_n 0, 1) (pgm 52 rfl)) rfl rfl ?_
      refine sf_getR X ff_2_5 lk_395 hk (dkX2_settle (97, .getfield 15, 3) (pgm 53 rfl)) ?_
      refine so_iload_n (i := 2) X 0 (dkX2_settle (100, .iload_n 2, 1) (pgm 54 rfl)) rfl rfl ?_
      refine so_iald X (rk_2_5 this hk) (dkX2_settle (101, .iaload, 1) (pgm 55 rfl)) (fun x19 => ?_)
      refine so_iload_n (i := 1) X 2 (dkX2_settle (102, .iload_n 1, 1) (pgm 56 rfl)) rfl rfl ?_
      refine so_callS (n := 2) (As := [.int x19, .int s31]) X (ct_X2_lesser l x19 s31 h17 ) lk_680 lk_681 lk_128 lk_682 (by decide +kernel) rfl rfl rfl (rm_ok (by omega) (by decide)) ⟨Nat.zero_le _, Nat.zero_le _⟩ (Nat.le_of_ble_eq_true rfl) (dkX2_settle (103, .invokestatic 71, 3) (pgm 57 rfl)) (fun r20 h21 => ?_) rfl
      refine so_iast X (rk_2_5 this hk) (dkX2_settle (106, .iastore, 1) (pgm 58 rfl)) (fun h22 => ?_)
      exact so_pick X [1, 2] rfl (hj107 h22)
def pgX2_mostPlan : List (Nat × Instr × Nat) := [(0, .iconst (-1), 1), (1, .istore_n 1, 1), (2, .iconst (-1), 1), (3, .istore_n 2, 1), (4, .iconst 0, 1), (5, .istore_n 3, 1), (6, .iload_n 3, 1), (7, .aload_n 0, 1), (8, .getfield 47, 3), (11, .if_icmp .ge 71, 3), (14, .aload_n 0, 1), (15, .getfield 21, 3), (18, .aload_n 0, 1), (19, .getfield 29, 3), (22, .aload_n 0, 1), (23, .getfield 9, 3), (26, .iload_n 3, 1), (27, .iaload, 1), (28, .aload_n 0, 1), (29, .getfield 37, 3), (32, .invokevirtual 67, 3), (35, .invokevirtual 90, 3), (38, .istore 4, 2), (40, .iload 4, 2), (42, .iload_n 2, 1), (43, .if_icmp .le 16, 3), (46, .aload_n 0, 1), (47, .getfield 9, 3), (50, .iload_n 3, 1), (51, .iaload, 1), (52, .istore_n 1, 1), (53, .iload 4, 2), (55, .istore_n 2, 1), (56, .goto 20, 3), (59, .iload 4, 2), (61, .iload_n 2, 1), (62, .if_icmp .ne 14, 3), (65, .iload_n 1, 1), (66, .aload_n 0, 1), (67, .getfield 9, 3), (70, .iload_n 3, 1), (71, .iaload, 1), (72, .invokestatic 71, 3), (75, .istore_n 1, 1), (76, .iinc 3 1, 3), (79, .goto (-73), 3), (82, .iload_n 1, 1), (83, .ireturn, 1)]
theorem dkX2_mostPlan : ∀ q ∈ pgX2_mostPlan, decode cX2_mostPlan q.1 = .ok q.2 := by decide +kernel
def b_X2_mostPlan_6 (this : Nat) (rec6 : (Int32 × Int32 × Int32) → PH → Option (Int32 × PH)) (s6 : Int32 × Int32 × Int32) (hh6 : PH) : Option (Int32 × PH) :=
  if (hh6.1 this 4) ≤ s6.2.2 then (some (s6.1, hh6)) else (ldI hh6 (rt this 3) 4096 s6.2.2 (fun (x4 : Int32) => cb (f_X3_grantedBy (rt this 2) x4 (hh6.1 this 7) hh6) (fun (r5 : Int32) (h6 : PH) => cb (f_X8_weightOf (rt this 0) r5 h6) (fun (r7 : Int32) (h8 : PH) => lt r7 (fun (x9 : Int32) => lt (fun (y10 : Int32) (y11 : Int32) (h12 : PH) => lt (s6.2.2 + Int32.ofInt 1) (fun (x13 : Int32) => rec6 (y10, y11, x13) h12)) (fun (j76 : Int32 → Int32 → PH → Option (Int32 × PH)) => if x9 ≤ s6.2.1 then (if x9 = s6.2.1 then (ldI h8 (rt this 3) 4096 s6.2.2 (fun (x14 : Int32) => cb (f_X2_lesser s6.1 x14 h8) (fun (r15 : Int32) (h16 : PH) => lt r15 (fun (x17 : Int32) => j76 x17 s6.2.1 h16)))) else (j76 s6.1 s6.2.1 h8)) else (ldI h8 (rt this 3) 4096 s6.2.2 (fun (x18 : Int32) => lt x18 (fun (x19 : Int32) => lt x9 (fun (x20 : Int32) => j76 x19 x20 h8))))))))))
def f_X2_mostPlan (this : Nat) (h0 : PH) : Option (Int32 × PH) :=
  lt (-1 : Int32) (fun (x1 : Int32) => lt (-1 : Int32) (fun (x2 : Int32) => lt (0 : Int32) (fun (x3 : Int32) => lp (b_X2_mostPlan_6 this) FU (x1, x2, x3) h0)))
set_option maxRecDepth 100000 in
set_option maxHeartbeats 4000000 in
theorem ct_X2_mostPlan (l : Launch) (this : Nat) (h0 : PH) (hk : (kd this).1 = 2) : CT mkI l yX2_mostPlan cX2_mostPlan 5 (some .int) (rmd 4) [.ref this] h0 (f_X2_mostPlan this h0) := by
  refine ct_of (by decide) (Nat.le_of_ble_eq_true rfl) ?_
  intro p e s m args below meth c D cA ad A X hr hlk
  have X : Cx p s m args c RX2 cX2_mostPlan 5 D cA ad A := X
  unfold f_X2_mostPlan
  refine so_pick (L' := [(0, .ref this)]) X [0] rfl ?_
  refine so_iconst (v := (-1 : Int32)) X (dkX2_mostPlan (0, .iconst (-1), 1) (pgm 0 rfl)) ic_m1 ?_
  refine so_istore_n (i := 1) X (dkX2_mostPlan (1, .istore_n 1, 1) (pgm 1 rfl)) rfl (by decide) (Lf := fun x1 => [(1, .int x1), (0, .ref this)]) (fun _ => rfl) (fun x1 => ?_)
  refine so_iconst (v := (-1 : Int32)) X (dkX2_mostPlan (2, .iconst (-1), 1) (pgm 2 rfl)) ic_m1 ?_
  refine so_istore_n (i := 2) X (dkX2_mostPlan (3, .istore_n 2, 1) (pgm 3 rfl)) rfl (by decide) (Lf := fun x2 => [(2, .int x2), (1, .int x1), (0, .ref this)]) (fun _ => rfl) (fun x2 => ?_)
  refine so_iconst (v := (0 : Int32)) X (dkX2_mostPlan (4, .iconst 0, 1) (pgm 4 rfl)) ic_0 ?_
  refine so_istore_n (i := 3) X (dkX2_mostPlan (5, .istore_n 3, 1) (pgm 5 rfl)) rfl (by decide) (Lf := fun x3 => [(3, .int x3), (2, .int x2), (1, .int x1), (0, .ref this)]) (fun _ => rfl) (fun x3 => ?_)
  refine so_pick (L' := [(0, .ref this), (1, .int x1), (2, .int x2), (3, .int x3)]) X [3, 2, 1, 0] rfl ?_
  refine so_loop (body := b_X2_mostPlan_6 this) (fun (s6 : Int32 × Int32 × Int32) => [(0, .ref this), (1, .int s6.1), (2, .int s6.2.1), (3, .int s6.2.2)]) (fun rec6 hrec6 s6 hh6 => ?_) FU (x1, x2, x3) h0
  unfold b_X2_mostPlan_6
  refine so_iload_n (i := 3) X 3 (dkX2_mostPlan (6, .iload_n 3, 1) (pgm 6 rfl)) rfl rfl ?_
  refine so_aload_n (i := 0) X 0 (dkX2_mostPlan (7, .aload_n 0, 1) (pgm 7 rfl)) rfl rfl ?_
  refine sf_getI X ff_2_4 lk_392 hk (dkX2_mostPlan (8, .getfield 47, 3) (pgm 8 rfl)) ?_
  refine so_icmp_ge (tgt := 82) X (dkX2_mostPlan (11, .if_icmp .ge 71, 3) (pgm 9 rfl)) rfl (fun _ => ?_) (fun _ => ?_)
  · refine so_iload_n (i := 1) X 1 (dkX2_mostPlan (82, .iload_n 1, 1) (pgm 46 rfl)) rfl rfl ?_
    exact so_iret X hr hlk (dkX2_mostPlan (83, .ireturn, 1) (pgm 47 rfl))
  · refine so_aload_n (i := 0) X 0 (dkX2_mostPlan (14, .aload_n 0, 1) (pgm 10 rfl)) rfl rfl ?_
    refine sf_getR X ff_2_0 lk_386 hk (dkX2_mostPlan (15, .getfield 21, 3) (pgm 11 rfl)) ?_
    refine so_aload_n (i := 0) X 0 (dkX2_mostPlan (18, .aload_n 0, 1) (pgm 12 rfl)) rfl rfl ?_
    refine sf_getR X ff_2_2 lk_388 hk (dkX2_mostPlan (19, .getfield 29, 3) (pgm 13 rfl)) ?_
    refine so_aload_n (i := 0) X 0 (dkX2_mostPlan (22, .aload_n 0, 1) (pgm 14 rfl)) rfl rfl ?_
    refine sf_getR X ff_2_3 lk_389 hk (dkX2_mostPlan (23, .getfield 9, 3) (pgm 15 rfl)) ?_
    refine so_iload_n (i := 3) X 3 (dkX2_mostPlan (26, .iload_n 3, 1) (pgm 16 rfl)) rfl rfl ?_
    refine so_iald X (rk_2_3 this hk) (dkX2_mostPlan (27, .iaload, 1) (pgm 17 rfl)) (fun x4 => ?_)
    refine so_aload_n (i := 0) X 0 (dkX2_mostPlan (28, .aload_n 0, 1) (pgm 18 rfl)) rfl rfl ?_
    refine sf_getI X ff_2_7 lk_397 hk (dkX2_mostPlan (29, .getfield 37, 3) (pgm 19 rfl)) ?_
    refine so_callV (n := 2) (As := [.int x4, .int (hh6.1 this 7)]) X (ct_X3_grantedBy l (rt this 2) x4 (hh6.1 this 7) hh6 (fo (rk_2_2 this hk))) (fo (rk_2_2 this hk)) (by decide) rfl lk_676 lk_677 lk_678 lk_126 lk_679 (by decide +kernel) rfl rfl rfl (rm_ok (by omega) (by decide)) ⟨Nat.zero_le _, Nat.zero_le _⟩ (Nat.le_of_ble_eq_true rfl) (dkX2_mostPlan (32, .invokevirtual 67, 3) (pgm 20 rfl)) (fun r5 h6 => ?_) rfl
    refine so_callV (n := 1) (As := [.int r5]) X (ct_X8_weightOf l (rt this 0) r5 h6 (fo (rk_2_0 this hk))) (fo (rk_2_0 this hk)) (by decide) rfl lk_1240 lk_741 lk_742 lk_122 lk_743 (by decide +kernel) rfl rfl rfl (rm_ok (by omega) (by decide)) ⟨Nat.zero_le _, Nat.zero_le _⟩ (Nat.le_of_ble_eq_true rfl) (dkX2_mostPlan (35, .invokevirtual 90, 3) (pgm 21 rfl)) (fun r7 h8 => ?_) rfl
    refine so_istore (i := 4) X (dkX2_mostPlan (38, .istore 4, 2) (pgm 22 rfl)) (by decide) (Lf := fun x9 => [(4, .int x9), (0, .ref this), (1, .int s6.1), (2, .int s6.2.1), (3, .int s6.2.2)]) (fun _ => rfl) (fun x9 => ?_)
    refine so_iload (i := 4) X 0 (dkX2_mostPlan (40, .iload 4, 2) (pgm 23 rfl)) rfl ?_
    refine so_iload_n (i := 2) X 3 (dkX2_mostPlan (42, .iload_n 2, 1) (pgm 24 rfl)) rfl rfl ?_
    refine so_join (jf := fun (y10 : Int32) (y11 : Int32) (h12 : PH) => lt (s6.2.2 + Int32.ofInt 1) (fun (x13 : Int32) => rec6 (y10, y11, x13) h12)) (fun (j : Int32 → Int32 → PH → Option (Int32 × PH)) => ∀ (y10 : Int32) (y11 : Int32) (h12 : PH), SWo (QM mkI below args s D cA ad A) p l e (rmd 4) s m args below meth c 0 0 5 D cA ad A 76 [(0, .ref this), (1, .int y10), (2, .int y11), (3, .int s6.2.2)] [] h12 (j y10 y11 h12)) ?_ (fun j76 hj76 => ?_)
    · intro y10 y11 h12
      refine so_iinc (i := 3) X 3 (dkX2_mostPlan (76, .iinc 3 1, 3) (pgm 44 rfl)) rfl rfl (by decide) (Lf := fun x13 => [(3, .int x13), (0, .ref this), (1, .int y10), (2, .int y11)]) (fun _ => rfl) (fun x13 => ?_)
      refine so_goto (tgt := 6) X (dkX2_mostPlan (79, .goto (-73), 3) (pgm 45 rfl)) rfl ?_
      exact so_pick X [1, 2, 3, 0] rfl (hrec6 (y10, y11, x13) h12)
    refine so_icmp_le (tgt := 59) X (dkX2_mostPlan (43, .if_icmp .le 16, 3) (pgm 25 rfl)) rfl (fun _ => ?_) (fun _ => ?_)
    · refine so_iload (i := 4) X 0 (dkX2_mostPlan (59, .iload 4, 2) (pgm 34 rfl)) rfl ?_
      refine so_iload_n (i := 2) X 3 (dkX2_mostPlan (61, .iload_n 2, 1) (pgm 35 rfl)) rfl rfl ?_
      refine so_icmp_ne (tgt := 76) X (dkX2_mostPlan (62, .if_icmp .ne 14, 3) (pgm 36 rfl)) rfl (fun _ => ?_) (fun _ => ?_)
      · exact so_pick X [1, 2, 3, 4] rfl (hj76 s6.1 s6.2.1 h8)
      · refine so_iload_n (i := 1) X 2 (dkX2_mostPlan (65, .iload_n 1, 1) (pgm 37 rfl)) rfl rfl ?_
        refine so_aload_n (i := 0) X 1 (dkX2_mostPlan (66, .aload_n 0, 1) (pgm 38 rfl)) rfl rfl ?_
        refine sf_getR X ff_2_3 lk_389 hk (dkX2_mostPlan (67, .getfield 9, 3) (pgm 39 rfl)) ?_
        refine so_iload_n (i := 3) X 4 (dkX2_mostPlan (70, .iload_n 3, 1) (pgm 40 rfl)) rfl rfl ?_
        refine so_iald X (rk_2_3 this hk) (dkX2_mostPlan (71, .iaload, 1) (pgm 41 rfl)) (fun x14 => ?_)
        refine so_callS (n := 2) (As := [.int s6.1, .int x14]) X (ct_X2_lesser l s6.1 x14 h8 ) lk_680 lk_681 lk_128 lk_682 (by decide +kernel) rfl rfl rfl (rm_ok (by omega) (by decide)) ⟨Nat.zero_le _, Nat.zero_le _⟩ (Nat.le_of_ble_eq_true rfl) (dkX2_mostPlan (72, .invokestatic 71, 3) (pgm 42 rfl)) (fun r15 h16 => ?_) rfl
        refine so_istore_n (i := 1) X (dkX2_mostPlan (75, .istore_n 1, 1) (pgm 43 rfl)) rfl (by decide) (Lf := fun x17 => [(1, .int x17), (4, .int x9), (0, .ref this), (2, .int s6.2.1), (3, .int s6.2.2)]) (fun _ => rfl) (fun x17 => ?_)
        exact so_pick X [2, 0, 3, 4] rfl (hj76 x17 s6.2.1 h16)
    · refine so_aload_n (i := 0) X 1 (dkX2_mostPlan (46, .aload_n 0, 1) (pgm 26 rfl)) rfl rfl ?_
      refine sf_getR X ff_2_3 lk_389 hk (dkX2_mostPlan (47, .getfield 9, 3) (pgm 27 rfl)) ?_
      refine so_iload_n (i := 3) X 4 (dkX2_mostPlan (50, .iload_n 3, 1) (pgm 28 rfl)) rfl rfl ?_
      refine so_iald X (rk_2_3 this hk) (dkX2_mostPlan (51, .iaload, 1) (pgm 29 rfl)) (fun x18 => ?_)
      refine so_istore_n (i := 1) X (dkX2_mostPlan (52, .istore_n 1, 1) (pgm 30 rfl)) rfl (by decide) (Lf := fun x19 => [(1, .int x19), (4, .int x9), (0, .ref this), (2, .int s6.2.1), (3, .int s6.2.2)]) (fun _ => rfl) (fun x19 => ?_)
      refine so_iload (i := 4) X 1 (dkX2_mostPlan (53, .iload 4, 2) (pgm 31 rfl)) rfl ?_
      refine so_istore_n (i := 2) X (dkX2_mostPlan (55, .istore_n 2, 1) (pgm 32 rfl)) rfl (by decide) (Lf := fun x20 => [(2, .int x20), (1, .int x19), (4, .int x9), (0, .ref this), (3, .int s6.2.2)]) (fun _ => rfl) (fun x20 => ?_)
      refine so_goto (tgt := 76) X (dkX2_mostPlan (56, .goto 20, 3) (pgm 33 rfl)) rfl ?_
      exact so_pick X [3, 1, 0, 4] rfl (hj76 x19 x20 h8)
def pgX2_followersOf : List (Nat × Instr × Nat) := [(0, .aload_n 0, 1), (1, .getfield 37, 3), (4, .iconst 1, 1), (5, .iload_n 1, 1), (6, .ishl, 1), (7, .iconst (-1), 1), (8, .ixor, 1), (9, .iand, 1), (10, .istore_n 2, 1), (11, .iconst 0, 1), (12, .istore_n 3, 1), (13, .iload_n 3, 1), (14, .aload_n 0, 1), (15, .getfield 47, 3), (18, .if_icmp .ge 43, 3), (21, .aload_n 0, 1), (22, .getfield 29, 3), (25, .aload_n 0, 1), (26, .getfield 9, 3), (29, .iload_n 3, 1), (30, .iaload, 1), (31, .aload_n 0, 1), (32, .getfield 37, 3), (35, .invokevirtual 67, 3), (38, .istore 4, 2), (40, .iload 4, 2), (42, .iload_n 1, 1), (43, .ishr, 1), (44, .iconst 1, 1), (45, .iand, 1), (46, .iconst 1, 1), (47, .if_icmp .ne 8, 3), (50, .iload_n 2, 1), (51, .iload 4, 2), (53, .iand, 1), (54, .istore_n 2, 1), (55, .iinc 3 1, 3), (58, .goto (-45), 3), (61, .iload_n 2, 1), (62, .ireturn, 1)]
theorem dkX2_followersOf : ∀ q ∈ pgX2_followersOf, decode cX2_followersOf q.1 = .ok q.2 := by decide +kernel
def b_X2_followersOf_13 (this : Nat) (a1 : Int32) (rec13 : (Int32 × Int32) → PH → Option (Int32 × PH)) (s13 : Int32 × Int32) (hh13 : PH) : Option (Int32 × PH) :=
  if (hh13.1 this 4) ≤ s13.2 then (some (s13.1, hh13)) else (ldI hh13 (rt this 3) 4096 s13.2 (fun (x3 : Int32) => cb (f_X3_grantedBy (rt this 2) x3 (hh13.1 this 7) hh13) (fun (r4 : Int32) (h5 : PH) => lt r4 (fun (x6 : Int32) => lt (fun (y7 : Int32) (h8 : PH) => lt (s13.2 + Int32.ofInt 1) (fun (x9 : Int32) => rec13 (y7, x9) h8)) (fun (j55 : Int32 → PH → Option (Int32 × PH)) => if ((x6 >>> (a1 &&& 31)) &&& (1 : Int32)) = (1 : Int32) then (lt (s13.1 &&& x6) (fun (x10 : Int32) => j55 x10 h5)) else (j55 s13.1 h5))))))
def f_X2_followersOf (this : Nat) (a1 : Int32) (h0 : PH) : Option (Int32 × PH) :=
  lt ((h0.1 this 7) &&& (((1 : Int32) <<< (a1 &&& 31)) ^^^ (-1 : Int32))) (fun (x1 : Int32) => lt (0 : Int32) (fun (x2 : Int32) => lp (b_X2_followersOf_13 this a1) FU (x1, x2) h0))
set_option maxRecDepth 100000 in
set_option maxHeartbeats 4000000 in
theorem ct_X2_followersOf (l : Launch) (this : Nat) (a1 : Int32) (h0 : PH) (hk : (kd this).1 = 2) : CT mkI l yX2_followersOf cX2_followersOf 5 (some .int) (rmd 4) [.ref this, .int a1] h0 (f_X2_followersOf this a1 h0) := by
  refine ct_of (by decide) (Nat.le_of_ble_eq_true rfl) ?_
  intro p e s m args below meth c D cA ad A X hr hlk
  have X : Cx p s m args c RX2 cX2_followersOf 5 D cA ad A := X
  unfold f_X2_followersOf
  refine so_pick (L' := [(0, .ref this), (1, .int a1)]) X [0, 1] rfl ?_
  refine so_aload_n (i := 0) X 0 (dkX2_followersOf (0, .aload_n 0, 1) (pgm 0 rfl)) rfl rfl ?_
  refine sf_getI X ff_2_7 lk_397 hk (dkX2_followersOf (1, .getfield 37, 3) (pgm 1 rfl)) ?_
  refine so_iconst (v := (1 : Int32)) X (dkX2_followersOf (4, .iconst 1, 1) (pgm 2 rfl)) ic_1 ?_
  refine so_iload_n (i := 1) X 1 (dkX2_followersOf (5, .iload_n 1, 1) (pgm 3 rfl)) rfl rfl ?_
  refine so_ishl X (dkX2_followersOf (6, .ishl, 1) (pgm 4 rfl)) ?_
  refine so_iconst (v := (-1 : Int32)) X (dkX2_followersOf (7, .iconst (-1), 1) (pgm 5 rfl)) ic_m1 ?_
  refine so_ixor X (dkX2_followersOf (8, .ixor, 1) (pgm 6 rfl)) ?_
  refine so_iand X (dkX2_followersOf (9, .iand, 1) (pgm 7 rfl)) ?_
  refine so_istore_n (i := 2) X (dkX2_followersOf (10, .istore_n 2, 1) (pgm 8 rfl)) rfl (by decide) (Lf := fun x1 => [(2, .int x1), (0, .ref this), (1, .int a1)]) (fun _ => rfl) (fun x1 => ?_)
  refine so_iconst (v := (0 : Int32)) X (dkX2_followersOf (11, .iconst 0, 1) (pgm 9 rfl)) ic_0 ?_
  refine so_istore_n (i := 3) X (dkX2_followersOf (12, .istore_n 3, 1) (pgm 10 rfl)) rfl (by decide) (Lf := fun x2 => [(3, .int x2), (2, .int x1), (0, .ref this), (1, .int a1)]) (fun _ => rfl) (fun x2 => ?_)
  refine so_pick (L' := [(0, .ref this), (1, .int a1), (2, .int x1), (3, .int x2)]) X [2, 3, 1, 0] rfl ?_
  refine so_loop (body := b_X2_followersOf_13 this a1) (fun (s13 : Int32 × Int32) => [(0, .ref this), (1, .int a1), (2, .int s13.1), (3, .int s13.2)]) (fun rec13 hrec13 s13 hh13 => ?_) FU (x1, x2) h0
  unfold b_X2_followersOf_13
  refine so_iload_n (i := 3) X 3 (dkX2_followersOf (13, .iload_n 3, 1) (pgm 11 rfl)) rfl rfl ?_
  refine so_aload_n (i := 0) X 0 (dkX2_followersOf (14, .aload_n 0, 1) (pgm 12 rfl)) rfl rfl ?_
  refine sf_getI X ff_2_4 lk_392 hk (dkX2_followersOf (15, .getfield 47, 3) (pgm 13 rfl)) ?_
  refine so_icmp_ge (tgt := 61) X (dkX2_followersOf (18, .if_icmp .ge 43, 3) (pgm 14 rfl)) rfl (fun _ => ?_) (fun _ => ?_)
  · refine so_iload_n (i := 2) X 2 (dkX2_followersOf (61, .iload_n 2, 1) (pgm 38 rfl)) rfl rfl ?_
    exact so_iret X hr hlk (dkX2_followersOf (62, .ireturn, 1) (pgm 39 rfl))
  · refine so_aload_n (i := 0) X 0 (dkX2_followersOf (21, .aload_n 0, 1) (pgm 15 rfl)) rfl rfl ?_
    refine sf_getR X ff_2_2 lk_388 hk (dkX2_followersOf (22, .getfield 29, 3) (pgm 16 rfl)) ?_
    refine so_aload_n (i := 0) X 0 (dkX2_followersOf (25, .aload_n 0, 1) (pgm 17 rfl)) rfl rfl ?_
    refine sf_getR X ff_2_3 lk_389 hk (dkX2_followersOf (26, .getfield 9, 3) (pgm 18 rfl)) ?_
    refine so_iload_n (i := 3) X 3 (dkX2_followersOf (29, .iload_n 3, 1) (pgm 19 rfl)) rfl rfl ?_
    refine so_iald X (rk_2_3 this hk) (dkX2_followersOf (30, .iaload, 1) (pgm 20 rfl)) (fun x3 => ?_)
    refine so_aload_n (i := 0) X 0 (dkX2_followersOf (31, .aload_n 0, 1) (pgm 21 rfl)) rfl rfl ?_
    refine sf_getI X ff_2_7 lk_397 hk (dkX2_followersOf (32, .getfield 37, 3) (pgm 22 rfl)) ?_
    refine so_callV (n := 2) (As := [.int x3, .int (hh13.1 this 7)]) X (ct_X3_grantedBy l (rt this 2) x3 (hh13.1 this 7) hh13 (fo (rk_2_2 this hk))) (fo (rk_2_2 this hk)) (by decide) rfl lk_676 lk_677 lk_678 lk_126 lk_679 (by decide +kernel) rfl rfl rfl (rm_ok (by omega) (by decide)) ⟨Nat.zero_le _, Nat.zero_le _⟩ (Nat.le_of_ble_eq_true rfl) (dkX2_followersOf (35, .invokevirtual 67, 3) (pgm 23 rfl)) (fun r4 h5 => ?_) rfl
    refine so_istore (i := 4) X (dkX2_followersOf (38, .istore 4, 2) (pgm 24 rfl)) (by decide) (Lf := fun x6 => [(4, .int x6), (0, .ref this), (1, .int a1), (2, .int s13.1), (3, .int s13.2)]) (fun _ => rfl) (fun x6 => ?_)
    refine so_iload (i := 4) X 0 (dkX2_followersOf (40, .iload 4, 2) (pgm 25 rfl)) rfl ?_
    refine so_iload_n (i := 1) X 2 (dkX2_followersOf (42, .iload_n 1, 1) (pgm 26 rfl)) rfl rfl ?_
    refine so_ishr X (dkX2_followersOf (43, .ishr, 1) (pgm 27 rfl)) ?_
    refine so_iconst (v := (1 : Int32)) X (dkX2_followersOf (44, .iconst 1, 1) (pgm 28 rfl)) ic_1 ?_
    refine so_iand X (dkX2_followersOf (45, .iand, 1) (pgm 29 rfl)) ?_
    refine so_iconst (v := (1 : Int32)) X (dkX2_followersOf (46, .iconst 1, 1) (pgm 30 rfl)) ic_1 ?_
    refine so_join (jf := fun (y7 : Int32) (h8 : PH) => lt (s13.2 + Int32.ofInt 1) (fun (x9 : Int32) => rec13 (y7, x9) h8)) (fun (j : Int32 → PH → Option (Int32 × PH)) => ∀ (y7 : Int32) (h8 : PH), SWo (QM mkI below args s D cA ad A) p l e (rmd 4) s m args below meth c 0 0 5 D cA ad A 55 [(0, .ref this), (1, .int a1), (2, .int y7), (3, .int s13.2)] [] h8 (j y7 h8)) ?_ (fun j55 hj55 => ?_)
    · intro y7 h8
      refine so_iinc (i := 3) X 3 (dkX2_followersOf (55, .iinc 3 1, 3) (pgm 36 rfl)) rfl rfl (by decide) (Lf := fun x9 => [(3, .int x9), (0, .ref this), (1, .int a1), (2, .int y7)]) (fun _ => rfl) (fun x9 => ?_)
      refine so_goto (tgt := 13) X (dkX2_followersOf (58, .goto (-45), 3) (pgm 37 rfl)) rfl ?_
      exact so_pick X [1, 2, 3, 0] rfl (hrec13 (y7, x9) h8)
    refine so_icmp_ne (tgt := 55) X (dkX2_followersOf (47, .if_icmp .ne 8, 3) (pgm 31 rfl)) rfl (fun _ => ?_) (fun _ => ?_)
    · exact so_pick X [1, 2, 3, 4] rfl (hj55 s13.1 h5)
    · refine so_iload_n (i := 2) X 3 (dkX2_followersOf (50, .iload_n 2, 1) (pgm 32 rfl)) rfl rfl ?_
      refine so_iload (i := 4) X 0 (dkX2_followersOf (51, .iload 4, 2) (pgm 33 rfl)) rfl ?_
      refine so_iand X (dkX2_followersOf (53, .iand, 1) (pgm 34 rfl)) ?_
      refine so_istore_n (i := 2) X (dkX2_followersOf (54, .istore_n 2, 1) (pgm 35 rfl)) rfl (by decide) (Lf := fun x10 => [(2, .int x10), (4, .int x6), (0, .ref this), (1, .int a1), (3, .int s13.2)]) (fun _ => rfl) (fun x10 => ?_)
      exact so_pick X [2, 3, 0, 4] rfl (hj55 x10 h5)
def pgX2_sureCells : List (Nat × Instr × Nat) := [(0, .aload_n 0, 1), (1, .iload_n 1, 1), (2, .invokevirtual 86, 3), (5, .ifCond .ne 5, 3), (8, .iconst (-1), 1), (9, .ireturn, 1), (10, .aload_n 0, 1), (11, .getfield 21, 3), (14, .getfield 56, 3), (17, .istore_n 3, 1), (18, .iconst 0, 1), (19, .istore 4, 2), (21, .iload 4, 2), (23, .aload_n 0, 1), (24, .getfield 47, 3), (27, .if_icmp .ge 57, 3), (30, .aload_n 0, 1), (31, .getfield 21, 3), (34, .aload_n 0, 1), (35, .getfield 9, 3), (38, .iload 4, 2), (40, .iaload, 1), (41, .invokevirtual 99, 3), (44, .istore 5, 2), (46, .iload_n 1, 1), (47, .aload_n 0, 1), (48, .getfield 29, 3), (51, .iload 5, 2), (53, .invokevirtual 102, 3), (56, .iconst (-1), 1), (57, .ixor, 1), (58, .iand, 1), (59, .ifCond .ne 19, 3), (62, .iload_n 3, 1), (63, .iload_n 2, 1), (64, .ifCond .eq 8, 3), (67, .iload 5, 2), (69, .goto 7, 3), (72, .iload 5, 2), (74, .iconst (-1), 1), (75, .ixor, 1), (76, .iand, 1), (77, .istore_n 3, 1), (78, .iinc 4 1, 3), (81, .goto (-60), 3), (84, .iload_n 3, 1), (85, .ireturn, 1)]
theorem dkX2_sureCells : ∀ q ∈ pgX2_sureCells, decode cX2_sureCells q.1 = .ok q.2 := by decide +kernel
def b_X2_sureCells_21 (this : Nat) (a1 : Int32) (a2 : Int32) (rec21 : (Int32 × Int32) → PH → Option (Int32 × PH)) (s21 : Int32 × Int32) (hh21 : PH) : Option (Int32 × PH) :=
  if (hh21.1 this 4) ≤ s21.2 then (some (s21.1, hh21)) else (ldI hh21 (rt this 3) 4096 s21.2 (fun (x5 : Int32) => cb (f_X8_weatherOf (rt this 0) x5 hh21) (fun (r6 : Int32) (h7 : PH) => lt r6 (fun (x8 : Int32) => cb (f_X3_at (rt this 2) x8 h7) (fun (r9 : Int32) (h10 : PH) => lt (fun (y11 : Int32) (h12 : PH) => lt (s21.2 + Int32.ofInt 1) (fun (x13 : Int32) => rec21 (y11, x13) h12)) (fun (j78 : Int32 → PH → Option (Int32 × PH)) => if (a1 &&& (r9 ^^^ (-1 : Int32))) = 0 then (lt (fun (t14 : Int32) (h15 : PH) => lt (s21.1 &&& t14) (fun (x16 : Int32) => j78 x16 h15)) (fun (j76 : Int32 → PH → Option (Int32 × PH)) => if a2 = 0 then (j76 (x8 ^^^ (-1 : Int32)) h10) else (j76 x8 h10))) else (j78 s21.1 h10)))))))
def f_X2_sureCells (this : Nat) (a1 : Int32) (a2 : Int32) (h0 : PH) : Option (Int32 × PH) :=
  cb (f_X2_areTogether this a1 h0) (fun (r1 : Int32) (h2 : PH) => if r1 = 0 then (some ((-1 : Int32), h2)) else (lt (h2.1 (rt this 0) 8) (fun (x3 : Int32) => lt (0 : Int32) (fun (x4 : Int32) => lp (b_X2_sureCells_21 this a1 a2) FU (x3, x4) h2))))
set_option maxRecDepth 100000 in
set_option maxHeartbeats 4000000 in
theorem ct_X2_sureCells (l : Launch) (this : Nat) (a1 : Int32) (a2 : Int32) (h0 : PH) (hk : (kd this).1 = 2) : CT mkI l yX2_sureCells cX2_sureCells 6 (some .int) (rmd 3) [.ref this, .int a1, .int a2] h0 (f_X2_sureCells this a1 a2 h0) := by
  refine ct_of (by decide) (Nat.le_of_ble_eq_true rfl) ?_
  intro p e s m args below meth c D cA ad A X hr hlk
  have X : Cx p s m args c RX2 cX2_sureCells 6 D cA ad A := X
  unfold f_X2_sureCells
  refine so_pick (L' := [(0, .ref this), (1, .int a1), (2, .int a2)]) X [0, 1, 2] rfl ?_
  refine so_aload_n (i := 0) X 0 (dkX2_sureCells (0, .aload_n 0, 1) (pgm 0 rfl)) rfl rfl ?_
  refine so_iload_n (i := 1) X 1 (dkX2_sureCells (1, .iload_n 1, 1) (pgm 1 rfl)) rfl rfl ?_
  refine so_callV (n := 1) (As := [.int a1]) X (ct_X2_areTogether l this a1 h0 hk) hk (by decide) rfl lk_700 lk_702 lk_5 lk_128 lk_703 (by decide +kernel) rfl rfl rfl (rm_ok (by omega) (by decide)) ⟨Nat.zero_le _, Nat.zero_le _⟩ (Nat.le_of_ble_eq_true rfl) (dkX2_sureCells (2, .invokevirtual 86, 3) (pgm 2 rfl)) (fun r1 h2 => ?_) rfl
  refine so_if_ne (tgt := 10) X (dkX2_sureCells (5, .ifCond .ne 5, 3) (pgm 3 rfl)) rfl (fun _ => ?_) (fun _ => ?_)
  · refine so_aload_n (i := 0) X 0 (dkX2_sureCells (10, .aload_n 0, 1) (pgm 6 rfl)) rfl rfl ?_
    refine sf_getR X ff_2_0 lk_386 hk (dkX2_sureCells (11, .getfield 21, 3) (pgm 7 rfl)) ?_
    refine sf_getI X ff_8_8 lk_199 (fo (rk_2_0 this hk)) (dkX2_sureCells (14, .getfield 56, 3) (pgm 8 rfl)) ?_
    refine so_istore_n (i := 3) X (dkX2_sureCells (17, .istore_n 3, 1) (pgm 9 rfl)) rfl (by decide) (Lf := fun x3 => [(3, .int x3), (0, .ref this), (1, .int a1), (2, .int a2)]) (fun _ => rfl) (fun x3 => ?_)
    refine so_iconst (v := (0 : Int32)) X (dkX2_sureCells (18, .iconst 0, 1) (pgm 10 rfl)) ic_0 ?_
    refine so_istore (i := 4) X (dkX2_sureCells (19, .istore 4, 2) (pgm 11 rfl)) (by decide) (Lf := fun x4 => [(4, .int x4), (3, .int x3), (0, .ref this), (1, .int a1), (2, .int a2)]) (fun _ => rfl) (fun x4 => ?_)
    refine so_pick (L' := [(0, .ref this), (1, .int a1), (2, .int a2), (3, .int x3), (4, .int x4)]) X [2, 3, 4, 1, 0] rfl ?_
    refine so_loop (body := b_X2_sureCells_21 this a1 a2) (fun (s21 : Int32 × Int32) => [(0, .ref this), (1, .int a1), (2, .int a2), (3, .int s21.1), (4, .int s21.2)]) (fun rec21 hrec21 s21 hh21 => ?_) FU (x3, x4) h2
    unfold b_X2_sureCells_21
    refine so_iload (i := 4) X 4 (dkX2_sureCells (21, .iload 4, 2) (pgm 12 rfl)) rfl ?_
    refine so_aload_n (i := 0) X 0 (dkX2_sureCells (23, .aload_n 0, 1) (pgm 13 rfl)) rfl rfl ?_
    refine sf_getI X ff_2_4 lk_392 hk (dkX2_sureCells (24, .getfield 47, 3) (pgm 14 rfl)) ?_
    refine so_icmp_ge (tgt := 84) X (dkX2_sureCells (27, .if_icmp .ge 57, 3) (pgm 15 rfl)) rfl (fun _ => ?_) (fun _ => ?_)
    · refine so_iload_n (i := 3) X 3 (dkX2_sureCells (84, .iload_n 3, 1) (pgm 45 rfl)) rfl rfl ?_
      exact so_iret X hr hlk (dkX2_sureCells (85, .ireturn, 1) (pgm 46 rfl))
    · refine so_aload_n (i := 0) X 0 (dkX2_sureCells (30, .aload_n 0, 1) (pgm 16 rfl)) rfl rfl ?_
      refine sf_getR X ff_2_0 lk_386 hk (dkX2_sureCells (31, .getfield 21, 3) (pgm 17 rfl)) ?_
      refine so_aload_n (i := 0) X 0 (dkX2_sureCells (34, .aload_n 0, 1) (pgm 18 rfl)) rfl rfl ?_
      refine sf_getR X ff_2_3 lk_389 hk (dkX2_sureCells (35, .getfield 9, 3) (pgm 19 rfl)) ?_
      refine so_iload (i := 4) X 4 (dkX2_sureCells (38, .iload 4, 2) (pgm 20 rfl)) rfl ?_
      refine so_iald X (rk_2_3 this hk) (dkX2_sureCells (40, .iaload, 1) (pgm 21 rfl)) (fun x5 => ?_)
      refine so_callV (n := 1) (As := [.int x5]) X (ct_X8_weatherOf l (rt this 0) x5 hh21 (fo (rk_2_0 this hk))) (fo (rk_2_0 this hk)) (by decide) rfl lk_1274 lk_641 lk_642 lk_122 lk_643 (by decide +kernel) rfl rfl rfl (rm_ok (by omega) (by decide)) ⟨Nat.zero_le _, Nat.zero_le _⟩ (Nat.le_of_ble_eq_true rfl) (dkX2_sureCells (41, .invokevirtual 99, 3) (pgm 22 rfl)) (fun r6 h7 => ?_) rfl
      refine so_istore (i := 5) X (dkX2_sureCells (44, .istore 5, 2) (pgm 23 rfl)) (by decide) (Lf := fun x8 => [(5, .int x8), (0, .ref this), (1, .int a1), (2, .int a2), (3, .int s21.1), (4, .int s21.2)]) (fun _ => rfl) (fun x8 => ?_)
      refine so_iload_n (i := 1) X 2 (dkX2_sureCells (46, .iload_n 1, 1) (pgm 24 rfl)) rfl rfl ?_
      refine so_aload_n (i := 0) X 1 (dkX2_sureCells (47, .aload_n 0, 1) (pgm 25 rfl)) rfl rfl ?_
      refine sf_getR X ff_2_2 lk_388 hk (dkX2_sureCells (48, .getfield 29, 3) (pgm 26 rfl)) ?_
      refine so_iload (i := 5) X 0 (dkX2_sureCells (51, .iload 5, 2) (pgm 27 rfl)) rfl ?_
      refine so_callV (n := 1) (As := [.int x8]) X (ct_X3_at l (rt this 2) x8 h7 (fo (rk_2_2 this hk))) (fo (rk_2_2 this hk)) (by decide) rfl lk_1275 lk_645 lk_646 lk_126 lk_647 (by decide +kernel) rfl rfl rfl (rm_ok (by omega) (by decide)) ⟨Nat.zero_le _, Nat.zero_le _⟩ (Nat.le_of_ble_eq_true rfl) (dkX2_sureCells (53, .invokevirtual 102, 3) (pgm 28 rfl)) (fun r9 h10 => ?_) rfl
      refine so_iconst (v := (-1 : Int32)) X (dkX2_sureCells (56, .iconst (-1), 1) (pgm 29 rfl)) ic_m1 ?_
      refine so_ixor X (dkX2_sureCells (57, .ixor, 1) (pgm 30 rfl)) ?_
      refine so_iand X (dkX2_sureCells (58, .iand, 1) (pgm 31 rfl)) ?_
      refine so_join (jf := fun (y11 : Int32) (h12 : PH) => lt (s21.2 + Int32.ofInt 1) (fun (x13 : Int32) => rec21 (y11, x13) h12)) (fun (j : Int32 → PH → Option (Int32 × PH)) => ∀ (y11 : Int32) (h12 : PH), SWo (QM mkI below args s D cA ad A) p l e (rmd 3) s m args below meth c 0 0 6 D cA ad A 78 [(0, .ref this), (1, .int a1), (2, .int a2), (3, .int y11), (4, .int s21.2)] [] h12 (j y11 h12)) ?_ (fun j78 hj78 => ?_)
      · intro y11 h12
        refine so_iinc (i := 4) X 4 (dkX2_sureCells (78, .iinc 4 1, 3) (pgm 43 rfl)) rfl rfl (by decide) (Lf := fun x13 => [(4, .int x13), (0, .ref this), (1, .int a1), (2, .int a2), (3, .int y11)]) (fun _ => rfl) (fun x13 => ?_)
        refine so_goto (tgt := 21) X (dkX2_sureCells (81, .goto (-60), 3) (pgm 44 rfl)) rfl ?_
        exact so_pick X [1, 2, 3, 4, 0] rfl (hrec21 (y11, x13) h12)
      refine so_if_ne (tgt := 78) X (dkX2_sureCells (59, .ifCond .ne 19, 3) (pgm 32 rfl)) rfl (fun _ => ?_) (fun _ => ?_)
      · exact so_pick X [1, 2, 3, 4, 5] rfl (hj78 s21.1 h10)
      · refine so_iload_n (i := 3) X 4 (dkX2_sureCells (62, .iload_n 3, 1) (pgm 33 rfl)) rfl rfl ?_
        refine so_iload_n (i := 2) X 3 (dkX2_sureCells (63, .iload_n 2, 1) (pgm 34 rfl)) rfl rfl ?_
        refine so_join (jf := fun (t14 : Int32) (h15 : PH) => lt (s21.1 &&& t14) (fun (x16 : Int32) => j78 x16 h15)) (fun (j : Int32 → PH → Option (Int32 × PH)) => ∀ (t14 : Int32) (h15 : PH), SWo (QM mkI below args s D cA ad A) p l e (rmd 3) s m args below meth c 0 0 6 D cA ad A 76 [(0, .ref this), (1, .int a1), (2, .int a2), (4, .int s21.2)] [.int t14, .int s21.1] h15 (j t14 h15)) ?_ (fun j76 hj76 => ?_)
        · intro t14 h15
          refine so_iand X (dkX2_sureCells (76, .iand, 1) (pgm 41 rfl)) ?_
          refine so_istore_n (i := 3) X (dkX2_sureCells (77, .istore_n 3, 1) (pgm 42 rfl)) rfl (by decide) (Lf := fun x16 => [(3, .int x16), (0, .ref this), (1, .int a1), (2, .int a2), (4, .int s21.2)]) (fun _ => rfl) (fun x16 => ?_)
          exact so_pick X [1, 2, 3, 0, 4] rfl (hj78 x16 h15)
        refine so_if_eq (tgt := 72) X (dkX2_sureCells (64, .ifCond .eq 8, 3) (pgm 35 rfl)) rfl (fun _ => ?_) (fun _ => ?_)
        · refine so_iload (i := 5) X 0 (dkX2_sureCells (72, .iload 5, 2) (pgm 38 rfl)) rfl ?_
          refine so_iconst (v := (-1 : Int32)) X (dkX2_sureCells (74, .iconst (-1), 1) (pgm 39 rfl)) ic_m1 ?_
          refine so_ixor X (dkX2_sureCells (75, .ixor, 1) (pgm 40 rfl)) ?_
          exact so_pick X [1, 2, 3, 5] rfl (hj76 (x8 ^^^ (-1 : Int32)) h10)
        · refine so_iload (i := 5) X 0 (dkX2_sureCells (67, .iload 5, 2) (pgm 36 rfl)) rfl ?_
          refine so_goto (tgt := 76) X (dkX2_sureCells (69, .goto 7, 3) (pgm 37 rfl)) rfl ?_
          exact so_pick X [1, 2, 3, 5] rfl (hj76 x8 h10)
  · refine so_iconst (v := (-1 : Int32)) X (dkX2_sureCells (8, .iconst (-1), 1) (pgm 4 rfl)) ic_m1 ?_
    exact so_iret X hr hlk (dkX2_sureCells (9, .ireturn, 1) (pgm 5 rfl))
def pgX2_weightExpected : List (Nat × Instr × Nat) := [(0, .iload_n 1, 1), (1, .invokestatic 80, 3), (4, .istore_n 3, 1), (5, .iload_n 1, 1), (6, .istore 4, 2), (8, .lconst 0, 1), (9, .lstore 5, 2), (11, .iconst 0, 1), (12, .istore 7, 2), (14, .iload 7, 2), (16, .iconst 1, 1), (17, .iload_n 3, 1), (18, .ishl, 1), (19, .if_icmp .ge 84, 3), (22, .iload 4, 2), (24, .invokestatic 80, 3), (27, .istore 8, 2), (29, .iload_n 2, 1), (30, .iload 8, 2), (32, .invokestatic 105, 3), (35, .bipush 100, 2), (37, .iload_n 2, 1), (38, .isub, 1), (39, .iload_n 3, 1), (40, .iload 8, 2), (42, .isub, 1), (43, .invokestatic 105, 3), (46, .lmul, 1), (47, .lstore 9, 2), (49, .lload 5, 2), (51, .lload 9, 2), (53, .aload_n 0, 1), (54, .getfield 21, 3), (57, .aload_n 0, 1), (58, .getfield 29, 3), (61, .aload_n 0, 1), (62, .getfield 21, 3), (65, .iload 4, 2), (67, .invokevirtual 99, 3), (70, .invokevirtual 102, 3), (73, .aload_n 0, 1), (74, .getfield 25, 3), (77, .getfield 41, 3), (80, .iand, 1), (81, .invokevirtual 90, 3), (84, .i2l, 1), (85, .lmul, 1), (86, .ladd, 1), (87, .lstore 5, 2), (89, .iload 4, 2), (91, .iconst 1, 1), (92, .isub, 1), (93, .iload_n 1, 1), (94, .iand, 1), (95, .istore 4, 2), (97, .iinc 7 1, 3), (100, .goto (-86), 3), (103, .lload 5, 2), (105, .lreturn, 1)]
theorem dkX2_weightExpected : ∀ q ∈ pgX2_weightExpected, decode cX2_weightExpected q.1 = .ok q.2 := by decide +kernel
def b_X2_weightExpected_14 (this : Nat) (a1 : Int32) (a2 : Int32) (x3 : Int32) (rec14 : (Int32 × Int64 × Int32) → PH → Option (Int64 × PH)) (s14 : Int32 × Int64 × Int32) (hh14 : PH) : Option (Int64 × PH) :=
  if ((1 : Int32) <<< (x3 &&& 31)) ≤ s14.2.2 then (some (s14.2.1, hh14)) else (cb (f_J6_bitCount_0f7a4 s14.1 hh14) (fun (r7 : Int32) (h8 : PH) => lt r7 (fun (x9 : Int32) => cb (f_X2_power a2 x9 h8) (fun (r10 : Int64) (h11 : PH) => cb (f_X2_power ((100 : Int32) - a2) (x3 - x9) h11) (fun (r12 : Int64) (h13 : PH) => lt (r10 * r12) (fun (x14 : Int64) => cb (f_X8_weatherOf (rt this 0) s14.1 h13) (fun (r15 : Int32) (h16 : PH) => cb (f_X3_at (rt this 2) r15 h16) (fun (r17 : Int32) (h18 : PH) => cb (f_X8_weightOf (rt this 0) (r17 &&& (h18.1 (rt this 1) 0)) h18) (fun (r19 : Int32) (h20 : PH) => lt (s14.2.1 + (x14 * r19.toInt64)) (fun (x21 : Int64) => lt ((s14.1 - (1 : Int32)) &&& a1) (fun (x22 : Int32) => lt (s14.2.2 + Int32.ofInt 1) (fun (x23 : Int32) => rec14 (x22, x21, x23) h20))))))))))))
def f_X2_weightExpected (this : Nat) (a1 : Int32) (a2 : Int32) (h0 : PH) : Option (Int64 × PH) :=
  cb (f_J6_bitCount_0f7a4 a1 h0) (fun (r1 : Int32) (h2 : PH) => lt r1 (fun (x3 : Int32) => lt a1 (fun (x4 : Int32) => lt (0 : Int64) (fun (x5 : Int64) => lt (0 : Int32) (fun (x6 : Int32) => lp (b_X2_weightExpected_14 this a1 a2 x3) FU (x4, x5, x6) h2)))))
set_option maxRecDepth 100000 in
set_option maxHeartbeats 4000000 in
theorem ct_X2_weightExpected (l : Launch) (this : Nat) (a1 : Int32) (a2 : Int32) (h0 : PH) (hk : (kd this).1 = 2) : CT mkL l yX2_weightExpected cX2_weightExpected 11 (some .long) (rmd 3) [.ref this, .int a1, .int a2] h0 (f_X2_weightExpected this a1 a2 h0) := by
  refine ct_of (by decide) (Nat.le_of_ble_eq_true rfl) ?_
  intro p e s m args below meth c D cA ad A X hr hlk
  have X : Cx p s m args c RX2 cX2_weightExpected 11 D cA ad A := X
  unfold f_X2_weightExpected
  refine so_pick (L' := [(0, .ref this), (1, .int a1), (2, .int a2)]) X [0, 1, 2] rfl ?_
  refine so_iload_n (i := 1) X 1 (dkX2_weightExpected (0, .iload_n 1, 1) (pgm 0 rfl)) rfl rfl ?_
  refine so_callS (n := 1) (As := [.int a1]) X (ct_J6_bitCount_0f7a4 l a1 h0 ) lk_683 lk_635 lk_147 lk_636 (by decide +kernel) rfl rfl rfl (rm_ok (by omega) (by decide)) ⟨Nat.zero_le _, Nat.zero_le _⟩ (Nat.le_of_ble_eq_true rfl) (dkX2_weightExpected (1, .invokestatic 80, 3) (pgm 1 rfl)) (fun r1 h2 => ?_) rfl
  refine so_istore_n (i := 3) X (dkX2_weightExpected (4, .istore_n 3, 1) (pgm 2 rfl)) rfl (by decide) (Lf := fun x3 => [(3, .int x3), (0, .ref this), (1, .int a1), (2, .int a2)]) (fun _ => rfl) (fun x3 => ?_)
  refine so_iload_n (i := 1) X 2 (dkX2_weightExpected (5, .iload_n 1, 1) (pgm 3 rfl)) rfl rfl ?_
  refine so_istore (i := 4) X (dkX2_weightExpected (6, .istore 4, 2) (pgm 4 rfl)) (by decide) (Lf := fun x4 => [(4, .int x4), (3, .int x3), (0, .ref this), (1, .int a1), (2, .int a2)]) (fun _ => rfl) (fun x4 => ?_)
  refine so_lconst (v := (0 : Int64)) X (dkX2_weightExpected (8, .lconst 0, 1) (pgm 5 rfl)) lc_0 ?_
  refine so_lstore (i := 5) X (dkX2_weightExpected (9, .lstore 5, 2) (pgm 6 rfl)) (by decide) (Lf := fun x5 => [(5, .long x5), (4, .int x4), (3, .int x3), (0, .ref this), (1, .int a1), (2, .int a2)]) (fun _ => rfl) (fun x5 => ?_)
  refine so_iconst (v := (0 : Int32)) X (dkX2_weightExpected (11, .iconst 0, 1) (pgm 7 rfl)) ic_0 ?_
  refine so_istore (i := 7) X (dkX2_weightExpected (12, .istore 7, 2) (pgm 8 rfl)) (by decide) (Lf := fun x6 => [(7, .int x6), (5, .long x5), (4, .int x4), (3, .int x3), (0, .ref this), (1, .int a1), (2, .int a2)]) (fun _ => rfl) (fun x6 => ?_)
  refine so_pick (L' := [(0, .ref this), (1, .int a1), (2, .int a2), (3, .int x3), (4, .int x4), (5, .long x5), (7, .int x6)]) X [4, 5, 6, 3, 2, 1, 0] rfl ?_
  refine so_loop (body := b_X2_weightExpected_14 this a1 a2 x3) (fun (s14 : Int32 × Int64 × Int32) => [(0, .ref this), (1, .int a1), (2, .int a2), (3, .int x3), (4, .int s14.1), (5, .long s14.2.1), (7, .int s14.2.2)]) (fun rec14 hrec14 s14 hh14 => ?_) FU (x4, x5, x6) h2
  unfold b_X2_weightExpected_14
  refine so_iload (i := 7) X 6 (dkX2_weightExpected (14, .iload 7, 2) (pgm 9 rfl)) rfl ?_
  refine so_iconst (v := (1 : Int32)) X (dkX2_weightExpected (16, .iconst 1, 1) (pgm 10 rfl)) ic_1 ?_
  refine so_iload_n (i := 3) X 3 (dkX2_weightExpected (17, .iload_n 3, 1) (pgm 11 rfl)) rfl rfl ?_
  refine so_ishl X (dkX2_weightExpected (18, .ishl, 1) (pgm 12 rfl)) ?_
  refine so_icmp_ge (tgt := 103) X (dkX2_weightExpected (19, .if_icmp .ge 84, 3) (pgm 13 rfl)) rfl (fun _ => ?_) (fun _ => ?_)
  · refine so_lload (i := 5) X 5 (dkX2_weightExpected (103, .lload 5, 2) (pgm 57 rfl)) rfl ?_
    exact so_lret X hr hlk (dkX2_weightExpected (105, .lreturn, 1) (pgm 58 rfl))
  · refine so_iload (i := 4) X 4 (dkX2_weightExpected (22, .iload 4, 2) (pgm 14 rfl)) rfl ?_
    refine so_callS (n := 1) (As := [.int s14.1]) X (ct_J6_bitCount_0f7a4 l s14.1 hh14 ) lk_683 lk_635 lk_147 lk_636 (by decide +kernel) rfl rfl rfl (rm_ok (by omega) (by decide)) ⟨Nat.zero_le _, Nat.zero_le _⟩ (Nat.le_of_ble_eq_true rfl) (dkX2_weightExpected (24, .invokestatic 80, 3) (pgm 15 rfl)) (fun r7 h8 => ?_) rfl
    refine so_istore (i := 8) X (dkX2_weightExpected (27, .istore 8, 2) (pgm 16 rfl)) (by decide) (Lf := fun x9 => [(8, .int x9), (0, .ref this), (1, .int a1), (2, .int a2), (3, .int x3), (4, .int s14.1), (5, .long s14.2.1), (7, .int s14.2.2)]) (fun _ => rfl) (fun x9 => ?_)
    refine so_iload_n (i := 2) X 3 (dkX2_weightExpected (29, .iload_n 2, 1) (pgm 17 rfl)) rfl rfl ?_
    refine so_iload (i := 8) X 0 (dkX2_weightExpected (30, .iload 8, 2) (pgm 18 rfl)) rfl ?_
    refine so_callS (n := 2) (As := [.int a2, .int x9]) X (ct_X2_power l a2 x9 h8 ) lk_1293 lk_1294 lk_128 lk_1295 (by decide +kernel) rfl rfl rfl (rm_ok (by omega) (by decide)) ⟨Nat.zero_le _, Nat.zero_le _⟩ (Nat.le_of_ble_eq_true rfl) (dkX2_weightExpected (32, .invokestatic 105, 3) (pgm 19 rfl)) (fun r10 h11 => ?_) rfl
    refine so_bipush (v := (100 : Int32)) X (dkX2_weightExpected (35, .bipush 100, 2) (pgm 20 rfl)) bp_100 ?_
    refine so_iload_n (i := 2) X 3 (dkX2_weightExpected (37, .iload_n 2, 1) (pgm 21 rfl)) rfl rfl ?_
    refine so_isub X (dkX2_weightExpected (38, .isub, 1) (pgm 22 rfl)) ?_
    refine so_iload_n (i := 3) X 4 (dkX2_weightExpected (39, .iload_n 3, 1) (pgm 23 rfl)) rfl rfl ?_
    refine so_iload (i := 8) X 0 (dkX2_weightExpected (40, .iload 8, 2) (pgm 24 rfl)) rfl ?_
    refine so_isub X (dkX2_weightExpected (42, .isub, 1) (pgm 25 rfl)) ?_
    refine so_callS (n := 2) (As := [.int ((100 : Int32) - a2), .int (x3 - x9)]) X (ct_X2_power l ((100 : Int32) - a2) (x3 - x9) h11 ) lk_1293 lk_1294 lk_128 lk_1295 (by decide +kernel) rfl rfl rfl (rm_ok (by omega) (by decide)) ⟨Nat.zero_le _, Nat.zero_le _⟩ (Nat.le_of_ble_eq_true rfl) (dkX2_weightExpected (43, .invokestatic 105, 3) (pgm 26 rfl)) (fun r12 h13 => ?_) rfl
    refine so_lmul X (dkX2_weightExpected (46, .lmul, 1) (pgm 27 rfl)) ?_
    refine so_lstore (i := 9) X (dkX2_weightExpected (47, .lstore 9, 2) (pgm 28 rfl)) (by decide) (Lf := fun x14 => [(9, .long x14), (8, .int x9), (0, .ref this), (1, .int a1), (2, .int a2), (3, .int x3), (4, .int s14.1), (5, .long s14.2.1), (7, .int s14.2.2)]) (fun _ => rfl) (fun x14 => ?_)
    refine so_lload (i := 5) X 7 (dkX2_weightExpected (49, .lload 5, 2) (pgm 29 rfl)) rfl ?_
    refine so_lload (i := 9) X 0 (dkX2_weightExpected (51, .lload 9, 2) (pgm 30 rfl)) rfl ?_
    refine so_aload_n (i := 0) X 2 (dkX2_weightExpected (53, .aload_n 0, 1) (pgm 31 rfl)) rfl rfl ?_
    refine sf_getR X ff_2_0 lk_386 hk (dkX2_weightExpected (54, .getfield 21, 3) (pgm 32 rfl)) ?_
    refine so_aload_n (i := 0) X 2 (dkX2_weightExpected (57, .aload_n 0, 1) (pgm 33 rfl)) rfl rfl ?_
    refine sf_getR X ff_2_2 lk_388 hk (dkX2_weightExpected (58, .getfield 29, 3) (pgm 34 rfl)) ?_
    refine so_aload_n (i := 0) X 2 (dkX2_weightExpected (61, .aload_n 0, 1) (pgm 35 rfl)) rfl rfl ?_
    refine sf_getR X ff_2_0 lk_386 hk (dkX2_weightExpected (62, .getfield 21, 3) (pgm 36 rfl)) ?_
    refine so_iload (i := 4) X 6 (dkX2_weightExpected (65, .iload 4, 2) (pgm 37 rfl)) rfl ?_
    refine so_callV (n := 1) (As := [.int s14.1]) X (ct_X8_weatherOf l (rt this 0) s14.1 h13 (fo (rk_2_0 this hk))) (fo (rk_2_0 this hk)) (by decide) rfl lk_1274 lk_641 lk_642 lk_122 lk_643 (by decide +kernel) rfl rfl rfl (rm_ok (by omega) (by decide)) ⟨Nat.zero_le _, Nat.zero_le _⟩ (Nat.le_of_ble_eq_true rfl) (dkX2_weightExpected (67, .invokevirtual 99, 3) (pgm 38 rfl)) (fun r15 h16 => ?_) rfl
    refine so_callV (n := 1) (As := [.int r15]) X (ct_X3_at l (rt this 2) r15 h16 (fo (rk_2_2 this hk))) (fo (rk_2_2 this hk)) (by decide) rfl lk_1275 lk_645 lk_646 lk_126 lk_647 (by decide +kernel) rfl rfl rfl (rm_ok (by omega) (by decide)) ⟨Nat.zero_le _, Nat.zero_le _⟩ (Nat.le_of_ble_eq_true rfl) (dkX2_weightExpected (70, .invokevirtual 102, 3) (pgm 39 rfl)) (fun r17 h18 => ?_) rfl
    refine so_aload_n (i := 0) X 2 (dkX2_weightExpected (73, .aload_n 0, 1) (pgm 40 rfl)) rfl rfl ?_
    refine sf_getR X ff_2_1 lk_387 hk (dkX2_weightExpected (74, .getfield 25, 3) (pgm 41 rfl)) ?_
    refine sf_getI X ff_0_0 lk_336 (fo (rk_2_1 this hk)) (dkX2_weightExpected (77, .getfield 41, 3) (pgm 42 rfl)) ?_
    refine so_iand X (dkX2_weightExpected (80, .iand, 1) (pgm 43 rfl)) ?_
    refine so_callV (n := 1) (As := [.int (r17 &&& (h18.1 (rt this 1) 0))]) X (ct_X8_weightOf l (rt this 0) (r17 &&& (h18.1 (rt this 1) 0)) h18 (fo (rk_2_0 this hk))) (fo (rk_2_0 this hk)) (by decide) rfl lk_1240 lk_741 lk_742 lk_122 lk_743 (by decide +kernel) rfl rfl rfl (rm_ok (by omega) (by decide)) ⟨Nat.zero_le _, Nat.zero_le _⟩ (Nat.le_of_ble_eq_true rfl) (dkX2_weightExpected (81, .invokevirtual 90, 3) (pgm 44 rfl)) (fun r19 h20 => ?_) rfl
    refine so_i2l X (dkX2_weightExpected (84, .i2l, 1) (pgm 45 rfl)) ?_
    refine so_lmul X (dkX2_weightExpected (85, .lmul, 1) (pgm 46 rfl)) ?_
    refine so_ladd X (dkX2_weightExpected (86, .ladd, 1) (pgm 47 rfl)) ?_
    refine so_lstore (i := 5) X (dkX2_weightExpected (87, .lstore 5, 2) (pgm 48 rfl)) (by decide) (Lf := fun x21 => [(5, .long x21), (9, .long x14), (8, .int x9), (0, .ref this), (1, .int a1), (2, .int a2), (3, .int x3), (4, .int s14.1), (7, .int s14.2.2)]) (fun _ => rfl) (fun x21 => ?_)
    refine so_iload (i := 4) X 7 (dkX2_weightExpected (89, .iload 4, 2) (pgm 49 rfl)) rfl ?_
    refine so_iconst (v := (1 : Int32)) X (dkX2_weightExpected (91, .iconst 1, 1) (pgm 50 rfl)) ic_1 ?_
    refine so_isub X (dkX2_weightExpected (92, .isub, 1) (pgm 51 rfl)) ?_
    refine so_iload_n (i := 1) X 4 (dkX2_weightExpected (93, .iload_n 1, 1) (pgm 52 rfl)) rfl rfl ?_
    refine so_iand X (dkX2_weightExpected (94, .iand, 1) (pgm 53 rfl)) ?_
    refine so_istore (i := 4) X (dkX2_weightExpected (95, .istore 4, 2) (pgm 54 rfl)) (by decide) (Lf := fun x22 => [(4, .int x22), (5, .long x21), (9, .long x14), (8, .int x9), (0, .ref this), (1, .int a1), (2, .int a2), (3, .int x3), (7, .int s14.2.2)]) (fun _ => rfl) (fun x22 => ?_)
    refine so_iinc (i := 7) X 8 (dkX2_weightExpected (97, .iinc 7 1, 3) (pgm 55 rfl)) rfl rfl (by decide) (Lf := fun x23 => [(7, .int x23), (4, .int x22), (5, .long x21), (9, .long x14), (8, .int x9), (0, .ref this), (1, .int a1), (2, .int a2), (3, .int x3)]) (fun _ => rfl) (fun x23 => ?_)
    refine so_goto (tgt := 14) X (dkX2_weightExpected (100, .goto (-86), 3) (pgm 56 rfl)) rfl ?_
    exact so_pick X [5, 6, 7, 8, 1, 2, 0] rfl (hrec14 (x22, x21, x23) h20)
def pgX2_bestByChance : List (Nat × Instr × Nat) := [(0, .iconst (-1), 1), (1, .istore_n 2, 1), (2, .ldc2_w 109, 3), (5, .lstore_n 3, 1), (6, .iconst 0, 1), (7, .istore 5, 2), (9, .iload 5, 2), (11, .aload_n 0, 1), (12, .getfield 47, 3), (15, .if_icmp .ge 91, 3), (18, .aload_n 0, 1), (19, .getfield 9, 3), (22, .iload 5, 2), (24, .iaload, 1), (25, .invokestatic 80, 3), (28, .istore 6, 2), (30, .iload 6, 2), (32, .iconst 3, 1), (33, .if_icmp .gt 67, 3), (36, .aload_n 0, 1), (37, .aload_n 0, 1), (38, .getfield 9, 3), (41, .iload 5, 2), (43, .iaload, 1), (44, .iload_n 1, 1), (45, .invokevirtual 111, 3), (48, .bipush 100, 2), (50, .iconst 3, 1), (51, .iload 6, 2), (53, .isub, 1), (54, .invokestatic 105, 3), (57, .lmul, 1), (58, .lstore 7, 2), (60, .lload 7, 2), (62, .lload_n 3, 1), (63, .lcmp, 1), (64, .ifCond .le 17, 3), (67, .aload_n 0, 1), (68, .getfield 9, 3), (71, .iload 5, 2), (73, .iaload, 1), (74, .istore_n 2, 1), (75, .lload 7, 2), (77, .lstore_n 3, 1), (78, .goto 22, 3), (81, .lload 7, 2), (83, .lload_n 3, 1), (84, .lcmp, 1), (85, .ifCond .ne 15, 3), (88, .iload_n 2, 1), (89, .aload_n 0, 1), (90, .getfield 9, 3), (93, .iload 5, 2), (95, .iaload, 1), (96, .invokestatic 71, 3), (99, .istore_n 2, 1), (100, .iinc 5 1, 3), (103, .goto (-94), 3), (106, .iload_n 2, 1), (107, .ireturn, 1)]
theorem dkX2_bestByChance : ∀ q ∈ pgX2_bestByChance, decode cX2_bestByChance q.1 = .ok q.2 := by decide +kernel
def b_X2_bestByChance_9 (this : Nat) (a1 : Int32) (rec9 : (Int32 × Int64 × Int32) → PH → Option (Int32 × PH)) (s9 : Int32 × Int64 × Int32) (hh9 : PH) : Option (Int32 × PH) :=
  if (hh9.1 this 4) ≤ s9.2.2 then (some (s9.1, hh9)) else (ldI hh9 (rt this 3) 4096 s9.2.2 (fun (x4 : Int32) => cb (f_J6_bitCount_0f7a4 x4 hh9) (fun (r5 : Int32) (h6 : PH) => lt r5 (fun (x7 : Int32) => lt (fun (y8 : Int32) (y9 : Int64) (h10 : PH) => lt (s9.2.2 + Int32.ofInt 1) (fun (x11 : Int32) => rec9 (y8, y9, x11) h10)) (fun (j100 : Int32 → Int64 → PH → Option (Int32 × PH)) => if (3 : Int32) < x7 then (j100 s9.1 s9.2.1 h6) else (ldI h6 (rt this 3) 4096 s9.2.2 (fun (x12 : Int32) => cb (f_X2_weightExpected this x12 a1 h6) (fun (r13 : Int64) (h14 : PH) => cb (f_X2_power (100 : Int32) ((3 : Int32) - x7) h14) (fun (r15 : Int64) (h16 : PH) => lt (r13 * r15) (fun (x17 : Int64) => if (lg_cmp x17 s9.2.1) ≤ 0 then (if (lg_cmp x17 s9.2.1) = 0 then (ldI h16 (rt this 3) 4096 s9.2.2 (fun (x18 : Int32) => cb (f_X2_lesser s9.1 x18 h16) (fun (r19 : Int32) (h20 : PH) => lt r19 (fun (x21 : Int32) => j100 x21 s9.2.1 h20)))) else (j100 s9.1 s9.2.1 h16)) else (ldI h16 (rt this 3) 4096 s9.2.2 (fun (x22 : Int32) => lt x22 (fun (x23 : Int32) => lt x17 (fun (x24 : Int64) => j100 x23 x24 h16))))))))))))))
def f_X2_bestByChance (this : Nat) (a1 : Int32) (h0 : PH) : Option (Int32 × PH) :=
  lt (-1 : Int32) (fun (x1 : Int32) => lt (-1 : Int64) (fun (x2 : Int64) => lt (0 : Int32) (fun (x3 : Int32) => lp (b_X2_bestByChance_9 this a1) FU (x1, x2, x3) h0)))
set_option maxRecDepth 100000 in
set_option maxHeartbeats 4000000 in
theorem ct_X2_bestByChance (l : Launch) (this : Nat) (a1 : Int32) (h0 : PH) (hk : (kd this).1 = 2) : CT mkI l yX2_bestByChance cX2_bestByChance 9 (some .int) (rmd 4) [.ref this, .int a1] h0 (f_X2_bestByChance this a1 h0) := by
  refine ct_of (by decide) (Nat.le_of_ble_eq_true rfl) ?_
  intro p e s m args below meth c D cA ad A X hr hlk
  have X : Cx p s m args c RX2 cX2_bestByChance 9 D cA ad A := X
  unfold f_X2_bestByChance
  refine so_pick (L' := [(0, .ref this), (1, .int a1)]) X [0, 1] rfl ?_
  refine so_iconst (v := (-1 : Int32)) X (dkX2_bestByChance (0, .iconst (-1), 1) (pgm 0 rfl)) ic_m1 ?_
  refine so_istore_n (i := 2) X (dkX2_bestByChance (1, .istore_n 2, 1) (pgm 1 rfl)) rfl (by decide) (Lf := fun x1 => [(2, .int x1), (0, .ref this), (1, .int a1)]) (fun _ => rfl) (fun x1 => ?_)
  refine so_ldc2 X lk_1307 (dkX2_bestByChance (2, .ldc2_w 109, 3) (pgm 2 rfl)) ?_
  refine so_lstore_n (i := 3) X (dkX2_bestByChance (5, .lstore_n 3, 1) (pgm 3 rfl)) rfl (by decide) (Lf := fun x2 => [(3, .long x2), (2, .int x1), (0, .ref this), (1, .int a1)]) (fun _ => rfl) (fun x2 => ?_)
  refine so_iconst (v := (0 : Int32)) X (dkX2_bestByChance (6, .iconst 0, 1) (pgm 4 rfl)) ic_0 ?_
  refine so_istore (i := 5) X (dkX2_bestByChance (7, .istore 5, 2) (pgm 5 rfl)) (by decide) (Lf := fun x3 => [(5, .int x3), (3, .long x2), (2, .int x1), (0, .ref this), (1, .int a1)]) (fun _ => rfl) (fun x3 => ?_)
  refine so_pick (L' := [(0, .ref this), (1, .int a1), (2, .int x1), (3, .long x2), (5, .int x3)]) X [3, 4, 2, 1, 0] rfl ?_
  refine so_loop (body := b_X2_bestByChance_9 this a1) (fun (s9 : Int32 × Int64 × Int32) => [(0, .ref this), (1, .int a1), (2, .int s9.1), (3, .long s9.2.1), (5, .int s9.2.2)]) (fun rec9 hrec9 s9 hh9 => ?_) FU (x1, x2, x3) h0
  unfold b_X2_bestByChance_9
  refine so_iload (i := 5) X 4 (dkX2_bestByChance (9, .iload 5, 2) (pgm 6 rfl)) rfl ?_
  refine so_aload_n (i := 0) X 0 (dkX2_bestByChance (11, .aload_n 0, 1) (pgm 7 rfl)) rfl rfl ?_
  refine sf_getI X ff_2_4 lk_392 hk (dkX2_bestByChance (12, .getfield 47, 3) (pgm 8 rfl)) ?_
  refine so_icmp_ge (tgt := 106) X (dkX2_bestByChance (15, .if_icmp .ge 91, 3) (pgm 9 rfl)) rfl (fun _ => ?_) (fun _ => ?_)
  · refine so_iload_n (i := 2) X 2 (dkX2_bestByChance (106, .iload_n 2, 1) (pgm 58 rfl)) rfl rfl ?_
    exact so_iret X hr hlk (dkX2_bestByChance (107, .ireturn, 1) (pgm 59 rfl))
  · refine so_aload_n (i := 0) X 0 (dkX2_bestByChance (18, .aload_n 0, 1) (pgm 10 rfl)) rfl rfl ?_
    refine sf_getR X ff_2_3 lk_389 hk (dkX2_bestByChance (19, .getfield 9, 3) (pgm 11 rfl)) ?_
    refine so_iload (i := 5) X 4 (dkX2_bestByChance (22, .iload 5, 2) (pgm 12 rfl)) rfl ?_
    refine so_iald X (rk_2_3 this hk) (dkX2_bestByChance (24, .iaload, 1) (pgm 13 rfl)) (fun x4 => ?_)
    refine so_callS (n := 1) (As := [.int x4]) X (ct_J6_bitCount_0f7a4 l x4 hh9 ) lk_683 lk_635 lk_147 lk_636 (by decide +kernel) rfl rfl rfl (rm_ok (by omega) (by decide)) ⟨Nat.zero_le _, Nat.zero_le _⟩ (Nat.le_of_ble_eq_true rfl) (dkX2_bestByChance (25, .invokestatic 80, 3) (pgm 14 rfl)) (fun r5 h6 => ?_) rfl
    refine so_istore (i := 6) X (dkX2_bestByChance (28, .istore 6, 2) (pgm 15 rfl)) (by decide) (Lf := fun x7 => [(6, .int x7), (0, .ref this), (1, .int a1), (2, .int s9.1), (3, .long s9.2.1), (5, .int s9.2.2)]) (fun _ => rfl) (fun x7 => ?_)
    refine so_iload (i := 6) X 0 (dkX2_bestByChance (30, .iload 6, 2) (pgm 16 rfl)) rfl ?_
    refine so_iconst (v := (3 : Int32)) X (dkX2_bestByChance (32, .iconst 3, 1) (pgm 17 rfl)) ic_3 ?_
    refine so_join (jf := fun (y8 : Int32) (y9 : Int64) (h10 : PH) => lt (s9.2.2 + Int32.ofInt 1) (fun (x11 : Int32) => rec9 (y8, y9, x11) h10)) (fun (j : Int32 → Int64 → PH → Option (Int32 × PH)) => ∀ (y8 : Int32) (y9 : Int64) (h10 : PH), SWo (QM mkI below args s D cA ad A) p l e (rmd 4) s m args below meth c 0 0 9 D cA ad A 100 [(0, .ref this), (1, .int a1), (2, .int y8), (3, .long y9), (5, .int s9.2.2)] [] h10 (j y8 y9 h10)) ?_ (fun j100 hj100 => ?_)
    · intro y8 y9 h10
      refine so_iinc (i := 5) X 4 (dkX2_bestByChance (100, .iinc 5 1, 3) (pgm 56 rfl)) rfl rfl (by decide) (Lf := fun x11 => [(5, .int x11), (0, .ref this), (1, .int a1), (2, .int y8), (3, .long y9)]) (fun _ => rfl) (fun x11 => ?_)
      refine so_goto (tgt := 9) X (dkX2_bestByChance (103, .goto (-94), 3) (pgm 57 rfl)) rfl ?_
      exact so_pick X [1, 2, 3, 4, 0] rfl (hrec9 (y8, y9, x11) h10)
    refine so_icmp_gt (tgt := 100) X (dkX2_bestByChance (33, .if_icmp .gt 67, 3) (pgm 18 rfl)) rfl (fun _ => ?_) (fun _ => ?_)
    · exact so_pick X [1, 2, 3, 4, 5] rfl (hj100 s9.1 s9.2.1 h6)
    · refine so_aload_n (i := 0) X 1 (dkX2_bestByChance (36, .aload_n 0, 1) (pgm 19 rfl)) rfl rfl ?_
      refine so_aload_n (i := 0) X 1 (dkX2_bestByChance (37, .aload_n 0, 1) (pgm 20 rfl)) rfl rfl ?_
      refine sf_getR X ff_2_3 lk_389 hk (dkX2_bestByChance (38, .getfield 9, 3) (pgm 21 rfl)) ?_
      refine so_iload (i := 5) X 5 (dkX2_bestByChance (41, .iload 5, 2) (pgm 22 rfl)) rfl ?_
      refine so_iald X (rk_2_3 this hk) (dkX2_bestByChance (43, .iaload, 1) (pgm 23 rfl)) (fun x12 => ?_)
      refine so_iload_n (i := 1) X 2 (dkX2_bestByChance (44, .iload_n 1, 1) (pgm 24 rfl)) rfl rfl ?_
      refine so_callV (n := 2) (As := [.int x12, .int a1]) X (ct_X2_weightExpected l this x12 a1 h6 hk) hk (by decide) rfl lk_1308 lk_1290 lk_1291 lk_128 lk_1292 (by decide +kernel) rfl rfl rfl (rm_ok (by omega) (by decide)) ⟨Nat.zero_le _, Nat.zero_le _⟩ (Nat.le_of_ble_eq_true rfl) (dkX2_bestByChance (45, .invokevirtual 111, 3) (pgm 25 rfl)) (fun r13 h14 => ?_) rfl
      refine so_bipush (v := (100 : Int32)) X (dkX2_bestByChance (48, .bipush 100, 2) (pgm 26 rfl)) bp_100 ?_
      refine so_iconst (v := (3 : Int32)) X (dkX2_bestByChance (50, .iconst 3, 1) (pgm 27 rfl)) ic_3 ?_
      refine so_iload (i := 6) X 0 (dkX2_bestByChance (51, .iload 6, 2) (pgm 28 rfl)) rfl ?_
      refine so_isub X (dkX2_bestByChance (53, .isub, 1) (pgm 29 rfl)) ?_
      refine so_callS (n := 2) (As := [.int (100 : Int32), .int ((3 : Int32) - x7)]) X (ct_X2_power l (100 : Int32) ((3 : Int32) - x7) h14 ) lk_1293 lk_1294 lk_128 lk_1295 (by decide +kernel) rfl rfl rfl (rm_ok (by omega) (by decide)) ⟨Nat.zero_le _, Nat.zero_le _⟩ (Nat.le_of_ble_eq_true rfl) (dkX2_bestByChance (54, .invokestatic 105, 3) (pgm 30 rfl)) (fun r15 h16 => ?_) rfl
      refine so_lmul X (dkX2_bestByChance (57, .lmul, 1) (pgm 31 rfl)) ?_
      refine so_lstore (i := 7) X (dkX2_bestByChance (58, .lstore 7, 2) (pgm 32 rfl)) (by decide) (Lf := fun x17 => [(7, .long x17), (6, .int x7), (0, .ref this), (1, .int a1), (2, .int s9.1), (3, .long s9.2.1), (5, .int s9.2.2)]) (fun _ => rfl) (fun x17 => ?_)
      refine so_lload (i := 7) X 0 (dkX2_bestByChance (60, .lload 7, 2) (pgm 33 rfl)) rfl ?_
      refine so_lload_n (i := 3) X 5 (dkX2_bestByChance (62, .lload_n 3, 1) (pgm 34 rfl)) rfl rfl ?_
      refine so_lcmp X (dkX2_bestByChance (63, .lcmp, 1) (pgm 35 rfl)) ?_
      refine so_if_le (tgt := 81) X (dkX2_bestByChance (64, .ifCond .le 17, 3) (pgm 36 rfl)) rfl (fun _ => ?_) (fun _ => ?_)
      · refine so_lload (i := 7) X 0 (dkX2_bestByChance (81, .lload 7, 2) (pgm 45 rfl)) rfl ?_
        refine so_lload_n (i := 3) X 5 (dkX2_bestByChance (83, .lload_n 3, 1) (pgm 46 rfl)) rfl rfl ?_
        refine so_lcmp X (dkX2_bestByChance (84, .lcmp, 1) (pgm 47 rfl)) ?_
        refine so_if_ne (tgt := 100) X (dkX2_bestByChance (85, .ifCond .ne 15, 3) (pgm 48 rfl)) rfl (fun _ => ?_) (fun _ => ?_)
        · exact so_pick X [2, 3, 4, 5, 6] rfl (hj100 s9.1 s9.2.1 h16)
        · refine so_iload_n (i := 2) X 4 (dkX2_bestByChance (88, .iload_n 2, 1) (pgm 49 rfl)) rfl rfl ?_
          refine so_aload_n (i := 0) X 2 (dkX2_bestByChance (89, .aload_n 0, 1) (pgm 50 rfl)) rfl rfl ?_
          refine sf_getR X ff_2_3 lk_389 hk (dkX2_bestByChance (90, .getfield 9, 3) (pgm 51 rfl)) ?_
          refine so_iload (i := 5) X 6 (dkX2_bestByChance (93, .iload 5, 2) (pgm 52 rfl)) rfl ?_
          refine so_iald X (rk_2_3 this hk) (dkX2_bestByChance (95, .iaload, 1) (pgm 53 rfl)) (fun x18 => ?_)
          refine so_callS (n := 2) (As := [.int s9.1, .int x18]) X (ct_X2_lesser l s9.1 x18 h16 ) lk_680 lk_681 lk_128 lk_682 (by decide +kernel) rfl rfl rfl (rm_ok (by omega) (by decide)) ⟨Nat.zero_le _, Nat.zero_le _⟩ (Nat.le_of_ble_eq_true rfl) (dkX2_bestByChance (96, .invokestatic 71, 3) (pgm 54 rfl)) (fun r19 h20 => ?_) rfl
          refine so_istore_n (i := 2) X (dkX2_bestByChance (99, .istore_n 2, 1) (pgm 55 rfl)) rfl (by decide) (Lf := fun x21 => [(2, .int x21), (7, .long x17), (6, .int x7), (0, .ref this), (1, .int a1), (3, .long s9.2.1), (5, .int s9.2.2)]) (fun _ => rfl) (fun x21 => ?_)
          exact so_pick X [3, 4, 0, 5, 6] rfl (hj100 x21 s9.2.1 h20)
      · refine so_aload_n (i := 0) X 2 (dkX2_bestByChance (67, .aload_n 0, 1) (pgm 37 rfl)) rfl rfl ?_
        refine sf_getR X ff_2_3 lk_389 hk (dkX2_bestByChance (68, .getfield 9, 3) (pgm 38 rfl)) ?_
        refine so_iload (i := 5) X 6 (dkX2_bestByChance (71, .iload 5, 2) (pgm 39 rfl)) rfl ?_
        refine so_iald X (rk_2_3 this hk) (dkX2_bestByChance (73, .iaload, 1) (pgm 40 rfl)) (fun x22 => ?_)
        refine so_istore_n (i := 2) X (dkX2_bestByChance (74, .istore_n 2, 1) (pgm 41 rfl)) rfl (by decide) (Lf := fun x23 => [(2, .int x23), (7, .long x17), (6, .int x7), (0, .ref this), (1, .int a1), (3, .long s9.2.1), (5, .int s9.2.2)]) (fun _ => rfl) (fun x23 => ?_)
        refine so_lload (i := 7) X 1 (dkX2_bestByChance (75, .lload 7, 2) (pgm 42 rfl)) rfl ?_
        refine so_lstore_n (i := 3) X (dkX2_bestByChance (77, .lstore_n 3, 1) (pgm 43 rfl)) rfl (by decide) (Lf := fun x24 => [(3, .long x24), (2, .int x23), (7, .long x17), (6, .int x7), (0, .ref this), (1, .int a1), (5, .int s9.2.2)]) (fun _ => rfl) (fun x24 => ?_)
        refine so_goto (tgt := 100) X (dkX2_bestByChance (78, .goto 22, 3) (pgm 44 rfl)) rfl ?_
        exact so_pick X [4, 5, 1, 0, 6] rfl (hj100 x23 x24 h16)
def pgX6_readSky : List (Nat × Instr × Nat) := [(0, .aload_n 0, 1), (1, .ldc 87, 2), (3, .invokevirtual 88, 3), (6, .ifCond .eq 12, 3), (9, .aload_n 0, 1), (10, .iconst 1, 1), (11, .iconst 4, 1), (12, .invokevirtual 91, 3), (15, .ifCond .ne 5, 3), (18, .iconst 0, 1), (19, .ireturn, 1), (20, .aload_n 0, 1), (21, .getfield 28, 3), (24, .aload_n 0, 1), (25, .getfield 84, 3), (28, .putfield 95, 3), (31, .aload_n 0, 1), (32, .getfield 84, 3), (35, .ifCond .le 18, 3), (38, .bipush 6, 2), (40, .bipush 12, 2), (42, .aload_n 0, 1), (43, .getfield 84, 3), (46, .idiv, 1), (47, .invokestatic 98, 3), (50, .goto 4, 3), (53, .iconst 0, 1), (54, .istore_n 1, 1), (55, .aload_n 0, 1), (56, .iconst 1, 1), (57, .iload_n 1, 1), (58, .invokevirtual 91, 3), (61, .ifCond .ne 5, 3), (64, .iconst 0, 1), (65, .ireturn, 1), (66, .aload_n 0, 1), (67, .getfield 28, 3), (70, .aload_n 0, 1), (71, .getfield 84, 3), (74, .putfield 104, 3), (77, .aload_n 0, 1), (78, .getfield 28, 3), (81, .invokevirtual 63, 3), (84, .aload_n 0, 1), (85, .invokevirtual 107, 3), (88, .ireturn, 1)]
theorem dkX6_readSky : ∀ q ∈ pgX6_readSky, decode cX6_readSky q.1 = .ok q.2 := by decide +kernel
def f_X6_readSky (this : Nat) (h0 : PH) : Option (Int32 × PH) :=
  cb (f_X6_take this 2 h0) (fun (r1 : Int32) (h2 : PH) => lt (fun (h3 : PH) => zr (0 : Int32) h3) (fun (j18 : PH → Option (Int32 × PH)) => if r1 = 0 then (j18 h2) else (cb (f_X6_takeNumber this (1 : Int32) (4 : Int32) h2) (fun (r4 : Int32) (h5 : PH) => if r4 = 0 then (j18 h5) else (lt (pI h5 (rt this 1) 1 (h5.1 this 9)) (fun (h6 : PH) => lt (fun (t7 : Int32) (h8 : PH) => lt t7 (fun (x9 : Int32) => cb (f_X6_takeNumber this (1 : Int32) x9 h8) (fun (r10 : Int32) (h11 : PH) => if r10 = 0 then (zr (0 : Int32) h11) else (lt (pI h11 (rt this 1) 2 (h11.1 this 9)) (fun (h12 : PH) => cb (f_X8_measure (rt this 1) h12) (fun (r13 : Unit) (h14 : PH) => cb (f_X6_endLine this h14) (fun (r15 : Int32) (h16 : PH) => zr r15 h16))))))) (fun (j54 : Int32 → PH → Option (Int32 × PH)) => if (h6.1 this 9) ≤ 0 then (j54 (0 : Int32) h6) else (nz (h6.1 this 9) (j54 (if ((12 : Int32) / (h6.1 this 9)) < (6 : Int32) then ((12 : Int32) / (h6.1 this 9)) else (6 : Int32)) h6)))))))))
set_option maxRecDepth 100000 in
set_option maxHeartbeats 4000000 in
theorem ct_X6_readSky (l : Launch) (this : Nat) (h0 : PH) (hk : (kd this).1 = 6) : CT mkI l yX6_readSky cX6_readSky 2 (some .boolean) (rmd 7) [.ref this] h0 (f_X6_readSky this h0) := by
  refine ct_of (by decide) (Nat.le_of_ble_eq_true rfl) ?_
  intro p e s m args below meth c D cA ad A X hr hlk
  have X : Cx p s m args c RX6 cX6_readSky 2 D cA ad A := X
  unfold f_X6_readSky
  refine so_pick (L' := [(0, .ref this)]) X [0] rfl ?_
  refine so_aload_n (i := 0) X 0 (dkX6_readSky (0, .aload_n 0, 1) (pgm 0 rfl)) rfl rfl ?_
  refine so_ldcS (n := 2) (tx := "sky") X (pgm 2 rfl) (dkX6_readSky (1, .ldc 87, 2) (pgm 1 rfl)) ?_
  refine so_callV (n := 1) (As := [.ref (200 + 2)]) X (ct_X6_take l this 2 h0 hk (by decide : 2 < NS)) hk (by decide) rfl lk_963 lk_965 lk_15 lk_123 lk_966 (by decide +kernel) rfl rfl rfl (rm_ok (by omega) (by decide)) ⟨Nat.zero_le _, Nat.zero_le _⟩ (Nat.le_of_ble_eq_true rfl) (dkX6_readSky (3, .invokevirtual 88, 3) (pgm 2 rfl)) (fun r1 h2 => ?_) rfl
  refine so_join (jf := fun (h3 : PH) => zr (0 : Int32) h3) (fun (j : PH → Option (Int32 × PH)) => ∀  (h3 : PH), SWo (QM mkI below args s D cA ad A) p l e (rmd 7) s m args below meth c 0 0 2 D cA ad A 18 [] [] h3 (j h3)) ?_ (fun j18 hj18 => ?_)
  · intro h3
    refine so_iconst (v := (0 : Int32)) X (dkX6_readSky (18, .iconst 0, 1) (pgm 9 rfl)) ic_0 ?_
    exact so_zret X hr hlk (dkX6_readSky (19, .ireturn, 1) (pgm 10 rfl))
  refine so_if_eq (tgt := 18) X (dkX6_readSky (6, .ifCond .eq 12, 3) (pgm 3 rfl)) rfl (fun _ => ?_) (fun _ => ?_)
  · exact so_pick X [] rfl (hj18 h2)
  · refine so_aload_n (i := 0) X 0 (dkX6_readSky (9, .aload_n 0, 1) (pgm 4 rfl)) rfl rfl ?_
    refine so_iconst (v := (1 : Int32)) X (dkX6_readSky (10, .iconst 1, 1) (pgm 5 rfl)) ic_1 ?_
    refine so_iconst (v := (4 : Int32)) X (dkX6_readSky (11, .iconst 4, 1) (pgm 6 rfl)) ic_4 ?_
    refine so_callV (n := 2) (As := [.int (1 : Int32), .int (4 : Int32)]) X (ct_X6_takeNumber l this (1 : Int32) (4 : Int32) h2 hk) hk (by decide) rfl lk_997 lk_999 lk_17 lk_123 lk_1000 (by decide +kernel) rfl rfl rfl (rm_ok (by omega) (by decide)) ⟨Nat.zero_le _, Nat.zero_le _⟩ (Nat.le_of_ble_eq_true rfl) (dkX6_readSky (12, .invokevirtual 91, 3) (pgm 7 rfl)) (fun r4 h5 => ?_) rfl
    refine so_if_ne (tgt := 20) X (dkX6_readSky (15, .ifCond .ne 5, 3) (pgm 8 rfl)) rfl (fun _ => ?_) (fun _ => ?_)
    · refine so_aload_n (i := 0) X 0 (dkX6_readSky (20, .aload_n 0, 1) (pgm 11 rfl)) rfl rfl ?_
      refine sf_getR X ff_6_1 lk_289 hk (dkX6_readSky (21, .getfield 28, 3) (pgm 12 rfl)) ?_
      refine so_aload_n (i := 0) X 0 (dkX6_readSky (24, .aload_n 0, 1) (pgm 13 rfl)) rfl rfl ?_
      refine sf_getI X ff_6_9 lk_297 hk (dkX6_readSky (25, .getfield 84, 3) (pgm 14 rfl)) ?_
      refine sf_putI X ff_8_1 ft_8 rfl lk_168 (fo (rk_6_1 this hk)) rfl rfl (dkX6_readSky (28, .putfield 95, 3) (pgm 15 rfl)) (fun h6 => ?_)
      refine so_aload_n (i := 0) X 0 (dkX6_readSky (31, .aload_n 0, 1) (pgm 16 rfl)) rfl rfl ?_
      refine sf_getI X ff_6_9 lk_297 hk (dkX6_readSky (32, .getfield 84, 3) (pgm 17 rfl)) ?_
      refine so_join (jf := fun (t7 : Int32) (h8 : PH) => lt t7 (fun (x9 : Int32) => cb (f_X6_takeNumber this (1 : Int32) x9 h8) (fun (r10 : Int32) (h11 : PH) => if r10 = 0 then (zr (0 : Int32) h11) else (lt (pI h11 (rt this 1) 2 (h11.1 this 9)) (fun (h12 : PH) => cb (f_X8_measure (rt this 1) h12) (fun (r13 : Unit) (h14 : PH) => cb (f_X6_endLine this h14) (fun (r15 : Int32) (h16 : PH) => zr r15 h16))))))) (fun (j : Int32 → PH → Option (Int32 × PH)) => ∀ (t7 : Int32) (h8 : PH), SWo (QM mkI below args s D cA ad A) p l e (rmd 7) s m args below meth c 0 0 2 D cA ad A 54 [(0, .ref this)] [.int t7] h8 (j t7 h8)) ?_ (fun j54 hj54 => ?_)
      · intro t7 h8
        refine so_istore_n (i := 1) X (dkX6_readSky (54, .istore_n 1, 1) (pgm 27 rfl)) rfl (by decide) (Lf := fun x9 => [(1, .int x9), (0, .ref this)]) (fun _ => rfl) (fun x9 => ?_)
        refine so_aload_n (i := 0) X 1 (dkX6_readSky (55, .aload_n 0, 1) (pgm 28 rfl)) rfl rfl ?_
        refine so_iconst (v := (1 : Int32)) X (dkX6_readSky (56, .iconst 1, 1) (pgm 29 rfl)) ic_1 ?_
        refine so_iload_n (i := 1) X 0 (dkX6_readSky (57, .iload_n 1, 1) (pgm 30 rfl)) rfl rfl ?_
        refine so_callV (n := 2) (As := [.int (1 : Int32), .int x9]) X (ct_X6_takeNumber l this (1 : Int32) x9 h8 hk) hk (by decide) rfl lk_997 lk_999 lk_17 lk_123 lk_1000 (by decide +kernel) rfl rfl rfl (rm_ok (by omega) (by decide)) ⟨Nat.zero_le _, Nat.zero_le _⟩ (Nat.le_of_ble_eq_true rfl) (dkX6_readSky (58, .invokevirtual 91, 3) (pgm 31 rfl)) (fun r10 h11 => ?_) rfl
        refine so_if_ne (tgt := 66) X (dkX6_readSky (61, .ifCond .ne 5, 3) (pgm 32 rfl)) rfl (fun _ => ?_) (fun _ => ?_)
        · refine so_aload_n (i := 0) X 1 (dkX6_readSky (66, .aload_n 0, 1) (pgm 35 rfl)) rfl rfl ?_
          refine sf_getR X ff_6_1 lk_289 hk (dkX6_readSky (67, .getfield 28, 3) (pgm 36 rfl)) ?_
          refine so_aload_n (i := 0) X 1 (dkX6_readSky (70, .aload_n 0, 1) (pgm 37 rfl)) rfl rfl ?_
          refine sf_getI X ff_6_9 lk_297 hk (dkX6_readSky (71, .getfield 84, 3) (pgm 38 rfl)) ?_
          refine sf_putI X ff_8_2 ft_8 rfl lk_171 (fo (rk_6_1 this hk)) rfl rfl (dkX6_readSky (74, .putfield 104, 3) (pgm 39 rfl)) (fun h12 => ?_)
          refine so_aload_n (i := 0) X 1 (dkX6_readSky (77, .aload_n 0, 1) (pgm 40 rfl)) rfl rfl ?_
          refine sf_getR X ff_6_1 lk_289 hk (dkX6_readSky (78, .getfield 28, 3) (pgm 41 rfl)) ?_
          refine so_callV (n := 0) (As := []) X (ct_X8_measure l (rt this 1) h12 (fo (rk_6_1 this hk))) (fo (rk_6_1 this hk)) (by decide) rfl lk_1006 lk_856 lk_857 lk_122 lk_858 (by decide +kernel) rfl rfl rfl (rm_ok (by omega) (by decide)) ⟨Nat.zero_le _, Nat.zero_le _⟩ (Nat.le_of_ble_eq_true rfl) (dkX6_readSky (81, .invokevirtual 63, 3) (pgm 42 rfl)) (fun r13 h14 => ?_) rfl
          refine so_aload_n (i := 0) X 1 (dkX6_readSky (84, .aload_n 0, 1) (pgm 43 rfl)) rfl rfl ?_
          refine so_callV (n := 0) (As := []) X (ct_X6_endLine l this h14 hk) hk (by decide) rfl lk_1007 lk_1009 lk_18 lk_123 lk_1010 (by decide +kernel) rfl rfl rfl (rm_ok (by omega) (by decide)) ⟨Nat.zero_le _, Nat.zero_le _⟩ (Nat.le_of_ble_eq_true rfl) (dkX6_readSky (85, .invokevirtual 107, 3) (pgm 44 rfl)) (fun r15 h16 => ?_) rfl
          exact so_zret X hr hlk (dkX6_readSky (88, .ireturn, 1) (pgm 45 rfl))
        · refine so_iconst (v := (0 : Int32)) X (dkX6_readSky (64, .iconst 0, 1) (pgm 33 rfl)) ic_0 ?_
          exact so_zret X hr hlk (dkX6_readSky (65, .ireturn, 1) (pgm 34 rfl))
      refine so_if_le (tgt := 53) X (dkX6_readSky (35, .ifCond .le 18, 3) (pgm 18 rfl)) rfl (fun _ => ?_) (fun _ => ?_)
      · refine so_iconst (v := (0 : Int32)) X (dkX6_readSky (53, .iconst 0, 1) (pgm 26 rfl)) ic_0 ?_
        exact so_pick X [0] rfl (hj54 (0 : Int32) h6)
      · refine so_bipush (v := (6 : Int32)) X (dkX6_readSky (38, .bipush 6, 2) (pgm 19 rfl)) bp_6 ?_
        refine so_bipush (v := (12 : Int32)) X (dkX6_readSky (40, .bipush 12, 2) (pgm 20 rfl)) bp_12 ?_
        refine so_aload_n (i := 0) X 0 (dkX6_readSky (42, .aload_n 0, 1) (pgm 21 rfl)) rfl rfl ?_
        refine sf_getI X ff_6_9 lk_297 hk (dkX6_readSky (43, .getfield 84, 3) (pgm 22 rfl)) ?_
        refine so_idiv X (dkX6_readSky (46, .idiv, 1) (pgm 23 rfl)) (fun _ => ?_)
        refine so_mmin X lk_1005 lk_904 lk_135 lk_905 (Nat.le_of_ble_eq_true rfl) (Nat.le_of_ble_eq_true rfl) ⟨Nat.zero_le _, Nat.zero_le _⟩ (dkX6_readSky (47, .invokestatic 98, 3) (pgm 24 rfl)) ?_
        refine so_goto (tgt := 54) X (dkX6_readSky (50, .goto 4, 3) (pgm 25 rfl)) rfl ?_
        exact so_pick X [0] rfl (hj54 (if ((12 : Int32) / (h6.1 this 9)) < (6 : Int32) then ((12 : Int32) / (h6.1 this 9)) else (6 : Int32)) h6)
    · exact so_pick X [] rfl (hj18 h5)
def pgX6_readLine : List (Nat × Instr × Nat) := [(0, .aload_n 0, 1), (1, .getfield 24, 3), (4, .ldc 115, 2), (6, .invokevirtual 69, 3), (9, .ifCond .eq 8, 3), (12, .aload_n 0, 1), (13, .invokevirtual 117, 3), (16, .ireturn, 1), (17, .aload_n 0, 1), (18, .getfield 24, 3), (21, .ldc 120, 2), (23, .invokevirtual 69, 3), (26, .istore_n 1, 1), (27, .iload_n 1, 1), (28, .ifCond .ne 21, 3), (31, .aload_n 0, 1), (32, .getfield 24, 3), (35, .ldc 122, 2), (37, .invokevirtual 69, 3), (40, .ifCond .ne 9, 3), (43, .aload_n 0, 1), (44, .iconst 2, 1), (45, .invokevirtual 73, 3), (48, .ireturn, 1), (49, .aload_n 0, 1), (50, .getfield 24, 3), (53, .invokevirtual 77, 3), (56, .aload_n 0, 1), (57, .iconst 0, 1), (58, .iload_n 1, 1), (59, .ifCond .eq 8, 3), (62, .bipush 6, 2), (64, .goto 4, 3), (67, .iconst 3, 1), (68, .invokevirtual 91, 3), (71, .ifCond .ne 5, 3), (74, .iconst 0, 1), (75, .ireturn, 1), (76, .iload_n 1, 1), (77, .ifCond .eq 17, 3), (80, .aload_n 0, 1), (81, .getfield 28, 3), (84, .aload_n 0, 1), (85, .getfield 84, 3), (88, .putfield 124, 3), (91, .goto 14, 3), (94, .aload_n 0, 1), (95, .getfield 28, 3), (98, .aload_n 0, 1), (99, .getfield 84, 3), (102, .putfield 126, 3), (105, .aload_n 0, 1), (106, .invokevirtual 107, 3), (109, .ireturn, 1)]
theorem dkX6_readLine : ∀ q ∈ pgX6_readLine, decode cX6_readLine q.1 = .ok q.2 := by decide +kernel
def f_X6_readLine (this : Nat) (h0 : PH) : Option (Int32 × PH) :=
  cb (f_X9_at (rt this 0) 4 h0) (fun (r1 : Int32) (h2 : PH) => if r1 = 0 then (cb (f_X9_at (rt this 0) 9 h2) (fun (r3 : Int32) (h4 : PH) => lt r3 (fun (x5 : Int32) => lt (fun (h6 : PH) => cb (f_X9_advance (rt this 0) h6) (fun (r7 : Unit) (h8 : PH) => lt (fun (t9 : Int32) (h10 : PH) => cb (f_X6_takeNumber this (0 : Int32) t9 h10) (fun (r11 : Int32) (h12 : PH) => if r11 = 0 then (zr (0 : Int32) h12) else (lt (fun (h13 : PH) => cb (f_X6_endLine this h13) (fun (r14 : Int32) (h15 : PH) => zr r14 h15)) (fun (j105 : PH → Option (Int32 × PH)) => if x5 = 0 then (lt (pI h12 (rt this 1) 4 (h12.1 this 9)) (fun (h16 : PH) => j105 h16)) else (lt (pI h12 (rt this 1) 3 (h12.1 this 9)) (fun (h17 : PH) => j105 h17)))))) (fun (j68 : Int32 → PH → Option (Int32 × PH)) => if x5 = 0 then (j68 (3 : Int32) h8) else (j68 (6 : Int32) h8)))) (fun (j49 : PH → Option (Int32 × PH)) => if x5 = 0 then (cb (f_X9_at (rt this 0) 10 h4) (fun (r18 : Int32) (h19 : PH) => if r18 = 0 then (cb (f_X6_refuse this (2 : Int32) h19) (fun (r20 : Int32) (h21 : PH) => zr r20 h21)) else (j49 h19))) else (j49 h4))))) else (cb (f_X6_readWish this h2) (fun (r22 : Int32) (h23 : PH) => zr r22 h23)))
set_option maxRecDepth 100000 in
set_option maxHeartbeats 4000000 in
theorem ct_X6_readLine (l : Launch) (this : Nat) (h0 : PH) (hk : (kd this).1 = 6) : CT mkI l yX6_readLine cX6_readLine 2 (some .boolean) (rmd 7) [.ref this] h0 (f_X6_readLine this h0) := by
  refine ct_of (by decide) (Nat.le_of_ble_eq_true rfl) ?_
  intro p e s m args below meth c D cA ad A X hr hlk
  have X : Cx p s m args c RX6 cX6_readLine 2 D cA ad A := X
  unfold f_X6_readLine
  refine so_pick (L' := [(0, .ref this)]) X [0] rfl ?_
  refine so_aload_n (i := 0) X 0 (dkX6_readLine (0, .aload_n 0, 1) (pgm 0 rfl)) rfl rfl ?_
  refine sf_getR X ff_6_0 lk_288 hk (dkX6_readLine (1, .getfield 24, 3) (pgm 1 rfl)) ?_
  refine so_ldcS (n := 4) (tx := "wish") X (pgm 4 rfl) (dkX6_readLine (4, .ldc 115, 2) (pgm 2 rfl)) ?_
  refine so_callV (n := 1) (As := [.ref (200 + 4)]) X (ct_X9_at l (rt this 0) 4 h0 (fo (rk_6_0 this hk)) (by decide : 4 < NS)) (fo (rk_6_0 this hk)) (by decide) rfl lk_967 lk_968 lk_969 lk_124 lk_970 (by decide +kernel) rfl rfl rfl (rm_ok (by omega) (by decide)) ⟨Nat.zero_le _, Nat.zero_le _⟩ (Nat.le_of_ble_eq_true rfl) (dkX6_readLine (6, .invokevirtual 69, 3) (pgm 3 rfl)) (fun r1 h2 => ?_) rfl
  refine so_if_eq (tgt := 17) X (dkX6_readLine (9, .ifCond .eq 8, 3) (pgm 4 rfl)) rfl (fun _ => ?_) (fun _ => ?_)
  · refine so_aload_n (i := 0) X 0 (dkX6_readLine (17, .aload_n 0, 1) (pgm 8 rfl)) rfl rfl ?_
    refine sf_getR X ff_6_0 lk_288 hk (dkX6_readLine (18, .getfield 24, 3) (pgm 9 rfl)) ?_
    refine so_ldcS (n := 9) (tx := "clouds") X (pgm 9 rfl) (dkX6_readLine (21, .ldc 120, 2) (pgm 10 rfl)) ?_
    refine so_callV (n := 1) (As := [.ref (200 + 9)]) X (ct_X9_at l (rt this 0) 9 h2 (fo (rk_6_0 this hk)) (by decide : 9 < NS)) (fo (rk_6_0 this hk)) (by decide) rfl lk_967 lk_968 lk_969 lk_124 lk_970 (by decide +kernel) rfl rfl rfl (rm_ok (by omega) (by decide)) ⟨Nat.zero_le _, Nat.zero_le _⟩ (Nat.le_of_ble_eq_true rfl) (dkX6_readLine (23, .invokevirtual 69, 3) (pgm 11 rfl)) (fun r3 h4 => ?_) rfl
    refine so_istore_n (i := 1) X (dkX6_readLine (26, .istore_n 1, 1) (pgm 12 rfl)) rfl (by decide) (Lf := fun x5 => [(1, .int x5), (0, .ref this)]) (fun _ => rfl) (fun x5 => ?_)
    refine so_iload_n (i := 1) X 0 (dkX6_readLine (27, .iload_n 1, 1) (pgm 13 rfl)) rfl rfl ?_
    refine so_join (jf := fun (h6 : PH) => cb (f_X9_advance (rt this 0) h6) (fun (r7 : Unit) (h8 : PH) => lt (fun (t9 : Int32) (h10 : PH) => cb (f_X6_takeNumber this (0 : Int32) t9 h10) (fun (r11 : Int32) (h12 : PH) => if r11 = 0 then (zr (0 : Int32) h12) else (lt (fun (h13 : PH) => cb (f_X6_endLine this h13) (fun (r14 : Int32) (h15 : PH) => zr r14 h15)) (fun (j105 : PH → Option (Int32 × PH)) => if x5 = 0 then (lt (pI h12 (rt this 1) 4 (h12.1 this 9)) (fun (h16 : PH) => j105 h16)) else (lt (pI h12 (rt this 1) 3 (h12.1 this 9)) (fun (h17 : PH) => j105 h17)))))) (fun (j68 : Int32 → PH → Option (Int32 × PH)) => if x5 = 0 then (j68 (3 : Int32) h8) else (j68 (6 : Int32) h8)))) (fun (j : PH → Option (Int32 × PH)) => ∀  (h6 : PH), SWo (QM mkI below args s D cA ad A) p l e (rmd 7) s m args below meth c 0 0 2 D cA ad A 49 [(0, .ref this), (1, .int x5)] [] h6 (j h6)) ?_ (fun j49 hj49 => ?_)
    · intro h6
      refine so_aload_n (i := 0) X 0 (dkX6_readLine (49, .aload_n 0, 1) (pgm 24 rfl)) rfl rfl ?_
      refine sf_getR X ff_6_0 lk_288 hk (dkX6_readLine (50, .getfield 24, 3) (pgm 25 rfl)) ?_
      refine so_callV (n := 0) (As := []) X (ct_X9_advance l (rt this 0) h6 (fo (rk_6_0 this hk))) (fo (rk_6_0 this hk)) (by decide) rfl lk_996 lk_864 lk_865 lk_124 lk_866 (by decide +kernel) rfl rfl rfl (rm_ok (by omega) (by decide)) ⟨Nat.zero_le _, Nat.zero_le _⟩ (Nat.le_of_ble_eq_true rfl) (dkX6_readLine (53, .invokevirtual 77, 3) (pgm 26 rfl)) (fun r7 h8 => ?_) rfl
      refine so_aload_n (i := 0) X 0 (dkX6_readLine (56, .aload_n 0, 1) (pgm 27 rfl)) rfl rfl ?_
      refine so_iconst (v := (0 : Int32)) X (dkX6_readLine (57, .iconst 0, 1) (pgm 28 rfl)) ic_0 ?_
      refine so_iload_n (i := 1) X 1 (dkX6_readLine (58, .iload_n 1, 1) (pgm 29 rfl)) rfl rfl ?_
      refine so_join (jf := fun (t9 : Int32) (h10 : PH) => cb (f_X6_takeNumber this (0 : Int32) t9 h10) (fun (r11 : Int32) (h12 : PH) => if r11 = 0 then (zr (0 : Int32) h12) else (lt (fun (h13 : PH) => cb (f_X6_endLine this h13) (fun (r14 : Int32) (h15 : PH) => zr r14 h15)) (fun (j105 : PH → Option (Int32 × PH)) => if x5 = 0 then (lt (pI h12 (rt this 1) 4 (h12.1 this 9)) (fun (h16 : PH) => j105 h16)) else (lt (pI h12 (rt this 1) 3 (h12.1 this 9)) (fun (h17 : PH) => j105 h17)))))) (fun (j : Int32 → PH → Option (Int32 × PH)) => ∀ (t9 : Int32) (h10 : PH), SWo (QM mkI below args s D cA ad A) p l e (rmd 7) s m args below meth c 0 0 2 D cA ad A 68 [(0, .ref this), (1, .int x5)] [.int t9, .int (0 : Int32), .ref this] h10 (j t9 h10)) ?_ (fun j68 hj68 => ?_)
      · intro t9 h10
        refine so_callV (n := 2) (As := [.int (0 : Int32), .int t9]) X (ct_X6_takeNumber l this (0 : Int32) t9 h10 hk) hk (by decide) rfl lk_997 lk_999 lk_17 lk_123 lk_1000 (by decide +kernel) rfl rfl rfl (rm_ok (by omega) (by decide)) ⟨Nat.zero_le _, Nat.zero_le _⟩ (Nat.le_of_ble_eq_true rfl) (dkX6_readLine (68, .invokevirtual 91, 3) (pgm 34 rfl)) (fun r11 h12 => ?_) rfl
        refine so_if_ne (tgt := 76) X (dkX6_readLine (71, .ifCond .ne 5, 3) (pgm 35 rfl)) rfl (fun _ => ?_) (fun _ => ?_)
        · refine so_iload_n (i := 1) X 1 (dkX6_readLine (76, .iload_n 1, 1) (pgm 38 rfl)) rfl rfl ?_
          refine so_join (jf := fun (h13 : PH) => cb (f_X6_endLine this h13) (fun (r14 : Int32) (h15 : PH) => zr r14 h15)) (fun (j : PH → Option (Int32 × PH)) => ∀  (h13 : PH), SWo (QM mkI below args s D cA ad A) p l e (rmd 7) s m args below meth c 0 0 2 D cA ad A 105 [(0, .ref this)] [] h13 (j h13)) ?_ (fun j105 hj105 => ?_)
          · intro h13
            refine so_aload_n (i := 0) X 0 (dkX6_readLine (105, .aload_n 0, 1) (pgm 51 rfl)) rfl rfl ?_
            refine so_callV (n := 0) (As := []) X (ct_X6_endLine l this h13 hk) hk (by decide) rfl lk_1007 lk_1009 lk_18 lk_123 lk_1010 (by decide +kernel) rfl rfl rfl (rm_ok (by omega) (by decide)) ⟨Nat.zero_le _, Nat.zero_le _⟩ (Nat.le_of_ble_eq_true rfl) (dkX6_readLine (106, .invokevirtual 107, 3) (pgm 52 rfl)) (fun r14 h15 => ?_) rfl
            exact so_zret X hr hlk (dkX6_readLine (109, .ireturn, 1) (pgm 53 rfl))
          refine so_if_eq (tgt := 94) X (dkX6_readLine (77, .ifCond .eq 17, 3) (pgm 39 rfl)) rfl (fun _ => ?_) (fun _ => ?_)
          · refine so_aload_n (i := 0) X 0 (dkX6_readLine (94, .aload_n 0, 1) (pgm 46 rfl)) rfl rfl ?_
            refine sf_getR X ff_6_1 lk_289 hk (dkX6_readLine (95, .getfield 28, 3) (pgm 47 rfl)) ?_
            refine so_aload_n (i := 0) X 0 (dkX6_readLine (98, .aload_n 0, 1) (pgm 48 rfl)) rfl rfl ?_
            refine sf_getI X ff_6_9 lk_297 hk (dkX6_readLine (99, .getfield 84, 3) (pgm 49 rfl)) ?_
            refine sf_putI X ff_8_4 ft_8 rfl lk_178 (fo (rk_6_1 this hk)) rfl rfl (dkX6_readLine (102, .putfield 126, 3) (pgm 50 rfl)) (fun h16 => ?_)
            exact so_pick X [0] rfl (hj105 h16)
          · refine so_aload_n (i := 0) X 0 (dkX6_readLine (80, .aload_n 0, 1) (pgm 40 rfl)) rfl rfl ?_
            refine sf_getR X ff_6_1 lk_289 hk (dkX6_readLine (81, .getfield 28, 3) (pgm 41 rfl)) ?_
            refine so_aload_n (i := 0) X 0 (dkX6_readLine (84, .aload_n 0, 1) (pgm 42 rfl)) rfl rfl ?_
            refine sf_getI X ff_6_9 lk_297 hk (dkX6_readLine (85, .getfield 84, 3) (pgm 43 rfl)) ?_
            refine sf_putI X ff_8_3 ft_8 rfl lk_174 (fo (rk_6_1 this hk)) rfl rfl (dkX6_readLine (88, .putfield 124, 3) (pgm 44 rfl)) (fun h17 => ?_)
            refine so_goto (tgt := 105) X (dkX6_readLine (91, .goto 14, 3) (pgm 45 rfl)) rfl ?_
            exact so_pick X [0] rfl (hj105 h17)
        · refine so_iconst (v := (0 : Int32)) X (dkX6_readLine (74, .iconst 0, 1) (pgm 36 rfl)) ic_0 ?_
          exact so_zret X hr hlk (dkX6_readLine (75, .ireturn, 1) (pgm 37 rfl))
      refine so_if_eq (tgt := 67) X (dkX6_readLine (59, .ifCond .eq 8, 3) (pgm 30 rfl)) rfl (fun _ => ?_) (fun _ => ?_)
      · refine so_iconst (v := (3 : Int32)) X (dkX6_readLine (67, .iconst 3, 1) (pgm 33 rfl)) ic_3 ?_
        exact so_pick X [0, 1] rfl (hj68 (3 : Int32) h8)
      · refine so_bipush (v := (6 : Int32)) X (dkX6_readLine (62, .bipush 6, 2) (pgm 31 rfl)) bp_6 ?_
        refine so_goto (tgt := 68) X (dkX6_readLine (64, .goto 4, 3) (pgm 32 rfl)) rfl ?_
        exact so_pick X [0, 1] rfl (hj68 (6 : Int32) h8)
    refine so_if_ne (tgt := 49) X (dkX6_readLine (28, .ifCond .ne 21, 3) (pgm 14 rfl)) rfl (fun _ => ?_) (fun _ => ?_)
    · exact so_pick X [1, 0] rfl (hj49 h4)
    · refine so_aload_n (i := 0) X 1 (dkX6_readLine (31, .aload_n 0, 1) (pgm 15 rfl)) rfl rfl ?_
      refine sf_getR X ff_6_0 lk_288 hk (dkX6_readLine (32, .getfield 24, 3) (pgm 16 rfl)) ?_
      refine so_ldcS (n := 10) (tx := "wind") X (pgm 10 rfl) (dkX6_readLine (35, .ldc 122, 2) (pgm 17 rfl)) ?_
      refine so_callV (n := 1) (As := [.ref (200 + 10)]) X (ct_X9_at l (rt this 0) 10 h4 (fo (rk_6_0 this hk)) (by decide : 10 < NS)) (fo (rk_6_0 this hk)) (by decide) rfl lk_967 lk_968 lk_969 lk_124 lk_970 (by decide +kernel) rfl rfl rfl (rm_ok (by omega) (by decide)) ⟨Nat.zero_le _, Nat.zero_le _⟩ (Nat.le_of_ble_eq_true rfl) (dkX6_readLine (37, .invokevirtual 69, 3) (pgm 18 rfl)) (fun r18 h19 => ?_) rfl
      refine so_if_ne (tgt := 49) X (dkX6_readLine (40, .ifCond .ne 9, 3) (pgm 19 rfl)) rfl (fun _ => ?_) (fun _ => ?_)
      · exact so_pick X [1, 0] rfl (hj49 h19)
      · refine so_aload_n (i := 0) X 1 (dkX6_readLine (43, .aload_n 0, 1) (pgm 20 rfl)) rfl rfl ?_
        refine so_iconst (v := (2 : Int32)) X (dkX6_readLine (44, .iconst 2, 1) (pgm 21 rfl)) ic_2 ?_
        refine so_callV (n := 1) (As := [.int (2 : Int32)]) X (ct_X6_refuse l this (2 : Int32) h19 hk) hk (by decide) rfl lk_992 lk_994 lk_16 lk_123 lk_995 (by decide +kernel) rfl rfl rfl (rm_ok (by omega) (by decide)) ⟨Nat.zero_le _, Nat.zero_le _⟩ (Nat.le_of_ble_eq_true rfl) (dkX6_readLine (45, .invokevirtual 73, 3) (pgm 22 rfl)) (fun r20 h21 => ?_) rfl
        exact so_zret X hr hlk (dkX6_readLine (48, .ireturn, 1) (pgm 23 rfl))
  · refine so_aload_n (i := 0) X 0 (dkX6_readLine (12, .aload_n 0, 1) (pgm 5 rfl)) rfl rfl ?_
    refine so_callV (n := 0) (As := []) X (ct_X6_readWish l this h2 hk) hk (by decide) rfl lk_1017 lk_1019 lk_20 lk_123 lk_1020 (by decide +kernel) rfl rfl rfl (rm_ok (by omega) (by decide)) ⟨Nat.zero_le _, Nat.zero_le _⟩ (Nat.le_of_ble_eq_true rfl) (dkX6_readLine (13, .invokevirtual 117, 3) (pgm 6 rfl)) (fun r22 h23 => ?_) rfl
    exact so_zret X hr hlk (dkX6_readLine (16, .ireturn, 1) (pgm 7 rfl))
def pgX6_open : List (Nat × Instr × Nat) := [(0, .aload_n 0, 1), (1, .getfield 153, 3), (4, .bipush 6, 2), (6, .if_icmp .lt 9, 3), (9, .aload_n 0, 1), (10, .iconst 4, 1), (11, .invokevirtual 73, 3), (14, .ireturn, 1), (15, .aload_n 0, 1), (16, .dup, 1), (17, .getfield 153, 3), (20, .iconst 1, 1), (21, .iadd, 1), (22, .putfield 153, 3), (25, .iload_n 1, 1), (26, .ifCond .ne 16, 3), (29, .aload_n 0, 1), (30, .dup, 1), (31, .getfield 156, 3), (34, .iconst 1, 1), (35, .iadd, 1), (36, .putfield 156, 3), (39, .goto 18, 3), (42, .iload_n 1, 1), (43, .iconst 1, 1), (44, .if_icmp .ne 13, 3), (47, .aload_n 0, 1), (48, .dup, 1), (49, .getfield 159, 3), (52, .iconst 1, 1), (53, .iadd, 1), (54, .putfield 159, 3), (57, .aload_n 0, 1), (58, .iload_n 1, 1), (59, .iload_n 2, 1), (60, .invokevirtual 180, 3), (63, .ireturn, 1)]
theorem dkX6_open : ∀ q ∈ pgX6_open, decode cX6_open q.1 = .ok q.2 := by decide +kernel
def f_X6_open (this : Nat) (a1 : Int32) (a2 : Int32) (h0 : PH) : Option (Int32 × PH) :=
  if (h0.1 this 4) < (6 : Int32) then (lt (pI h0 this 4 ((h0.1 this 4) + (1 : Int32))) (fun (h1 : PH) => lt (fun (h2 : PH) => cb (f_X6_await this a1 a2 h2) (fun (r3 : Int32) (h4 : PH) => zr r3 h4)) (fun (j57 : PH → Option (Int32 × PH)) => if a1 = 0 then (lt (pI h1 this 5 ((h1.1 this 5) + (1 : Int32))) (fun (h6 : PH) => j57 h6)) else (if a1 = (1 : Int32) then (lt (pI h1 this 6 ((h1.1 this 6) + (1 : Int32))) (fun (h5 : PH) => j57 h5)) else (j57 h1))))) else (cb (f_X6_refuse this (4 : Int32) h0) (fun (r7 : Int32) (h8 : PH) => zr r7 h8))
set_option maxRecDepth 100000 in
set_option maxHeartbeats 4000000 in
theorem ct_X6_open (l : Launch) (this : Nat) (a1 : Int32) (a2 : Int32) (h0 : PH) (hk : (kd this).1 = 6) : CT mkI l yX6_open cX6_open 3 (some .boolean) (rmd 6) [.ref this, .int a1, .int a2] h0 (f_X6_open this a1 a2 h0) := by
  refine ct_of (by decide) (Nat.le_of_ble_eq_true rfl) ?_
  intro p e s m args below meth c D cA ad A X hr hlk
  have X : Cx p s m args c RX6 cX6_open 3 D cA ad A := X
  unfold f_X6_open
  refine so_pick (L' := [(0, .ref this), (1, .int a1), (2, .int a2)]) X [0, 1, 2] rfl ?_
  refine so_aload_n (i := 0) X 0 (dkX6_open (0, .aload_n 0, 1) (pgm 0 rfl)) rfl rfl ?_
  refine sf_getI X ff_6_4 lk_292 hk (dkX6_open (1, .getfield 153, 3) (pgm 1 rfl)) ?_
  refine so_bipush (v := (6 : Int32)) X (dkX6_open (4, .bipush 6, 2) (pgm 2 rfl)) bp_6 ?_
  refine so_icmp_lt (tgt := 15) X (dkX6_open (6, .if_icmp .lt 9, 3) (pgm 3 rfl)) rfl (fun _ => ?_) (fun _ => ?_)
  · refine so_aload_n (i := 0) X 0 (dkX6_open (15, .aload_n 0, 1) (pgm 8 rfl)) rfl rfl ?_
    refine so_dup X (dkX6_open (16, .dup, 1) (pgm 9 rfl)) rfl ?_
    refine sf_getI X ff_6_4 lk_292 hk (dkX6_open (17, .getfield 153, 3) (pgm 10 rfl)) ?_
    refine so_iconst (v := (1 : Int32)) X (dkX6_open (20, .iconst 1, 1) (pgm 11 rfl)) ic_1 ?_
    refine so_iadd X (dkX6_open (21, .iadd, 1) (pgm 12 rfl)) ?_
    refine sf_putI X ff_6_4 ft_6 rfl lk_292 hk rfl rfl (dkX6_open (22, .putfield 153, 3) (pgm 13 rfl)) (fun h1 => ?_)
    refine so_iload_n (i := 1) X 1 (dkX6_open (25, .iload_n 1, 1) (pgm 14 rfl)) rfl rfl ?_
    refine so_join (jf := fun (h2 : PH) => cb (f_X6_await this a1 a2 h2) (fun (r3 : Int32) (h4 : PH) => zr r3 h4)) (fun (j : PH → Option (Int32 × PH)) => ∀  (h2 : PH), SWo (QM mkI below args s D cA ad A) p l e (rmd 6) s m args below meth c 0 0 3 D cA ad A 57 [(0, .ref this), (1, .int a1), (2, .int a2)] [] h2 (j h2)) ?_ (fun j57 hj57 => ?_)
    · intro h2
      refine so_aload_n (i := 0) X 0 (dkX6_open (57, .aload_n 0, 1) (pgm 32 rfl)) rfl rfl ?_
      refine so_iload_n (i := 1) X 1 (dkX6_open (58, .iload_n 1, 1) (pgm 33 rfl)) rfl rfl ?_
      refine so_iload_n (i := 2) X 2 (dkX6_open (59, .iload_n 2, 1) (pgm 34 rfl)) rfl rfl ?_
      refine so_callV (n := 2) (As := [.int a1, .int a2]) X (ct_X6_await l this a1 a2 h2 hk) hk (by decide) rfl lk_1036 lk_1038 lk_23 lk_123 lk_1039 (by decide +kernel) rfl rfl rfl (rm_ok (by omega) (by decide)) ⟨Nat.zero_le _, Nat.zero_le _⟩ (Nat.le_of_ble_eq_true rfl) (dkX6_open (60, .invokevirtual 180, 3) (pgm 35 rfl)) (fun r3 h4 => ?_) rfl
      exact so_zret X hr hlk (dkX6_open (63, .ireturn, 1) (pgm 36 rfl))
    refine so_if_ne (tgt := 42) X (dkX6_open (26, .ifCond .ne 16, 3) (pgm 15 rfl)) rfl (fun _ => ?_) (fun _ => ?_)
    · refine so_iload_n (i := 1) X 1 (dkX6_open (42, .iload_n 1, 1) (pgm 23 rfl)) rfl rfl ?_
      refine so_iconst (v := (1 : Int32)) X (dkX6_open (43, .iconst 1, 1) (pgm 24 rfl)) ic_1 ?_
      refine so_icmp_ne (tgt := 57) X (dkX6_open (44, .if_icmp .ne 13, 3) (pgm 25 rfl)) rfl (fun _ => ?_) (fun _ => ?_)
      · exact so_pick X [0, 1, 2] rfl (hj57 h1)
      · refine so_aload_n (i := 0) X 0 (dkX6_open (47, .aload_n 0, 1) (pgm 26 rfl)) rfl rfl ?_
        refine so_dup X (dkX6_open (48, .dup, 1) (pgm 27 rfl)) rfl ?_
        refine sf_getI X ff_6_6 lk_294 hk (dkX6_open (49, .getfield 159, 3) (pgm 28 rfl)) ?_
        refine so_iconst (v := (1 : Int32)) X (dkX6_open (52, .iconst 1, 1) (pgm 29 rfl)) ic_1 ?_
        refine so_iadd X (dkX6_open (53, .iadd, 1) (pgm 30 rfl)) ?_
        refine sf_putI X ff_6_6 ft_6 rfl lk_294 hk rfl rfl (dkX6_open (54, .putfield 159, 3) (pgm 31 rfl)) (fun h5 => ?_)
        exact so_pick X [0, 1, 2] rfl (hj57 h5)
    · refine so_aload_n (i := 0) X 0 (dkX6_open (29, .aload_n 0, 1) (pgm 16 rfl)) rfl rfl ?_
      refine so_dup X (dkX6_open (30, .dup, 1) (pgm 17 rfl)) rfl ?_
      refine sf_getI X ff_6_5 lk_293 hk (dkX6_open (31, .getfield 156, 3) (pgm 18 rfl)) ?_
      refine so_iconst (v := (1 : Int32)) X (dkX6_open (34, .iconst 1, 1) (pgm 19 rfl)) ic_1 ?_
      refine so_iadd X (dkX6_open (35, .iadd, 1) (pgm 20 rfl)) ?_
      refine sf_putI X ff_6_5 ft_6 rfl lk_293 hk rfl rfl (dkX6_open (36, .putfield 156, 3) (pgm 21 rfl)) (fun h6 => ?_)
      refine so_goto (tgt := 57) X (dkX6_open (39, .goto 18, 3) (pgm 22 rfl)) rfl ?_
      exact so_pick X [0, 1, 2] rfl (hj57 h6)
  · refine so_aload_n (i := 0) X 0 (dkX6_open (9, .aload_n 0, 1) (pgm 4 rfl)) rfl rfl ?_
    refine so_iconst (v := (4 : Int32)) X (dkX6_open (10, .iconst 4, 1) (pgm 5 rfl)) ic_4 ?_
    refine so_callV (n := 1) (As := [.int (4 : Int32)]) X (ct_X6_refuse l this (4 : Int32) h0 hk) hk (by decide) rfl lk_992 lk_994 lk_16 lk_123 lk_995 (by decide +kernel) rfl rfl rfl (rm_ok (by omega) (by decide)) ⟨Nat.zero_le _, Nat.zero_le _⟩ (Nat.le_of_ble_eq_true rfl) (dkX6_open (11, .invokevirtual 73, 3) (pgm 6 rfl)) (fun r7 h8 => ?_) rfl
    exact so_zret X hr hlk (dkX6_open (14, .ireturn, 1) (pgm 7 rfl))
def pgX6_readOperator : List (Nat × Instr × Nat) := [(0, .aload_n 0, 1), (1, .getfield 40, 3), (4, .iconst 3, 1), (5, .if_icmp .ne 88, 3), (8, .aload_n 0, 1), (9, .invokevirtual 205, 3), (12, .istore_n 1, 1), (13, .iload_n 1, 1), (14, .ifCond .lt 10, 3), (17, .aload_n 0, 1), (18, .iload_n 1, 1), (19, .iconst 2, 1), (20, .invokevirtual 208, 3), (23, .ireturn, 1), (24, .aload_n 0, 1), (25, .getfield 156, 3), (28, .ifCond .le 29, 3), (31, .aload_n 0, 1), (32, .getfield 24, 3), (35, .ldc 211, 2), (37, .invokevirtual 69, 3), (40, .ifCond .eq 11, 3), (43, .aload_n 0, 1), (44, .iconst 0, 1), (45, .invokevirtual 213, 3), (48, .goto 8, 3), (51, .aload_n 0, 1), (52, .iconst 2, 1), (53, .invokevirtual 73, 3), (56, .ireturn, 1), (57, .aload_n 0, 1), (58, .getfield 164, 3), (61, .ifCond .ne 32, 3), (64, .aload_n 0, 1), (65, .invokevirtual 216, 3), (68, .istore_n 1, 1), (69, .aload_n 0, 1), (70, .iconst 1, 1), (71, .putfield 164, 3), (74, .iload_n 1, 1), (75, .ifCond .lt 12, 3), (78, .aload_n 0, 1), (79, .iload_n 1, 1), (80, .iconst 2, 1), (81, .invokevirtual 208, 3), (84, .goto 8, 3), (87, .aload_n 0, 1), (88, .iconst 2, 1), (89, .invokevirtual 73, 3), (92, .ireturn, 1), (93, .aload_n 0, 1), (94, .getfield 24, 3), (97, .ldc 219, 2), (99, .invokevirtual 69, 3), (102, .ifCond .eq 10, 3), (105, .aload_n 0, 1), (106, .iconst 3, 1), (107, .iconst 1, 1), (108, .invokevirtual 208, 3), (111, .ireturn, 1), (112, .aload_n 0, 1), (113, .getfield 24, 3), (116, .ldc 221, 2), (118, .invokevirtual 69, 3), (121, .ifCond .eq 10, 3), (124, .aload_n 0, 1), (125, .iconst 2, 1), (126, .iconst 1, 1), (127, .invokevirtual 208, 3), (130, .ireturn, 1), (131, .aload_n 0, 1), (132, .getfield 159, 3), (135, .ifCond .le 29, 3), (138, .aload_n 0, 1), (139, .getfield 24, 3), (142, .ldc 223, 2), (144, .invokevirtual 69, 3), (147, .ifCond .eq 11, 3), (150, .aload_n 0, 1), (151, .iconst 1, 1), (152, .invokevirtual 213, 3), (155, .goto 8, 3), (158, .aload_n 0, 1), (159, .iconst 2, 1), (160, .invokevirtual 73, 3), (163, .ireturn, 1), (164, .aload_n 0, 1), (165, .invokevirtual 225, 3), (168, .aload_n 0, 1), (169, .invokevirtual 107, 3), (172, .ireturn, 1)]
theorem dkX6_readOperator : ∀ q ∈ pgX6_readOperator, decode cX6_readOperator q.1 = .ok q.2 := by decide +kernel
def f_X6_readOperator (this : Nat) (h0 : PH) : Option (Int32 × PH) :=
  lt (fun (h1 : PH) => cb (f_X9_at (rt this 0) 25 h1) (fun (r2 : Int32) (h3 : PH) => if r2 = 0 then (cb (f_X9_at (rt this 0) 26 h3) (fun (r4 : Int32) (h5 : PH) => if r4 = 0 then (if (h5.1 this 6) ≤ 0 then (cb (f_X6_endWish this h5) (fun (r6 : Unit) (h7 : PH) => cb (f_X6_endLine this h7) (fun (r8 : Int32) (h9 : PH) => zr r8 h9))) else (cb (f_X9_at (rt this 0) 27 h5) (fun (r10 : Int32) (h11 : PH) => lt (fun (t12 : Int32) (h13 : PH) => zr t12 h13) (fun (j163 : Int32 → PH → Option (Int32 × PH)) => if r10 = 0 then (cb (f_X6_refuse this (2 : Int32) h11) (fun (r14 : Int32) (h15 : PH) => j163 r14 h15)) else (cb (f_X6_close this (1 : Int32) h11) (fun (r16 : Int32) (h17 : PH) => j163 r16 h17)))))) else (cb (f_X6_join this (2 : Int32) (1 : Int32) h5) (fun (r18 : Int32) (h19 : PH) => zr r18 h19)))) else (cb (f_X6_join this (3 : Int32) (1 : Int32) h3) (fun (r20 : Int32) (h21 : PH) => zr r20 h21)))) (fun (j93 : PH → Option (Int32 × PH)) => if (h0.1 this 8) = (3 : Int32) then (cb (f_X6_arithmeticSign this h0) (fun (r22 : Int32) (h23 : PH) => lt r22 (fun (x24 : Int32) => if x24 < 0 then (if (h23.1 this 5) ≤ 0 then (if (h23.1 this 7) = 0 then (cb (f_X6_comparingSign this h23) (fun (r25 : Int32) (h26 : PH) => lt r25 (fun (x27 : Int32) => lt (pI h26 this 7 (1 : Int32)) (fun (h28 : PH) => lt (fun (t29 : Int32) (h30 : PH) => zr t29 h30) (fun (j92 : Int32 → PH → Option (Int32 × PH)) => if x27 < 0 then (cb (f_X6_refuse this (2 : Int32) h28) (fun (r31 : Int32) (h32 : PH) => j92 r31 h32)) else (cb (f_X6_join this x27 (2 : Int32) h28) (fun (r33 : Int32) (h34 : PH) => j92 r33 h34))))))) else (j93 h23)) else (cb (f_X9_at (rt this 0) 21 h23) (fun (r35 : Int32) (h36 : PH) => lt (fun (t37 : Int32) (h38 : PH) => zr t37 h38) (fun (j56 : Int32 → PH → Option (Int32 × PH)) => if r35 = 0 then (cb (f_X6_refuse this (2 : Int32) h36) (fun (r39 : Int32) (h40 : PH) => j56 r39 h40)) else (cb (f_X6_close this (0 : Int32) h36) (fun (r41 : Int32) (h42 : PH) => j56 r41 h42)))))) else (cb (f_X6_join this x24 (2 : Int32) h23) (fun (r43 : Int32) (h44 : PH) => zr r43 h44))))) else (j93 h0))
set_option maxRecDepth 100000 in
set_option maxHeartbeats 4000000 in
theorem ct_X6_readOperator (l : Launch) (this : Nat) (h0 : PH) (hk : (kd this).1 = 6) : CT mkI l yX6_readOperator cX6_readOperator 2 (some .boolean) (rmd 7) [.ref this] h0 (f_X6_readOperator this h0) := by
  refine ct_of (by decide) (Nat.le_of_ble_eq_true rfl) ?_
  intro p e s m args below meth c D cA ad A X hr hlk
  have X : Cx p s m args c RX6 cX6_readOperator 2 D cA ad A := X
  unfold f_X6_readOperator
  refine so_pick (L' := [(0, .ref this)]) X [0] rfl ?_
  refine so_aload_n (i := 0) X 0 (dkX6_readOperator (0, .aload_n 0, 1) (pgm 0 rfl)) rfl rfl ?_
  refine sf_getI X ff_6_8 lk_296 hk (dkX6_readOperator (1, .getfield 40, 3) (pgm 1 rfl)) ?_
  refine so_iconst (v := (3 : Int32)) X (dkX6_readOperator (4, .iconst 3, 1) (pgm 2 rfl)) ic_3 ?_
  refine so_join (jf := fun (h1 : PH) => cb (f_X9_at (rt this 0) 25 h1) (fun (r2 : Int32) (h3 : PH) => if r2 = 0 then (cb (f_X9_at (rt this 0) 26 h3) (fun (r4 : Int32) (h5 : PH) => if r4 = 0 then (if (h5.1 this 6) ≤ 0 then (cb (f_X6_endWish this h5) (fun (r6 : Unit) (h7 : PH) => cb (f_X6_endLine this h7) (fun (r8 : Int32) (h9 : PH) => zr r8 h9))) else (cb (f_X9_at (rt this 0) 27 h5) (fun (r10 : Int32) (h11 : PH) => lt (fun (t12 : Int32) (h13 : PH) => zr t12 h13) (fun (j163 : Int32 → PH → Option (Int32 × PH)) => if r10 = 0 then (cb (f_X6_refuse this (2 : Int32) h11) (fun (r14 : Int32) (h15 : PH) => j163 r14 h15)) else (cb (f_X6_close this (1 : Int32) h11) (fun (r16 : Int32) (h17 : PH) => j163 r16 h17)))))) else (cb (f_X6_join this (2 : Int32) (1 : Int32) h5) (fun (r18 : Int32) (h19 : PH) => zr r18 h19)))) else (cb (f_X6_join this (3 : Int32) (1 : Int32) h3) (fun (r20 : Int32) (h21 : PH) => zr r20 h21)))) (fun (j : PH → Option (Int32 × PH)) => ∀  (h1 : PH), SWo (QM mkI below args s D cA ad A) p l e (rmd 7) s m args below meth c 0 0 2 D cA ad A 93 [(0, .ref this)] [] h1 (j h1)) ?_ (fun j93 hj93 => ?_)
  · intro h1
    refine so_aload_n (i := 0) X 0 (dkX6_readOperator (93, .aload_n 0, 1) (pgm 50 rfl)) rfl rfl ?_
    refine sf_getR X ff_6_0 lk_288 hk (dkX6_readOperator (94, .getfield 24, 3) (pgm 51 rfl)) ?_
    refine so_ldcS (n := 25) (tx := "and") X (pgm 25 rfl) (dkX6_readOperator (97, .ldc 219, 2) (pgm 52 rfl)) ?_
    refine so_callV (n := 1) (As := [.ref (200 + 25)]) X (ct_X9_at l (rt this 0) 25 h1 (fo (rk_6_0 this hk)) (by decide : 25 < NS)) (fo (rk_6_0 this hk)) (by decide) rfl lk_967 lk_968 lk_969 lk_124 lk_970 (by decide +kernel) rfl rfl rfl (rm_ok (by omega) (by decide)) ⟨Nat.zero_le _, Nat.zero_le _⟩ (Nat.le_of_ble_eq_true rfl) (dkX6_readOperator (99, .invokevirtual 69, 3) (pgm 53 rfl)) (fun r2 h3 => ?_) rfl
    refine so_if_eq (tgt := 112) X (dkX6_readOperator (102, .ifCond .eq 10, 3) (pgm 54 rfl)) rfl (fun _ => ?_) (fun _ => ?_)
    · refine so_aload_n (i := 0) X 0 (dkX6_readOperator (112, .aload_n 0, 1) (pgm 60 rfl)) rfl rfl ?_
      refine sf_getR X ff_6_0 lk_288 hk (dkX6_readOperator (113, .getfield 24, 3) (pgm 61 rfl)) ?_
      refine so_ldcS (n := 26) (tx := "or") X (pgm 26 rfl) (dkX6_readOperator (116, .ldc 221, 2) (pgm 62 rfl)) ?_
      refine so_callV (n := 1) (As := [.ref (200 + 26)]) X (ct_X9_at l (rt this 0) 26 h3 (fo (rk_6_0 this hk)) (by decide : 26 < NS)) (fo (rk_6_0 this hk)) (by decide) rfl lk_967 lk_968 lk_969 lk_124 lk_970 (by decide +kernel) rfl rfl rfl (rm_ok (by omega) (by decide)) ⟨Nat.zero_le _, Nat.zero_le _⟩ (Nat.le_of_ble_eq_true rfl) (dkX6_readOperator (118, .invokevirtual 69, 3) (pgm 63 rfl)) (fun r4 h5 => ?_) rfl
      refine so_if_eq (tgt := 131) X (dkX6_readOperator (121, .ifCond .eq 10, 3) (pgm 64 rfl)) rfl (fun _ => ?_) (fun _ => ?_)
      · refine so_aload_n (i := 0) X 0 (dkX6_readOperator (131, .aload_n 0, 1) (pgm 70 rfl)) rfl rfl ?_
        refine sf_getI X ff_6_6 lk_294 hk (dkX6_readOperator (132, .getfield 159, 3) (pgm 71 rfl)) ?_
        refine so_if_le (tgt := 164) X (dkX6_readOperator (135, .ifCond .le 29, 3) (pgm 72 rfl)) rfl (fun _ => ?_) (fun _ => ?_)
        · refine so_aload_n (i := 0) X 0 (dkX6_readOperator (164, .aload_n 0, 1) (pgm 86 rfl)) rfl rfl ?_
          refine so_callV (n := 0) (As := []) X (ct_X6_endWish l this h5 hk) hk (by decide) rfl lk_1098 lk_1100 lk_31 lk_123 lk_1101 (by decide +kernel) rfl rfl rfl (rm_ok (by omega) (by decide)) ⟨Nat.zero_le _, Nat.zero_le _⟩ (Nat.le_of_ble_eq_true rfl) (dkX6_readOperator (165, .invokevirtual 225, 3) (pgm 87 rfl)) (fun r6 h7 => ?_) rfl
          refine so_aload_n (i := 0) X 0 (dkX6_readOperator (168, .aload_n 0, 1) (pgm 88 rfl)) rfl rfl ?_
          refine so_callV (n := 0) (As := []) X (ct_X6_endLine l this h7 hk) hk (by decide) rfl lk_1007 lk_1009 lk_18 lk_123 lk_1010 (by decide +kernel) rfl rfl rfl (rm_ok (by omega) (by decide)) ⟨Nat.zero_le _, Nat.zero_le _⟩ (Nat.le_of_ble_eq_true rfl) (dkX6_readOperator (169, .invokevirtual 107, 3) (pgm 89 rfl)) (fun r8 h9 => ?_) rfl
          exact so_zret X hr hlk (dkX6_readOperator (172, .ireturn, 1) (pgm 90 rfl))
        · refine so_aload_n (i := 0) X 0 (dkX6_readOperator (138, .aload_n 0, 1) (pgm 73 rfl)) rfl rfl ?_
          refine sf_getR X ff_6_0 lk_288 hk (dkX6_readOperator (139, .getfield 24, 3) (pgm 74 rfl)) ?_
          refine so_ldcS (n := 27) (tx := "]") X (pgm 27 rfl) (dkX6_readOperator (142, .ldc 223, 2) (pgm 75 rfl)) ?_
          refine so_callV (n := 1) (As := [.ref (200 + 27)]) X (ct_X9_at l (rt this 0) 27 h5 (fo (rk_6_0 this hk)) (by decide : 27 < NS)) (fo (rk_6_0 this hk)) (by decide) rfl lk_967 lk_968 lk_969 lk_124 lk_970 (by decide +kernel) rfl rfl rfl (rm_ok (by omega) (by decide)) ⟨Nat.zero_le _, Nat.zero_le _⟩ (Nat.le_of_ble_eq_true rfl) (dkX6_readOperator (144, .invokevirtual 69, 3) (pgm 76 rfl)) (fun r10 h11 => ?_) rfl
          refine so_join (jf := fun (t12 : Int32) (h13 : PH) => zr t12 h13) (fun (j : Int32 → PH → Option (Int32 × PH)) => ∀ (t12 : Int32) (h13 : PH), SWo (QM mkI below args s D cA ad A) p l e (rmd 7) s m args below meth c 0 0 2 D cA ad A 163 [] [.int t12] h13 (j t12 h13)) ?_ (fun j163 hj163 => ?_)
          · intro t12 h13
            exact so_zret X hr hlk (dkX6_readOperator (163, .ireturn, 1) (pgm 85 rfl))
          refine so_if_eq (tgt := 158) X (dkX6_readOperator (147, .ifCond .eq 11, 3) (pgm 77 rfl)) rfl (fun _ => ?_) (fun _ => ?_)
          · refine so_aload_n (i := 0) X 0 (dkX6_readOperator (158, .aload_n 0, 1) (pgm 82 rfl)) rfl rfl ?_
            refine so_iconst (v := (2 : Int32)) X (dkX6_readOperator (159, .iconst 2, 1) (pgm 83 rfl)) ic_2 ?_
            refine so_callV (n := 1) (As := [.int (2 : Int32)]) X (ct_X6_refuse l this (2 : Int32) h11 hk) hk (by decide) rfl lk_992 lk_994 lk_16 lk_123 lk_995 (by decide +kernel) rfl rfl rfl (rm_ok (by omega) (by decide)) ⟨Nat.zero_le _, Nat.zero_le _⟩ (Nat.le_of_ble_eq_true rfl) (dkX6_readOperator (160, .invokevirtual 73, 3) (pgm 84 rfl)) (fun r14 h15 => ?_) rfl
            exact so_pick X [] rfl (hj163 r14 h15)
          · refine so_aload_n (i := 0) X 0 (dkX6_readOperator (150, .aload_n 0, 1) (pgm 78 rfl)) rfl rfl ?_
            refine so_iconst (v := (1 : Int32)) X (dkX6_readOperator (151, .iconst 1, 1) (pgm 79 rfl)) ic_1 ?_
            refine so_callV (n := 1) (As := [.int (1 : Int32)]) X (ct_X6_close l this (1 : Int32) h11 hk) hk (by decide) rfl lk_1084 lk_1086 lk_29 lk_123 lk_1087 (by decide +kernel) rfl rfl rfl (rm_ok (by omega) (by decide)) ⟨Nat.zero_le _, Nat.zero_le _⟩ (Nat.le_of_ble_eq_true rfl) (dkX6_readOperator (152, .invokevirtual 213, 3) (pgm 80 rfl)) (fun r16 h17 => ?_) rfl
            refine so_goto (tgt := 163) X (dkX6_readOperator (155, .goto 8, 3) (pgm 81 rfl)) rfl ?_
            exact so_pick X [] rfl (hj163 r16 h17)
      · refine so_aload_n (i := 0) X 0 (dkX6_readOperator (124, .aload_n 0, 1) (pgm 65 rfl)) rfl rfl ?_
        refine so_iconst (v := (2 : Int32)) X (dkX6_readOperator (125, .iconst 2, 1) (pgm 66 rfl)) ic_2 ?_
        refine so_iconst (v := (1 : Int32)) X (dkX6_readOperator (126, .iconst 1, 1) (pgm 67 rfl)) ic_1 ?_
        refine so_callV (n := 2) (As := [.int (2 : Int32), .int (1 : Int32)]) X (ct_X6_join l this (2 : Int32) (1 : Int32) h5 hk) hk (by decide) rfl lk_1073 lk_1075 lk_27 lk_123 lk_1076 (by decide +kernel) rfl rfl rfl (rm_ok (by omega) (by decide)) ⟨Nat.zero_le _, Nat.zero_le _⟩ (Nat.le_of_ble_eq_true rfl) (dkX6_readOperator (127, .invokevirtual 208, 3) (pgm 68 rfl)) (fun r18 h19 => ?_) rfl
        exact so_zret X hr hlk (dkX6_readOperator (130, .ireturn, 1) (pgm 69 rfl))
    · refine so_aload_n (i := 0) X 0 (dkX6_readOperator (105, .aload_n 0, 1) (pgm 55 rfl)) rfl rfl ?_
      refine so_iconst (v := (3 : Int32)) X (dkX6_readOperator (106, .iconst 3, 1) (pgm 56 rfl)) ic_3 ?_
      refine so_iconst (v := (1 : Int32)) X (dkX6_readOperator (107, .iconst 1, 1) (pgm 57 rfl)) ic_1 ?_
      refine so_callV (n := 2) (As := [.int (3 : Int32), .int (1 : Int32)]) X (ct_X6_join l this (3 : Int32) (1 : Int32) h3 hk) hk (by decide) rfl lk_1073 lk_1075 lk_27 lk_123 lk_1076 (by decide +kernel) rfl rfl rfl (rm_ok (by omega) (by decide)) ⟨Nat.zero_le _, Nat.zero_le _⟩ (Nat.le_of_ble_eq_true rfl) (dkX6_readOperator (108, .invokevirtual 208, 3) (pgm 58 rfl)) (fun r20 h21 => ?_) rfl
      exact so_zret X hr hlk (dkX6_readOperator (111, .ireturn, 1) (pgm 59 rfl))
  refine so_icmp_ne (tgt := 93) X (dkX6_readOperator (5, .if_icmp .ne 88, 3) (pgm 3 rfl)) rfl (fun _ => ?_) (fun _ => ?_)
  · exact so_pick X [0] rfl (hj93 h0)
  · refine so_aload_n (i := 0) X 0 (dkX6_readOperator (8, .aload_n 0, 1) (pgm 4 rfl)) rfl rfl ?_
    refine so_callV (n := 0) (As := []) X (ct_X6_arithmeticSign l this h0 hk) hk (by decide) rfl lk_1066 lk_1068 lk_26 lk_123 lk_1069 (by decide +kernel) rfl rfl rfl (rm_ok (by omega) (by decide)) ⟨Nat.zero_le _, Nat.zero_le _⟩ (Nat.le_of_ble_eq_true rfl) (dkX6_readOperator (9, .invokevirtual 205, 3) (pgm 5 rfl)) (fun r22 h23 => ?_) rfl
    refine so_istore_n (i := 1) X (dkX6_readOperator (12, .istore_n 1, 1) (pgm 6 rfl)) rfl (by decide) (Lf := fun x24 => [(1, .int x24), (0, .ref this)]) (fun _ => rfl) (fun x24 => ?_)
    refine so_iload_n (i := 1) X 0 (dkX6_readOperator (13, .iload_n 1, 1) (pgm 7 rfl)) rfl rfl ?_
    refine so_if_lt (tgt := 24) X (dkX6_readOperator (14, .ifCond .lt 10, 3) (pgm 8 rfl)) rfl (fun _ => ?_) (fun _ => ?_)
    · refine so_aload_n (i := 0) X 1 (dkX6_readOperator (24, .aload_n 0, 1) (pgm 14 rfl)) rfl rfl ?_
      refine sf_getI X ff_6_5 lk_293 hk (dkX6_readOperator (25, .getfield 156, 3) (pgm 15 rfl)) ?_
      refine so_if_le (tgt := 57) X (dkX6_readOperator (28, .ifCond .le 29, 3) (pgm 16 rfl)) rfl (fun _ => ?_) (fun _ => ?_)
      · refine so_aload_n (i := 0) X 1 (dkX6_readOperator (57, .aload_n 0, 1) (pgm 30 rfl)) rfl rfl ?_
        refine sf_getI X ff_6_7 lk_295 hk (dkX6_readOperator (58, .getfield 164, 3) (pgm 31 rfl)) ?_
        refine so_if_ne (tgt := 93) X (dkX6_readOperator (61, .ifCond .ne 32, 3) (pgm 32 rfl)) rfl (fun _ => ?_) (fun _ => ?_)
        · exact so_pick X [1] rfl (hj93 h23)
        · refine so_aload_n (i := 0) X 1 (dkX6_readOperator (64, .aload_n 0, 1) (pgm 33 rfl)) rfl rfl ?_
          refine so_callV (n := 0) (As := []) X (ct_X6_comparingSign l this h23 hk) hk (by decide) rfl lk_1088 lk_1090 lk_30 lk_123 lk_1091 (by decide +kernel) rfl rfl rfl (rm_ok (by omega) (by decide)) ⟨Nat.zero_le _, Nat.zero_le _⟩ (Nat.le_of_ble_eq_true rfl) (dkX6_readOperator (65, .invokevirtual 216, 3) (pgm 34 rfl)) (fun r25 h26 => ?_) rfl
          refine so_istore_n (i := 1) X (dkX6_readOperator (68, .istore_n 1, 1) (pgm 35 rfl)) rfl (by decide) (Lf := fun x27 => [(1, .int x27), (0, .ref this)]) (fun _ => rfl) (fun x27 => ?_)
          refine so_aload_n (i := 0) X 1 (dkX6_readOperator (69, .aload_n 0, 1) (pgm 36 rfl)) rfl rfl ?_
          refine so_iconst (v := (1 : Int32)) X (dkX6_readOperator (70, .iconst 1, 1) (pgm 37 rfl)) ic_1 ?_
          refine sf_putI X ff_6_7 ft_6 rfl lk_295 hk rfl rfl (dkX6_readOperator (71, .putfield 164, 3) (pgm 38 rfl)) (fun h28 => ?_)
          refine so_iload_n (i := 1) X 0 (dkX6_readOperator (74, .iload_n 1, 1) (pgm 39 rfl)) rfl rfl ?_
          refine so_join (jf := fun (t29 : Int32) (h30 : PH) => zr t29 h30) (fun (j : Int32 → PH → Option (Int32 × PH)) => ∀ (t29 : Int32) (h30 : PH), SWo (QM mkI below args s D cA ad A) p l e (rmd 7) s m args below meth c 0 0 2 D cA ad A 92 [] [.int t29] h30 (j t29 h30)) ?_ (fun j92 hj92 => ?_)
          · intro t29 h30
            exact so_zret X hr hlk (dkX6_readOperator (92, .ireturn, 1) (pgm 49 rfl))
          refine so_if_lt (tgt := 87) X (dkX6_readOperator (75, .ifCond .lt 12, 3) (pgm 40 rfl)) rfl (fun _ => ?_) (fun _ => ?_)
          · refine so_aload_n (i := 0) X 1 (dkX6_readOperator (87, .aload_n 0, 1) (pgm 46 rfl)) rfl rfl ?_
            refine so_iconst (v := (2 : Int32)) X (dkX6_readOperator (88, .iconst 2, 1) (pgm 47 rfl)) ic_2 ?_
            refine so_callV (n := 1) (As := [.int (2 : Int32)]) X (ct_X6_refuse l this (2 : Int32) h28 hk) hk (by decide) rfl lk_992 lk_994 lk_16 lk_123 lk_995 (by decide +kernel) rfl rfl rfl (rm_ok (by omega) (by decide)) ⟨Nat.zero_le _, Nat.zero_le _⟩ (Nat.le_of_ble_eq_true rfl) (dkX6_readOperator (89, .invokevirtual 73, 3) (pgm 48 rfl)) (fun r31 h32 => ?_) rfl
            exact so_pick X [] rfl (hj92 r31 h32)
          · refine so_aload_n (i := 0) X 1 (dkX6_readOperator (78, .aload_n 0, 1) (pgm 41 rfl)) rfl rfl ?_
            refine so_iload_n (i := 1) X 0 (dkX6_readOperator (79, .iload_n 1, 1) (pgm 42 rfl)) rfl rfl ?_
            refine so_iconst (v := (2 : Int32)) X (dkX6_readOperator (80, .iconst 2, 1) (pgm 43 rfl)) ic_2 ?_
            refine so_callV (n := 2) (As := [.int x27, .int (2 : Int32)]) X (ct_X6_join l this x27 (2 : Int32) h28 hk) hk (by decide) rfl lk_1073 lk_1075 lk_27 lk_123 lk_1076 (by decide +kernel) rfl rfl rfl (rm_ok (by omega) (by decide)) ⟨Nat.zero_le _, Nat.zero_le _⟩ (Nat.le_of_ble_eq_true rfl) (dkX6_readOperator (81, .invokevirtual 208, 3) (pgm 44 rfl)) (fun r33 h34 => ?_) rfl
            refine so_goto (tgt := 92) X (dkX6_readOperator (84, .goto 8, 3) (pgm 45 rfl)) rfl ?_
            exact so_pick X [] rfl (hj92 r33 h34)
      · refine so_aload_n (i := 0) X 1 (dkX6_readOperator (31, .aload_n 0, 1) (pgm 17 rfl)) rfl rfl ?_
        refine sf_getR X ff_6_0 lk_288 hk (dkX6_readOperator (32, .getfield 24, 3) (pgm 18 rfl)) ?_
        refine so_ldcS (n := 21) (tx := ")") X (pgm 21 rfl) (dkX6_readOperator (35, .ldc 211, 2) (pgm 19 rfl)) ?_
        refine so_callV (n := 1) (As := [.ref (200 + 21)]) X (ct_X9_at l (rt this 0) 21 h23 (fo (rk_6_0 this hk)) (by decide : 21 < NS)) (fo (rk_6_0 this hk)) (by decide) rfl lk_967 lk_968 lk_969 lk_124 lk_970 (by decide +kernel) rfl rfl rfl (rm_ok (by omega) (by decide)) ⟨Nat.zero_le _, Nat.zero_le _⟩ (Nat.le_of_ble_eq_true rfl) (dkX6_readOperator (37, .invokevirtual 69, 3) (pgm 20 rfl)) (fun r35 h36 => ?_) rfl
        refine so_join (jf := fun (t37 : Int32) (h38 : PH) => zr t37 h38) (fun (j : Int32 → PH → Option (Int32 × PH)) => ∀ (t37 : Int32) (h38 : PH), SWo (QM mkI below args s D cA ad A) p l e (rmd 7) s m args below meth c 0 0 2 D cA ad A 56 [] [.int t37] h38 (j t37 h38)) ?_ (fun j56 hj56 => ?_)
        · intro t37 h38
          exact so_zret X hr hlk (dkX6_readOperator (56, .ireturn, 1) (pgm 29 rfl))
        refine so_if_eq (tgt := 51) X (dkX6_readOperator (40, .ifCond .eq 11, 3) (pgm 21 rfl)) rfl (fun _ => ?_) (fun _ => ?_)
        · refine so_aload_n (i := 0) X 1 (dkX6_readOperator (51, .aload_n 0, 1) (pgm 26 rfl)) rfl rfl ?_
          refine so_iconst (v := (2 : Int32)) X (dkX6_readOperator (52, .iconst 2, 1) (pgm 27 rfl)) ic_2 ?_
          refine so_callV (n := 1) (As := [.int (2 : Int32)]) X (ct_X6_refuse l this (2 : Int32) h36 hk) hk (by decide) rfl lk_992 lk_994 lk_16 lk_123 lk_995 (by decide +kernel) rfl rfl rfl (rm_ok (by omega) (by decide)) ⟨Nat.zero_le _, Nat.zero_le _⟩ (Nat.le_of_ble_eq_true rfl) (dkX6_readOperator (53, .invokevirtual 73, 3) (pgm 28 rfl)) (fun r39 h40 => ?_) rfl
          exact so_pick X [] rfl (hj56 r39 h40)
        · refine so_aload_n (i := 0) X 1 (dkX6_readOperator (43, .aload_n 0, 1) (pgm 22 rfl)) rfl rfl ?_
          refine so_iconst (v := (0 : Int32)) X (dkX6_readOperator (44, .iconst 0, 1) (pgm 23 rfl)) ic_0 ?_
          refine so_callV (n := 1) (As := [.int (0 : Int32)]) X (ct_X6_close l this (0 : Int32) h36 hk) hk (by decide) rfl lk_1084 lk_1086 lk_29 lk_123 lk_1087 (by decide +kernel) rfl rfl rfl (rm_ok (by omega) (by decide)) ⟨Nat.zero_le _, Nat.zero_le _⟩ (Nat.le_of_ble_eq_true rfl) (dkX6_readOperator (45, .invokevirtual 213, 3) (pgm 24 rfl)) (fun r41 h42 => ?_) rfl
          refine so_goto (tgt := 56) X (dkX6_readOperator (48, .goto 8, 3) (pgm 25 rfl)) rfl ?_
          exact so_pick X [] rfl (hj56 r41 h42)
    · refine so_aload_n (i := 0) X 1 (dkX6_readOperator (17, .aload_n 0, 1) (pgm 9 rfl)) rfl rfl ?_
      refine so_iload_n (i := 1) X 0 (dkX6_readOperator (18, .iload_n 1, 1) (pgm 10 rfl)) rfl rfl ?_
      refine so_iconst (v := (2 : Int32)) X (dkX6_readOperator (19, .iconst 2, 1) (pgm 11 rfl)) ic_2 ?_
      refine so_callV (n := 2) (As := [.int x24, .int (2 : Int32)]) X (ct_X6_join l this x24 (2 : Int32) h23 hk) hk (by decide) rfl lk_1073 lk_1075 lk_27 lk_123 lk_1076 (by decide +kernel) rfl rfl rfl (rm_ok (by omega) (by decide)) ⟨Nat.zero_le _, Nat.zero_le _⟩ (Nat.le_of_ble_eq_true rfl) (dkX6_readOperator (20, .invokevirtual 208, 3) (pgm 12 rfl)) (fun r43 h44 => ?_) rfl
      exact so_zret X hr hlk (dkX6_readOperator (23, .ireturn, 1) (pgm 13 rfl))
def pgX7_serve : List (Nat × Instr × Nat) := [(0, .aload_n 0, 1), (1, .getfield 57, 3), (4, .istore_n 2, 1), (5, .iconst 0, 1), (6, .istore_n 3, 1), (7, .iconst 0, 1), (8, .istore 4, 2), (10, .iload 4, 2), (12, .aload_n 0, 1), (13, .getfield 18, 3), (16, .getfield 60, 3), (19, .if_icmp .ge 50, 3), (22, .iload_n 2, 1), (23, .ifCond .eq 46, 3), (26, .iconst 1, 1), (27, .aload_n 0, 1), (28, .iload_n 2, 1), (29, .iload_n 1, 1), (30, .invokevirtual 63, 3), (33, .ishl, 1), (34, .istore 5, 2), (36, .iload_n 2, 1), (37, .iload 5, 2), (39, .iconst (-1), 1), (40, .ixor, 1), (41, .iand, 1), (42, .istore_n 2, 1), (43, .aload_n 0, 1), (44, .getfield 26, 3), (47, .iload_n 3, 1), (48, .iload 5, 2), (50, .ior, 1), (51, .invokevirtual 67, 3), (54, .iconst (-1), 1), (55, .if_icmp .eq 8, 3), (58, .iload_n 3, 1), (59, .iload 5, 2), (61, .ior, 1), (62, .istore_n 3, 1), (63, .iinc 4 1, 3), (66, .goto (-56), 3), (69, .iload_n 3, 1), (70, .ireturn, 1)]
theorem dkX7_serve : ∀ q ∈ pgX7_serve, decode cX7_serve q.1 = .ok q.2 := by decide +kernel
def b_X7_serve_10 (this : Nat) (a1 : Int32) (j69 : Int32 → PH → Option (Int32 × PH)) (rec10 : (Int32 × Int32 × Int32) → PH → Option (Int32 × PH)) (s10 : Int32 × Int32 × Int32) (hh10 : PH) : Option (Int32 × PH) :=
  if (hh10.1 (rt this 0) 5) ≤ s10.2.2 then (j69 s10.2.1 hh10) else (if s10.1 = 0 then (j69 s10.2.1 hh10) else (cb (f_X7_firstOf this s10.1 a1 hh10) (fun (r6 : Int32) (h7 : PH) => lt ((1 : Int32) <<< (r6 &&& 31)) (fun (x8 : Int32) => lt (s10.1 &&& (x8 ^^^ (-1 : Int32))) (fun (x9 : Int32) => cb (f_X2_leastPlan (rt this 2) (s10.2.1 ||| x8) h7) (fun (r10 : Int32) (h11 : PH) => lt (fun (y12 : Int32) (h13 : PH) => lt (s10.2.2 + Int32.ofInt 1) (fun (x14 : Int32) => rec10 (x9, y12, x14) h13)) (fun (j63 : Int32 → PH → Option (Int32 × PH)) => if r10 = (-1 : Int32) then (j63 s10.2.1 h11) else (lt (s10.2.1 ||| x8) (fun (x15 : Int32) => j63 x15 h11)))))))))
def f_X7_serve (this : Nat) (a1 : Int32) (h0 : PH) : Option (Int32 × PH) :=
  lt (h0.1 this 5) (fun (x1 : Int32) => lt (0 : Int32) (fun (x2 : Int32) => lt (0 : Int32) (fun (x3 : Int32) => lt (fun (y4 : Int32) (h5 : PH) => some (y4, h5)) (fun (j69 : Int32 → PH → Option (Int32 × PH)) => lp (b_X7_serve_10 this a1 j69) FU (x1, x2, x3) h0))))
set_option maxRecDepth 100000 in
set_option maxHeartbeats 4000000 in
theorem ct_X7_serve (l : Launch) (this : Nat) (a1 : Int32) (h0 : PH) (hk : (kd this).1 = 7) : CT mkI l yX7_serve cX7_serve 6 (some .int) (rmd 3) [.ref this, .int a1] h0 (f_X7_serve this a1 h0) := by
  refine ct_of (by decide) (Nat.le_of_ble_eq_true rfl) ?_
  intro p e s m args below meth c D cA ad A X hr hlk
  have X : Cx p s m args c RX7 cX7_serve 6 D cA ad A := X
  unfold f_X7_serve
  refine so_pick (L' := [(0, .ref this), (1, .int a1)]) X [0, 1] rfl ?_
  refine so_aload_n (i := 0) X 0 (dkX7_serve (0, .aload_n 0, 1) (pgm 0 rfl)) rfl rfl ?_
  refine sf_getI X ff_7_5 lk_429 hk (dkX7_serve (1, .getfield 57, 3) (pgm 1 rfl)) ?_
  refine so_istore_n (i := 2) X (dkX7_serve (4, .istore_n 2, 1) (pgm 2 rfl)) rfl (by decide) (Lf := fun x1 => [(2, .int x1), (0, .ref this), (1, .int a1)]) (fun _ => rfl) (fun x1 => ?_)
  refine so_iconst (v := (0 : Int32)) X (dkX7_serve (5, .iconst 0, 1) (pgm 3 rfl)) ic_0 ?_
  refine so_istore_n (i := 3) X (dkX7_serve (6, .istore_n 3, 1) (pgm 4 rfl)) rfl (by decide) (Lf := fun x2 => [(3, .int x2), (2, .int x1), (0, .ref this), (1, .int a1)]) (fun _ => rfl) (fun x2 => ?_)
  refine so_iconst (v := (0 : Int32)) X (dkX7_serve (7, .iconst 0, 1) (pgm 5 rfl)) ic_0 ?_
  refine so_istore (i := 4) X (dkX7_serve (8, .istore 4, 2) (pgm 6 rfl)) (by decide) (Lf := fun x3 => [(4, .int x3), (3, .int x2), (2, .int x1), (0, .ref this), (1, .int a1)]) (fun _ => rfl) (fun x3 => ?_)
  refine so_join (jf := fun (y4 : Int32) (h5 : PH) => some (y4, h5)) (fun (j : Int32 → PH → Option (Int32 × PH)) => ∀ (y4 : Int32) (h5 : PH), SWo (QM mkI below args s D cA ad A) p l e (rmd 3) s m args below meth c 0 0 6 D cA ad A 69 [(3, .int y4)] [] h5 (j y4 h5)) ?_ (fun j69 hj69 => ?_)
  · intro y4 h5
    refine so_iload_n (i := 3) X 0 (dkX7_serve (69, .iload_n 3, 1) (pgm 41 rfl)) rfl rfl ?_
    exact so_iret X hr hlk (dkX7_serve (70, .ireturn, 1) (pgm 42 rfl))
  refine so_pick (L' := [(0, .ref this), (1, .int a1), (2, .int x1), (3, .int x2), (4, .int x3)]) X [3, 4, 2, 1, 0] rfl ?_
  refine so_loop (body := b_X7_serve_10 this a1 j69) (fun (s10 : Int32 × Int32 × Int32) => [(0, .ref this), (1, .int a1), (2, .int s10.1), (3, .int s10.2.1), (4, .int s10.2.2)]) (fun rec10 hrec10 s10 hh10 => ?_) FU (x1, x2, x3) h0
  unfold b_X7_serve_10
  refine so_iload (i := 4) X 4 (dkX7_serve (10, .iload 4, 2) (pgm 7 rfl)) rfl ?_
  refine so_aload_n (i := 0) X 0 (dkX7_serve (12, .aload_n 0, 1) (pgm 8 rfl)) rfl rfl ?_
  refine sf_getR X ff_7_0 lk_424 hk (dkX7_serve (13, .getfield 18, 3) (pgm 9 rfl)) ?_
  refine sf_getI X ff_8_5 lk_182 (fo (rk_7_0 this hk)) (dkX7_serve (16, .getfield 60, 3) (pgm 10 rfl)) ?_
  refine so_icmp_ge (tgt := 69) X (dkX7_serve (19, .if_icmp .ge 50, 3) (pgm 11 rfl)) rfl (fun _ => ?_) (fun _ => ?_)
  · exact so_pick X [3] rfl (hj69 s10.2.1 hh10)
  · refine so_iload_n (i := 2) X 2 (dkX7_serve (22, .iload_n 2, 1) (pgm 12 rfl)) rfl rfl ?_
    refine so_if_eq (tgt := 69) X (dkX7_serve (23, .ifCond .eq 46, 3) (pgm 13 rfl)) rfl (fun _ => ?_) (fun _ => ?_)
    · exact so_pick X [3] rfl (hj69 s10.2.1 hh10)
    · refine so_iconst (v := (1 : Int32)) X (dkX7_serve (26, .iconst 1, 1) (pgm 14 rfl)) ic_1 ?_
      refine so_aload_n (i := 0) X 0 (dkX7_serve (27, .aload_n 0, 1) (pgm 15 rfl)) rfl rfl ?_
      refine so_iload_n (i := 2) X 2 (dkX7_serve (28, .iload_n 2, 1) (pgm 16 rfl)) rfl rfl ?_
      refine so_iload_n (i := 1) X 1 (dkX7_serve (29, .iload_n 1, 1) (pgm 17 rfl)) rfl rfl ?_
      refine so_callV (n := 2) (As := [.int s10.1, .int a1]) X (ct_X7_firstOf l this s10.1 a1 hh10 hk) hk (by decide) rfl lk_723 lk_725 lk_8 lk_129 lk_726 (by decide +kernel) rfl rfl rfl (rm_ok (by omega) (by decide)) ⟨Nat.zero_le _, Nat.zero_le _⟩ (Nat.le_of_ble_eq_true rfl) (dkX7_serve (30, .invokevirtual 63, 3) (pgm 18 rfl)) (fun r6 h7 => ?_) rfl
      refine so_ishl X (dkX7_serve (33, .ishl, 1) (pgm 19 rfl)) ?_
      refine so_istore (i := 5) X (dkX7_serve (34, .istore 5, 2) (pgm 20 rfl)) (by decide) (Lf := fun x8 => [(5, .int x8), (0, .ref this), (1, .int a1), (2, .int s10.1), (3, .int s10.2.1), (4, .int s10.2.2)]) (fun _ => rfl) (fun x8 => ?_)
      refine so_iload_n (i := 2) X 3 (dkX7_serve (36, .iload_n 2, 1) (pgm 21 rfl)) rfl rfl ?_
      refine so_iload (i := 5) X 0 (dkX7_serve (37, .iload 5, 2) (pgm 22 rfl)) rfl ?_
      refine so_iconst (v := (-1 : Int32)) X (dkX7_serve (39, .iconst (-1), 1) (pgm 23 rfl)) ic_m1 ?_
      refine so_ixor X (dkX7_serve (40, .ixor, 1) (pgm 24 rfl)) ?_
      refine so_iand X (dkX7_serve (41, .iand, 1) (pgm 25 rfl)) ?_
      refine so_istore_n (i := 2) X (dkX7_serve (42, .istore_n 2, 1) (pgm 26 rfl)) rfl (by decide) (Lf := fun x9 => [(2, .int x9), (5, .int x8), (0, .ref this), (1, .int a1), (3, .int s10.2.1), (4, .int s10.2.2)]) (fun _ => rfl) (fun x9 => ?_)
      refine so_aload_n (i := 0) X 2 (dkX7_serve (43, .aload_n 0, 1) (pgm 27 rfl)) rfl rfl ?_
      refine sf_getR X ff_7_2 lk_426 hk (dkX7_serve (44, .getfield 26, 3) (pgm 28 rfl)) ?_
      refine so_iload_n (i := 3) X 4 (dkX7_serve (47, .iload_n 3, 1) (pgm 29 rfl)) rfl rfl ?_
      refine so_iload (i := 5) X 1 (dkX7_serve (48, .iload 5, 2) (pgm 30 rfl)) rfl ?_
      refine so_ior X (dkX7_serve (50, .ior, 1) (pgm 31 rfl)) ?_
      refine so_callV (n := 1) (As := [.int (s10.2.1 ||| x8)]) X (ct_X2_leastPlan l (rt this 2) (s10.2.1 ||| x8) h7 (fo (rk_7_2 this hk))) (fo (rk_7_2 this hk)) (by decide) rfl lk_735 lk_736 lk_737 lk_128 lk_738 (by decide +kernel) rfl rfl rfl (rm_ok (by omega) (by decide)) ⟨Nat.zero_le _, Nat.zero_le _⟩ (Nat.le_of_ble_eq_true rfl) (dkX7_serve (51, .invokevirtual 67, 3) (pgm 32 rfl)) (fun r10 h11 => ?_) rfl
      refine so_iconst (v := (-1 : Int32)) X (dkX7_serve (54, .iconst (-1), 1) (pgm 33 rfl)) ic_m1 ?_
      refine so_join (jf := fun (y12 : Int32) (h13 : PH) => lt (s10.2.2 + Int32.ofInt 1) (fun (x14 : Int32) => rec10 (x9, y12, x14) h13)) (fun (j : Int32 → PH → Option (Int32 × PH)) => ∀ (y12 : Int32) (h13 : PH), SWo (QM mkI below args s D cA ad A) p l e (rmd 3) s m args below meth c 0 0 6 D cA ad A 63 [(0, .ref this), (1, .int a1), (2, .int x9), (3, .int y12), (4, .int s10.2.2)] [] h13 (j y12 h13)) ?_ (fun j63 hj63 => ?_)
      · intro y12 h13
        refine so_iinc (i := 4) X 4 (dkX7_serve (63, .iinc 4 1, 3) (pgm 39 rfl)) rfl rfl (by decide) (Lf := fun x14 => [(4, .int x14), (0, .ref this), (1, .int a1), (2, .int x9), (3, .int y12)]) (fun _ => rfl) (fun x14 => ?_)
        refine so_goto (tgt := 10) X (dkX7_serve (66, .goto (-56), 3) (pgm 40 rfl)) rfl ?_
        exact so_pick X [1, 2, 3, 4, 0] rfl (hrec10 (x9, y12, x14) h13)
      refine so_icmp_eq (tgt := 63) X (dkX7_serve (55, .if_icmp .eq 8, 3) (pgm 34 rfl)) rfl (fun _ => ?_) (fun _ => ?_)
      · exact so_pick X [2, 3, 0, 4, 5] rfl (hj63 s10.2.1 h11)
      · refine so_iload_n (i := 3) X 4 (dkX7_serve (58, .iload_n 3, 1) (pgm 35 rfl)) rfl rfl ?_
        refine so_iload (i := 5) X 1 (dkX7_serve (59, .iload 5, 2) (pgm 36 rfl)) rfl ?_
        refine so_ior X (dkX7_serve (61, .ior, 1) (pgm 37 rfl)) ?_
        refine so_istore_n (i := 3) X (dkX7_serve (62, .istore_n 3, 1) (pgm 38 rfl)) rfl (by decide) (Lf := fun x15 => [(3, .int x15), (2, .int x9), (5, .int x8), (0, .ref this), (1, .int a1), (4, .int s10.2.2)]) (fun _ => rfl) (fun x15 => ?_)
        exact so_pick X [3, 4, 1, 0, 5] rfl (hj63 x15 h11)
def pgX11_night : List (Nat × Instr × Nat) := [(0, .aload_n 0, 1), (1, .getfield 48, 3), (4, .iload_n 1, 1), (5, .i2l, 1), (6, .aload_n 0, 1), (7, .getfield 39, 3), (10, .getfield 165, 3), (13, .invokevirtual 186, 3), (16, .istore_n 2, 1), (17, .iload_n 2, 1), (18, .ifCond .ne 11, 3), (21, .aload_n 0, 1), (22, .iload_n 1, 1), (23, .invokevirtual 351, 3), (26, .goto 5, 3), (29, .iload_n 2, 1), (30, .ineg, 1), (31, .ireturn, 1)]
theorem dkX11_night : ∀ q ∈ pgX11_night, decode cX11_night q.1 = .ok q.2 := by decide +kernel
def f_X11_night (this : Nat) (a1 : Int32) (h0 : PH) : Option (Int32 × PH) :=
  cb (f_X3_whyNot (rt this 6) a1.toInt64 (h0.1 (rt this 5) 0) h0) (fun (r1 : Int32) (h2 : PH) => lt r1 (fun (x3 : Int32) => lt (fun (t4 : Int32) (h5 : PH) => some (t4, h5)) (fun (j31 : Int32 → PH → Option (Int32 × PH)) => if x3 = 0 then (cb (f_X11_makeNight this a1 h2) (fun (r6 : Int32) (h7 : PH) => j31 r6 h7)) else (j31 (-x3) h2))))
set_option maxRecDepth 100000 in
set_option maxHeartbeats 4000000 in
theorem ct_X11_night (l : Launch) (this : Nat) (a1 : Int32) (h0 : PH) (hk : (kd this).1 = 11) : CT mkI l yX11_night cX11_night 3 (some .int) (rmd 5) [.ref this, .int a1] h0 (f_X11_night this a1 h0) := by
  refine ct_of (by decide) (Nat.le_of_ble_eq_true rfl) ?_
  intro p e s m args below meth c D cA ad A X hr hlk
  have X : Cx p s m args c RX11 cX11_night 3 D cA ad A := X
  unfold f_X11_night
  refine so_pick (L' := [(0, .ref this), (1, .int a1)]) X [0, 1] rfl ?_
  refine so_aload_n (i := 0) X 0 (dkX11_night (0, .aload_n 0, 1) (pgm 0 rfl)) rfl rfl ?_
  refine sf_getR X ff_11_6 lk_571 hk (dkX11_night (1, .getfield 48, 3) (pgm 1 rfl)) ?_
  refine so_iload_n (i := 1) X 1 (dkX11_night (4, .iload_n 1, 1) (pgm 2 rfl)) rfl rfl ?_
  refine so_i2l X (dkX11_night (5, .i2l, 1) (pgm 3 rfl)) ?_
  refine so_aload_n (i := 0) X 0 (dkX11_night (6, .aload_n 0, 1) (pgm 4 rfl)) rfl rfl ?_
  refine sf_getR X ff_11_5 lk_570 hk (dkX11_night (7, .getfield 39, 3) (pgm 5 rfl)) ?_
  refine sf_getI X ff_0_0 lk_338 (fo (rk_11_5 this hk)) (dkX11_night (10, .getfield 165, 3) (pgm 6 rfl)) ?_
  refine so_callV (n := 2) (As := [.long a1.toInt64, .int (h0.1 (rt this 5) 0)]) X (ct_X3_whyNot l (rt this 6) a1.toInt64 (h0.1 (rt this 5) 0) h0 (fo (rk_11_6 this hk))) (fo (rk_11_6 this hk)) (by decide) rfl lk_630 lk_631 lk_632 lk_126 lk_633 (by decide +kernel) rfl rfl rfl (rm_ok (by omega) (by decide)) ⟨Nat.zero_le _, Nat.zero_le _⟩ (Nat.le_of_ble_eq_true rfl) (dkX11_night (13, .invokevirtual 186, 3) (pgm 7 rfl)) (fun r1 h2 => ?_) rfl
  refine so_istore_n (i := 2) X (dkX11_night (16, .istore_n 2, 1) (pgm 8 rfl)) rfl (by decide) (Lf := fun x3 => [(2, .int x3), (0, .ref this), (1, .int a1)]) (fun _ => rfl) (fun x3 => ?_)
  refine so_iload_n (i := 2) X 0 (dkX11_night (17, .iload_n 2, 1) (pgm 9 rfl)) rfl rfl ?_
  refine so_join (jf := fun (t4 : Int32) (h5 : PH) => some (t4, h5)) (fun (j : Int32 → PH → Option (Int32 × PH)) => ∀ (t4 : Int32) (h5 : PH), SWo (QM mkI below args s D cA ad A) p l e (rmd 5) s m args below meth c 0 0 3 D cA ad A 31 [] [.int t4] h5 (j t4 h5)) ?_ (fun j31 hj31 => ?_)
  · intro t4 h5
    exact so_iret X hr hlk (dkX11_night (31, .ireturn, 1) (pgm 17 rfl))
  refine so_if_ne (tgt := 29) X (dkX11_night (18, .ifCond .ne 11, 3) (pgm 10 rfl)) rfl (fun _ => ?_) (fun _ => ?_)
  · refine so_iload_n (i := 2) X 0 (dkX11_night (29, .iload_n 2, 1) (pgm 15 rfl)) rfl rfl ?_
    refine so_ineg X (dkX11_night (30, .ineg, 1) (pgm 16 rfl)) ?_
    exact so_pick X [] rfl (hj31 (-x3) h2)
  · refine so_aload_n (i := 0) X 1 (dkX11_night (21, .aload_n 0, 1) (pgm 11 rfl)) rfl rfl ?_
    refine so_iload_n (i := 1) X 2 (dkX11_night (22, .iload_n 1, 1) (pgm 12 rfl)) rfl rfl ?_
    refine so_callV (n := 1) (As := [.int a1]) X (ct_X11_makeNight l this a1 h2 hk) hk (by decide) rfl lk_748 lk_750 lk_11 lk_121 lk_751 (by decide +kernel) rfl rfl rfl (rm_ok (by omega) (by decide)) ⟨Nat.zero_le _, Nat.zero_le _⟩ (Nat.le_of_ble_eq_true rfl) (dkX11_night (23, .invokevirtual 351, 3) (pgm 13 rfl)) (fun r6 h7 => ?_) rfl
    refine so_goto (tgt := 31) X (dkX11_night (26, .goto 5, 3) (pgm 14 rfl)) rfl ?_
    exact so_pick X [] rfl (hj31 r6 h7)
def pgX2_settled : List (Nat × Instr × Nat) := [(0, .aload_n 0, 1), (1, .getfield 33, 3), (4, .ifCond .eq 17, 3), (7, .aload_n 0, 1), (8, .getfield 37, 3), (11, .aload_n 0, 1), (12, .getfield 25, 3), (15, .getfield 41, 3), (18, .if_icmp .eq 7, 3), (21, .aload_n 0, 1), (22, .invokevirtual 44, 3), (25, .aload_n 0, 1), (26, .areturn, 1)]
theorem dkX2_settled : ∀ q ∈ pgX2_settled, decode cX2_settled q.1 = .ok q.2 := by decide +kernel
def f_X2_settled (this : Nat) (h0 : PH) : Option (Unit × PH) :=
  lt (fun (h1 : PH) => some ((), h1)) (fun (j25 : PH → Option (Unit × PH)) => lt (fun (h2 : PH) => cb (f_X2_settle this h2) (fun (r3 : Unit) (h4 : PH) => j25 h4)) (fun (j21 : PH → Option (Unit × PH)) => if (h0.1 this 8) = 0 then (j21 h0) else (if (h0.1 this 7) = (h0.1 (rt this 1) 0) then (j25 h0) else (j21 h0))))
set_option maxRecDepth 100000 in
set_option maxHeartbeats 4000000 in
theorem ct_X2_settled (l : Launch) (this : Nat) (h0 : PH) (hk : (kd this).1 = 2) : CT (mkT this) l yX2_settled cX2_settled 1 (some (.object "RainWishes$Choices")) (rmd 5) [.ref this] h0 (f_X2_settled this h0) := by
  refine ct_of (by decide) (Nat.le_of_ble_eq_true rfl) ?_
  intro p e s m args below meth c D cA ad A X hr hlk
  have X : Cx p s m args c RX2 cX2_settled 1 D cA ad A := X
  unfold f_X2_settled
  refine so_pick (L' := [(0, .ref this)]) X [0] rfl ?_
  refine so_aload_n (i := 0) X 0 (dkX2_settled (0, .aload_n 0, 1) (pgm 0 rfl)) rfl rfl ?_
  refine sf_getI X ff_2_8 lk_398 hk (dkX2_settled (1, .getfield 33, 3) (pgm 1 rfl)) ?_
  refine so_join (jf := fun (h1 : PH) => some ((), h1)) (fun (j : PH → Option (Unit × PH)) => ∀  (h1 : PH), SWo (QM (mkT this) below args s D cA ad A) p l e (rmd 5) s m args below meth c 0 0 1 D cA ad A 25 [(0, .ref this)] [] h1 (j h1)) ?_ (fun j25 hj25 => ?_)
  · intro h1
    refine so_aload_n (i := 0) X 0 (dkX2_settled (25, .aload_n 0, 1) (pgm 11 rfl)) rfl rfl ?_
    exact so_tret X hr hlk (dkX2_settled (26, .areturn, 1) (pgm 12 rfl))
  refine so_join (jf := fun (h2 : PH) => cb (f_X2_settle this h2) (fun (r3 : Unit) (h4 : PH) => j25 h4)) (fun (j : PH → Option (Unit × PH)) => ∀  (h2 : PH), SWo (QM (mkT this) below args s D cA ad A) p l e (rmd 5) s m args below meth c 0 0 1 D cA ad A 21 [(0, .ref this)] [] h2 (j h2)) ?_ (fun j21 hj21 => ?_)
  · intro h2
    refine so_aload_n (i := 0) X 0 (dkX2_settled (21, .aload_n 0, 1) (pgm 9 rfl)) rfl rfl ?_
    refine so_callV (n := 0) (As := []) X (ct_X2_settle l this h2 hk) hk (by decide) rfl lk_670 lk_672 lk_2 lk_128 lk_673 (by decide +kernel) rfl rfl rfl (rm_ok (by omega) (by decide)) ⟨Nat.zero_le _, Nat.zero_le _⟩ (Nat.le_of_ble_eq_true rfl) (dkX2_settled (22, .invokevirtual 44, 3) (pgm 10 rfl)) (fun r3 h4 => ?_) rfl
    exact so_pick X [0] rfl (hj25 h4)
  refine so_if_eq (tgt := 21) X (dkX2_settled (4, .ifCond .eq 17, 3) (pgm 2 rfl)) rfl (fun _ => ?_) (fun _ => ?_)
  · exact so_pick X [0] rfl (hj21 h0)
  · refine so_aload_n (i := 0) X 0 (dkX2_settled (7, .aload_n 0, 1) (pgm 3 rfl)) rfl rfl ?_
    refine sf_getI X ff_2_7 lk_397 hk (dkX2_settled (8, .getfield 37, 3) (pgm 4 rfl)) ?_
    refine so_aload_n (i := 0) X 0 (dkX2_settled (11, .aload_n 0, 1) (pgm 5 rfl)) rfl rfl ?_
    refine sf_getR X ff_2_1 lk_387 hk (dkX2_settled (12, .getfield 25, 3) (pgm 6 rfl)) ?_
    refine sf_getI X ff_0_0 lk_336 (fo (rk_2_1 this hk)) (dkX2_settled (15, .getfield 41, 3) (pgm 7 rfl)) ?_
    refine so_icmp_eq (tgt := 25) X (dkX2_settled (18, .if_icmp .eq 7, 3) (pgm 8 rfl)) rfl (fun _ => ?_) (fun _ => ?_)
    · exact so_pick X [0] rfl (hj25 h0)
    · exact so_pick X [0] rfl (hj21 h0)
def pgX6_readOperand : List (Nat × Instr × Nat) := [(0, .aload_n 0, 1), (1, .getfield 40, 3), (4, .iconst 1, 1), (5, .if_icmp .ne 46, 3), (8, .aload_n 0, 1), (9, .iconst 0, 1), (10, .putfield 164, 3), (13, .aload_n 0, 1), (14, .getfield 24, 3), (17, .ldc 168, 2), (19, .invokevirtual 69, 3), (22, .ifCond .eq 10, 3), (25, .aload_n 0, 1), (26, .iconst 4, 1), (27, .iconst 1, 1), (28, .invokevirtual 170, 3), (31, .ireturn, 1), (32, .aload_n 0, 1), (33, .getfield 24, 3), (36, .ldc 173, 2), (38, .invokevirtual 69, 3), (41, .ifCond .eq 10, 3), (44, .aload_n 0, 1), (45, .iconst 1, 1), (46, .iconst 1, 1), (47, .invokevirtual 170, 3), (50, .ireturn, 1), (51, .aload_n 0, 1), (52, .getfield 24, 3), (55, .ldc 175, 2), (57, .invokevirtual 69, 3), (60, .ifCond .eq 12, 3), (63, .aload_n 0, 1), (64, .iconst 0, 1), (65, .iconst 2, 1), (66, .invokevirtual 170, 3), (69, .goto 7, 3), (72, .aload_n 0, 1), (73, .invokevirtual 177, 3), (76, .ireturn, 1)]
theorem dkX6_readOperand : ∀ q ∈ pgX6_readOperand, decode cX6_readOperand q.1 = .ok q.2 := by decide +kernel
def f_X6_readOperand (this : Nat) (h0 : PH) : Option (Int32 × PH) :=
  lt (fun (h1 : PH) => cb (f_X9_at (rt this 0) 13 h1) (fun (r2 : Int32) (h3 : PH) => lt (fun (t4 : Int32) (h5 : PH) => zr t4 h5) (fun (j76 : Int32 → PH → Option (Int32 × PH)) => if r2 = 0 then (cb (f_X6_readAtom this h3) (fun (r6 : Int32) (h7 : PH) => j76 r6 h7)) else (cb (f_X6_open this (0 : Int32) (2 : Int32) h3) (fun (r8 : Int32) (h9 : PH) => j76 r8 h9))))) (fun (j51 : PH → Option (Int32 × PH)) => if (h0.1 this 8) = (1 : Int32) then (lt (pI h0 this 7 (0 : Int32)) (fun (h10 : PH) => cb (f_X9_at (rt this 0) 11 h10) (fun (r11 : Int32) (h12 : PH) => if r11 = 0 then (cb (f_X9_at (rt this 0) 12 h12) (fun (r13 : Int32) (h14 : PH) => if r13 = 0 then (j51 h14) else (cb (f_X6_open this (1 : Int32) (1 : Int32) h14) (fun (r15 : Int32) (h16 : PH) => zr r15 h16)))) else (cb (f_X6_open this (4 : Int32) (1 : Int32) h12) (fun (r17 : Int32) (h18 : PH) => zr r17 h18))))) else (j51 h0))
set_option maxRecDepth 100000 in
set_option maxHeartbeats 4000000 in
theorem ct_X6_readOperand (l : Launch) (this : Nat) (h0 : PH) (hk : (kd this).1 = 6) : CT mkI l yX6_readOperand cX6_readOperand 1 (some .boolean) (rmd 7) [.ref this] h0 (f_X6_readOperand this h0) := by
  refine ct_of (by decide) (Nat.le_of_ble_eq_true rfl) ?_
  intro p e s m args below meth c D cA ad A X hr hlk
  have X : Cx p s m args c RX6 cX6_readOperand 1 D cA ad A := X
  unfold f_X6_readOperand
  refine so_pick (L' := [(0, .ref this)]) X [0] rfl ?_
  refine so_aload_n (i := 0) X 0 (dkX6_readOperand (0, .aload_n 0, 1) (pgm 0 rfl)) rfl rfl ?_
  refine sf_getI X ff_6_8 lk_296 hk (dkX6_readOperand (1, .getfield 40, 3) (pgm 1 rfl)) ?_
  refine so_iconst (v := (1 : Int32)) X (dkX6_readOperand (4, .iconst 1, 1) (pgm 2 rfl)) ic_1 ?_
  refine so_join (jf := fun (h1 : PH) => cb (f_X9_at (rt this 0) 13 h1) (fun (r2 : Int32) (h3 : PH) => lt (fun (t4 : Int32) (h5 : PH) => zr t4 h5) (fun (j76 : Int32 → PH → Option (Int32 × PH)) => if r2 = 0 then (cb (f_X6_readAtom this h3) (fun (r6 : Int32) (h7 : PH) => j76 r6 h7)) else (cb (f_X6_open this (0 : Int32) (2 : Int32) h3) (fun (r8 : Int32) (h9 : PH) => j76 r8 h9))))) (fun (j : PH → Option (Int32 × PH)) => ∀  (h1 : PH), SWo (QM mkI below args s D cA ad A) p l e (rmd 7) s m args below meth c 0 0 1 D cA ad A 51 [(0, .ref this)] [] h1 (j h1)) ?_ (fun j51 hj51 => ?_)
  · intro h1
    refine so_aload_n (i := 0) X 0 (dkX6_readOperand (51, .aload_n 0, 1) (pgm 27 rfl)) rfl rfl ?_
    refine sf_getR X ff_6_0 lk_288 hk (dkX6_readOperand (52, .getfield 24, 3) (pgm 28 rfl)) ?_
    refine so_ldcS (n := 13) (tx := "(") X (pgm 13 rfl) (dkX6_readOperand (55, .ldc 175, 2) (pgm 29 rfl)) ?_
    refine so_callV (n := 1) (As := [.ref (200 + 13)]) X (ct_X9_at l (rt this 0) 13 h1 (fo (rk_6_0 this hk)) (by decide : 13 < NS)) (fo (rk_6_0 this hk)) (by decide) rfl lk_967 lk_968 lk_969 lk_124 lk_970 (by decide +kernel) rfl rfl rfl (rm_ok (by omega) (by decide)) ⟨Nat.zero_le _, Nat.zero_le _⟩ (Nat.le_of_ble_eq_true rfl) (dkX6_readOperand (57, .invokevirtual 69, 3) (pgm 30 rfl)) (fun r2 h3 => ?_) rfl
    refine so_join (jf := fun (t4 : Int32) (h5 : PH) => zr t4 h5) (fun (j : Int32 → PH → Option (Int32 × PH)) => ∀ (t4 : Int32) (h5 : PH), SWo (QM mkI below args s D cA ad A) p l e (rmd 7) s m args below meth c 0 0 1 D cA ad A 76 [] [.int t4] h5 (j t4 h5)) ?_ (fun j76 hj76 => ?_)
    · intro t4 h5
      exact so_zret X hr hlk (dkX6_readOperand (76, .ireturn, 1) (pgm 39 rfl))
    refine so_if_eq (tgt := 72) X (dkX6_readOperand (60, .ifCond .eq 12, 3) (pgm 31 rfl)) rfl (fun _ => ?_) (fun _ => ?_)
    · refine so_aload_n (i := 0) X 0 (dkX6_readOperand (72, .aload_n 0, 1) (pgm 37 rfl)) rfl rfl ?_
      refine so_callV (n := 0) (As := []) X (ct_X6_readAtom l this h3 hk) hk (by decide) rfl lk_1042 lk_1044 lk_24 lk_123 lk_1045 (by decide +kernel) rfl rfl rfl (rm_ok (by omega) (by decide)) ⟨Nat.zero_le _, Nat.zero_le _⟩ (Nat.le_of_ble_eq_true rfl) (dkX6_readOperand (73, .invokevirtual 177, 3) (pgm 38 rfl)) (fun r6 h7 => ?_) rfl
      exact so_pick X [] rfl (hj76 r6 h7)
    · refine so_aload_n (i := 0) X 0 (dkX6_readOperand (63, .aload_n 0, 1) (pgm 32 rfl)) rfl rfl ?_
      refine so_iconst (v := (0 : Int32)) X (dkX6_readOperand (64, .iconst 0, 1) (pgm 33 rfl)) ic_0 ?_
      refine so_iconst (v := (2 : Int32)) X (dkX6_readOperand (65, .iconst 2, 1) (pgm 34 rfl)) ic_2 ?_
      refine so_callV (n := 2) (As := [.int (0 : Int32), .int (2 : Int32)]) X (ct_X6_open l this (0 : Int32) (2 : Int32) h3 hk) hk (by decide) rfl lk_1032 lk_1034 lk_22 lk_123 lk_1035 (by decide +kernel) rfl rfl rfl (rm_ok (by omega) (by decide)) ⟨Nat.zero_le _, Nat.zero_le _⟩ (Nat.le_of_ble_eq_true rfl) (dkX6_readOperand (66, .invokevirtual 170, 3) (pgm 35 rfl)) (fun r8 h9 => ?_) rfl
      refine so_goto (tgt := 76) X (dkX6_readOperand (69, .goto 7, 3) (pgm 36 rfl)) rfl ?_
      exact so_pick X [] rfl (hj76 r8 h9)
  refine so_icmp_ne (tgt := 51) X (dkX6_readOperand (5, .if_icmp .ne 46, 3) (pgm 3 rfl)) rfl (fun _ => ?_) (fun _ => ?_)
  · exact so_pick X [0] rfl (hj51 h0)
  · refine so_aload_n (i := 0) X 0 (dkX6_readOperand (8, .aload_n 0, 1) (pgm 4 rfl)) rfl rfl ?_
    refine so_iconst (v := (0 : Int32)) X (dkX6_readOperand (9, .iconst 0, 1) (pgm 5 rfl)) ic_0 ?_
    refine sf_putI X ff_6_7 ft_6 rfl lk_295 hk rfl rfl (dkX6_readOperand (10, .putfield 164, 3) (pgm 6 rfl)) (fun h10 => ?_)
    refine so_aload_n (i := 0) X 0 (dkX6_readOperand (13, .aload_n 0, 1) (pgm 7 rfl)) rfl rfl ?_
    refine sf_getR X ff_6_0 lk_288 hk (dkX6_readOperand (14, .getfield 24, 3) (pgm 8 rfl)) ?_
    refine so_ldcS (n := 11) (tx := "not") X (pgm 11 rfl) (dkX6_readOperand (17, .ldc 168, 2) (pgm 9 rfl)) ?_
    refine so_callV (n := 1) (As := [.ref (200 + 11)]) X (ct_X9_at l (rt this 0) 11 h10 (fo (rk_6_0 this hk)) (by decide : 11 < NS)) (fo (rk_6_0 this hk)) (by decide) rfl lk_967 lk_968 lk_969 lk_124 lk_970 (by decide +kernel) rfl rfl rfl (rm_ok (by omega) (by decide)) ⟨Nat.zero_le _, Nat.zero_le _⟩ (Nat.le_of_ble_eq_true rfl) (dkX6_readOperand (19, .invokevirtual 69, 3) (pgm 10 rfl)) (fun r11 h12 => ?_) rfl
    refine so_if_eq (tgt := 32) X (dkX6_readOperand (22, .ifCond .eq 10, 3) (pgm 11 rfl)) rfl (fun _ => ?_) (fun _ => ?_)
    · refine so_aload_n (i := 0) X 0 (dkX6_readOperand (32, .aload_n 0, 1) (pgm 17 rfl)) rfl rfl ?_
      refine sf_getR X ff_6_0 lk_288 hk (dkX6_readOperand (33, .getfield 24, 3) (pgm 18 rfl)) ?_
      refine so_ldcS (n := 12) (tx := "[") X (pgm 12 rfl) (dkX6_readOperand (36, .ldc 173, 2) (pgm 19 rfl)) ?_
      refine so_callV (n := 1) (As := [.ref (200 + 12)]) X (ct_X9_at l (rt this 0) 12 h12 (fo (rk_6_0 this hk)) (by decide : 12 < NS)) (fo (rk_6_0 this hk)) (by decide) rfl lk_967 lk_968 lk_969 lk_124 lk_970 (by decide +kernel) rfl rfl rfl (rm_ok (by omega) (by decide)) ⟨Nat.zero_le _, Nat.zero_le _⟩ (Nat.le_of_ble_eq_true rfl) (dkX6_readOperand (38, .invokevirtual 69, 3) (pgm 20 rfl)) (fun r13 h14 => ?_) rfl
      refine so_if_eq (tgt := 51) X (dkX6_readOperand (41, .ifCond .eq 10, 3) (pgm 21 rfl)) rfl (fun _ => ?_) (fun _ => ?_)
      · exact so_pick X [0] rfl (hj51 h14)
      · refine so_aload_n (i := 0) X 0 (dkX6_readOperand (44, .aload_n 0, 1) (pgm 22 rfl)) rfl rfl ?_
        refine so_iconst (v := (1 : Int32)) X (dkX6_readOperand (45, .iconst 1, 1) (pgm 23 rfl)) ic_1 ?_
        refine so_iconst (v := (1 : Int32)) X (dkX6_readOperand (46, .iconst 1, 1) (pgm 24 rfl)) ic_1 ?_
        refine so_callV (n := 2) (As := [.int (1 : Int32), .int (1 : Int32)]) X (ct_X6_open l this (1 : Int32) (1 : Int32) h14 hk) hk (by decide) rfl lk_1032 lk_1034 lk_22 lk_123 lk_1035 (by decide +kernel) rfl rfl rfl (rm_ok (by omega) (by decide)) ⟨Nat.zero_le _, Nat.zero_le _⟩ (Nat.le_of_ble_eq_true rfl) (dkX6_readOperand (47, .invokevirtual 170, 3) (pgm 25 rfl)) (fun r15 h16 => ?_) rfl
        exact so_zret X hr hlk (dkX6_readOperand (50, .ireturn, 1) (pgm 26 rfl))
    · refine so_aload_n (i := 0) X 0 (dkX6_readOperand (25, .aload_n 0, 1) (pgm 12 rfl)) rfl rfl ?_
      refine so_iconst (v := (4 : Int32)) X (dkX6_readOperand (26, .iconst 4, 1) (pgm 13 rfl)) ic_4 ?_
      refine so_iconst (v := (1 : Int32)) X (dkX6_readOperand (27, .iconst 1, 1) (pgm 14 rfl)) ic_1 ?_
      refine so_callV (n := 2) (As := [.int (4 : Int32), .int (1 : Int32)]) X (ct_X6_open l this (4 : Int32) (1 : Int32) h12 hk) hk (by decide) rfl lk_1032 lk_1034 lk_22 lk_123 lk_1035 (by decide +kernel) rfl rfl rfl (rm_ok (by omega) (by decide)) ⟨Nat.zero_le _, Nat.zero_le _⟩ (Nat.le_of_ble_eq_true rfl) (dkX6_readOperand (28, .invokevirtual 170, 3) (pgm 15 rfl)) (fun r17 h18 => ?_) rfl
      exact so_zret X hr hlk (dkX6_readOperand (31, .ireturn, 1) (pgm 16 rfl))
def pgX7_servedAsAsked : List (Nat × Instr × Nat) := [(0, .aload_n 0, 1), (1, .invokevirtual 30, 3), (4, .aload_n 0, 1), (5, .iload_n 1, 1), (6, .invokevirtual 33, 3), (9, .ireturn, 1)]
theorem dkX7_servedAsAsked : ∀ q ∈ pgX7_servedAsAsked, decode cX7_servedAsAsked q.1 = .ok q.2 := by decide +kernel
def f_X7_servedAsAsked (this : Nat) (a1 : Int32) (h0 : PH) : Option (Int32 × PH) :=
  cb (f_X7_sayAsItIs this h0) (fun (r1 : Unit) (h2 : PH) => cb (f_X7_serve this a1 h2) (fun (r3 : Int32) (h4 : PH) => some (r3, h4)))
set_option maxRecDepth 100000 in
set_option maxHeartbeats 4000000 in
theorem ct_X7_servedAsAsked (l : Launch) (this : Nat) (a1 : Int32) (h0 : PH) (hk : (kd this).1 = 7) : CT mkI l yX7_servedAsAsked cX7_servedAsAsked 2 (some .int) (rmd 4) [.ref this, .int a1] h0 (f_X7_servedAsAsked this a1 h0) := by
  refine ct_of (by decide) (Nat.le_of_ble_eq_true rfl) ?_
  intro p e s m args below meth c D cA ad A X hr hlk
  have X : Cx p s m args c RX7 cX7_servedAsAsked 2 D cA ad A := X
  unfold f_X7_servedAsAsked
  refine so_pick (L' := [(0, .ref this), (1, .int a1)]) X [0, 1] rfl ?_
  refine so_aload_n (i := 0) X 0 (dkX7_servedAsAsked (0, .aload_n 0, 1) (pgm 0 rfl)) rfl rfl ?_
  refine so_callV (n := 0) (As := []) X (ct_X7_sayAsItIs l this h0 hk) hk (by decide) rfl lk_712 lk_714 lk_6 lk_129 lk_715 (by decide +kernel) rfl rfl rfl (rm_ok (by omega) (by decide)) ⟨Nat.zero_le _, Nat.zero_le _⟩ (Nat.le_of_ble_eq_true rfl) (dkX7_servedAsAsked (1, .invokevirtual 30, 3) (pgm 1 rfl)) (fun r1 h2 => ?_) rfl
  refine so_aload_n (i := 0) X 0 (dkX7_servedAsAsked (4, .aload_n 0, 1) (pgm 2 rfl)) rfl rfl ?_
  refine so_iload_n (i := 1) X 1 (dkX7_servedAsAsked (5, .iload_n 1, 1) (pgm 3 rfl)) rfl rfl ?_
  refine so_callV (n := 1) (As := [.int a1]) X (ct_X7_serve l this a1 h2 hk) hk (by decide) rfl lk_719 lk_721 lk_7 lk_129 lk_722 (by decide +kernel) rfl rfl rfl (rm_ok (by omega) (by decide)) ⟨Nat.zero_le _, Nat.zero_le _⟩ (Nat.le_of_ble_eq_true rfl) (dkX7_servedAsAsked (6, .invokevirtual 33, 3) (pgm 4 rfl)) (fun r3 h4 => ?_) rfl
  exact so_iret X hr hlk (dkX7_servedAsAsked (9, .ireturn, 1) (pgm 5 rfl))
def pgX7_findGain : List (Nat × Instr × Nat) := [(0, .aload_n 0, 1), (1, .iload_n 1, 1), (2, .aload_n 0, 1), (3, .iload_n 2, 1), (4, .invokevirtual 86, 3), (7, .invokevirtual 89, 3), (10, .istore_n 3, 1), (11, .aload_n 0, 1), (12, .iconst 0, 1), (13, .putfield 92, 3), (16, .aload_n 0, 1), (17, .iconst (-1), 1), (18, .putfield 95, 3), (21, .iconst 1, 1), (22, .istore 4, 2), (24, .iload 4, 2), (26, .iconst 3, 1), (27, .if_icmp .gt 96, 3), (30, .iconst 0, 1), (31, .istore 5, 2), (33, .iload 5, 2), (35, .aload_n 0, 1), (36, .getfield 18, 3), (39, .getfield 60, 3), (42, .if_icmp .ge 75, 3), (45, .aload_n 0, 1), (46, .getfield 18, 3), (49, .getfield 75, 3), (52, .iload 5, 2), (54, .iaload, 1), (55, .iload_n 1, 1), (56, .if_icmp .ne 55, 3), (59, .aload_n 0, 1), (60, .iload 5, 2), (62, .iload 4, 2), (64, .invokevirtual 98, 3), (67, .ifCond .eq 44, 3), (70, .aload_n 0, 1), (71, .iload_n 1, 1), (72, .aload_n 0, 1), (73, .iload_n 2, 1), (74, .invokevirtual 33, 3), (77, .invokevirtual 89, 3), (80, .iload_n 3, 1), (81, .isub, 1), (82, .istore 6, 2), (84, .iload 6, 2), (86, .aload_n 0, 1), (87, .getfield 92, 3), (90, .if_icmp .le 21, 3), (93, .aload_n 0, 1), (94, .iload 6, 2), (96, .putfield 92, 3), (99, .aload_n 0, 1), (100, .bipush 10, 2), (102, .iload 4, 2), (104, .imul, 1), (105, .iload 5, 2), (107, .iadd, 1), (108, .putfield 95, 3), (111, .iinc 5 1, 3), (114, .goto (-81), 3), (117, .iinc 4 1, 3), (120, .goto (-96), 3), (123, .return_, 1)]
theorem dkX7_findGain : ∀ q ∈ pgX7_findGain, decode cX7_findGain q.1 = .ok q.2 := by decide +kernel
def b_X7_findGain_33 (this : Nat) (a1 : Int32) (a2 : Int32) (x5 : Int32) (s24 : Int32) (j117 : PH → Option (Unit × PH)) (rec33 : (Int32) → PH → Option (Unit × PH)) (s33 : Int32) (hh33 : PH) : Option (Unit × PH) :=
  if (hh33.1 (rt this 0) 5) ≤ s33 then (j117 hh33) else (ldI hh33 (rt (rt this 0) 12) 10 s33 (fun (x12 : Int32) => lt (fun (h13 : PH) => lt (s33 + Int32.ofInt 1) (fun (x14 : Int32) => rec33 x14 h13)) (fun (j111 : PH → Option (Unit × PH)) => if x12 = a1 then (cb (f_X7_sayOtherwise this s33 s24 hh33) (fun (r15 : Int32) (h16 : PH) => if r15 = 0 then (j111 h16) else (cb (f_X7_serve this a2 h16) (fun (r17 : Int32) (h18 : PH) => cb (f_X7_weightFor this a1 r17 h18) (fun (r19 : Int32) (h20 : PH) => lt (r19 - x5) (fun (x21 : Int32) => if x21 ≤ (h20.1 this 6) then (j111 h20) else (lt (pI h20 this 6 x21) (fun (h22 : PH) => lt (pI h22 this 7 (((10 : Int32) * s24) + s33)) (fun (h23 : PH) => j111 h23))))))))) else (j111 hh33))))
def b_X7_findGain_24 (this : Nat) (a1 : Int32) (a2 : Int32) (x5 : Int32) (rec24 : (Int32) → PH → Option (Unit × PH)) (s24 : Int32) (hh24 : PH) : Option (Unit × PH) :=
  if (3 : Int32) < s24 then (some ((), hh24)) else (lt (0 : Int32) (fun (x9 : Int32) => lt (fun (h10 : PH) => lt (s24 + Int32.ofInt 1) (fun (x11 : Int32) => rec24 x11 h10)) (fun (j117 : PH → Option (Unit × PH)) => lp (b_X7_findGain_33 this a1 a2 x5 s24 j117) FU x9 hh24)))
def f_X7_findGain (this : Nat) (a1 : Int32) (a2 : Int32) (h0 : PH) : Option (Unit × PH) :=
  cb (f_X7_servedAsAsked this a2 h0) (fun (r1 : Int32) (h2 : PH) => cb (f_X7_weightFor this a1 r1 h2) (fun (r3 : Int32) (h4 : PH) => lt r3 (fun (x5 : Int32) => lt (pI h4 this 6 (0 : Int32)) (fun (h6 : PH) => lt (pI h6 this 7 (-1 : Int32)) (fun (h7 : PH) => lt (1 : Int32) (fun (x8 : Int32) => lp (b_X7_findGain_24 this a1 a2 x5) FU x8 h7))))))
set_option maxRecDepth 100000 in
set_option maxHeartbeats 4000000 in
theorem ct_X7_findGain (l : Launch) (this : Nat) (a1 : Int32) (a2 : Int32) (h0 : PH) (hk : (kd this).1 = 7) : CT mkV l yX7_findGain cX7_findGain 7 none (rmd 5) [.ref this, .int a1, .int a2] h0 (f_X7_findGain this a1 a2 h0) := by
  refine ct_of (by decide) (Nat.le_of_ble_eq_true rfl) ?_
  intro p e s m args below meth c D cA ad A X hr hlk
  have X : Cx p s m args c RX7 cX7_findGain 7 D cA ad A := X
  unfold f_X7_findGain
  refine so_pick (L' := [(0, .ref this), (1, .int a1), (2, .int a2)]) X [0, 1, 2] rfl ?_
  refine so_aload_n (i := 0) X 0 (dkX7_findGain (0, .aload_n 0, 1) (pgm 0 rfl)) rfl rfl ?_
  refine so_iload_n (i := 1) X 1 (dkX7_findGain (1, .iload_n 1, 1) (pgm 1 rfl)) rfl rfl ?_
  refine so_aload_n (i := 0) X 0 (dkX7_findGain (2, .aload_n 0, 1) (pgm 2 rfl)) rfl rfl ?_
  refine so_iload_n (i := 2) X 2 (dkX7_findGain (3, .iload_n 2, 1) (pgm 3 rfl)) rfl rfl ?_
  refine so_callV (n := 1) (As := [.int a2]) X (ct_X7_servedAsAsked l this a2 h0 hk) hk (by decide) rfl lk_1348 lk_709 lk_710 lk_129 lk_711 (by decide +kernel) rfl rfl rfl (rm_ok (by omega) (by decide)) ⟨Nat.zero_le _, Nat.zero_le _⟩ (Nat.le_of_ble_eq_true rfl) (dkX7_findGain (4, .invokevirtual 86, 3) (pgm 4 rfl)) (fun r1 h2 => ?_) rfl
  refine so_callV (n := 2) (As := [.int a1, .int r1]) X (ct_X7_weightFor l this a1 r1 h2 hk) hk (by decide) rfl lk_1349 lk_1334 lk_1335 lk_129 lk_1336 (by decide +kernel) rfl rfl rfl (rm_ok (by omega) (by decide)) ⟨Nat.zero_le _, Nat.zero_le _⟩ (Nat.le_of_ble_eq_true rfl) (dkX7_findGain (7, .invokevirtual 89, 3) (pgm 5 rfl)) (fun r3 h4 => ?_) rfl
  refine so_istore_n (i := 3) X (dkX7_findGain (10, .istore_n 3, 1) (pgm 6 rfl)) rfl (by decide) (Lf := fun x5 => [(3, .int x5), (0, .ref this), (1, .int a1), (2, .int a2)]) (fun _ => rfl) (fun x5 => ?_)
  refine so_aload_n (i := 0) X 1 (dkX7_findGain (11, .aload_n 0, 1) (pgm 7 rfl)) rfl rfl ?_
  refine so_iconst (v := (0 : Int32)) X (dkX7_findGain (12, .iconst 0, 1) (pgm 8 rfl)) ic_0 ?_
  refine sf_putI X ff_7_6 ft_7 rfl lk_430 hk rfl rfl (dkX7_findGain (13, .putfield 92, 3) (pgm 9 rfl)) (fun h6 => ?_)
  refine so_aload_n (i := 0) X 1 (dkX7_findGain (16, .aload_n 0, 1) (pgm 10 rfl)) rfl rfl ?_
  refine so_iconst (v := (-1 : Int32)) X (dkX7_findGain (17, .iconst (-1), 1) (pgm 11 rfl)) ic_m1 ?_
  refine sf_putI X ff_7_7 ft_7 rfl lk_432 hk rfl rfl (dkX7_findGain (18, .putfield 95, 3) (pgm 12 rfl)) (fun h7 => ?_)
  refine so_iconst (v := (1 : Int32)) X (dkX7_findGain (21, .iconst 1, 1) (pgm 13 rfl)) ic_1 ?_
  refine so_istore (i := 4) X (dkX7_findGain (22, .istore 4, 2) (pgm 14 rfl)) (by decide) (Lf := fun x8 => [(4, .int x8), (3, .int x5), (0, .ref this), (1, .int a1), (2, .int a2)]) (fun _ => rfl) (fun x8 => ?_)
  refine so_pick (L' := [(0, .ref this), (1, .int a1), (2, .int a2), (3, .int x5), (4, .int x8)]) X [2, 3, 4, 1, 0] rfl ?_
  refine so_loop (body := b_X7_findGain_24 this a1 a2 x5) (fun (s24 : Int32) => [(0, .ref this), (1, .int a1), (2, .int a2), (3, .int x5), (4, .int s24)]) (fun rec24 hrec24 s24 hh24 => ?_) FU x8 h7
  unfold b_X7_findGain_24
  refine so_iload (i := 4) X 4 (dkX7_findGain (24, .iload 4, 2) (pgm 15 rfl)) rfl ?_
  refine so_iconst (v := (3 : Int32)) X (dkX7_findGain (26, .iconst 3, 1) (pgm 16 rfl)) ic_3 ?_
  refine so_icmp_gt (tgt := 123) X (dkX7_findGain (27, .if_icmp .gt 96, 3) (pgm 17 rfl)) rfl (fun _ => ?_) (fun _ => ?_)
  · exact so_vret X hr hlk (dkX7_findGain (123, .return_, 1) (pgm 64 rfl))
  · refine so_iconst (v := (0 : Int32)) X (dkX7_findGain (30, .iconst 0, 1) (pgm 18 rfl)) ic_0 ?_
    refine so_istore (i := 5) X (dkX7_findGain (31, .istore 5, 2) (pgm 19 rfl)) (by decide) (Lf := fun x9 => [(5, .int x9), (0, .ref this), (1, .int a1), (2, .int a2), (3, .int x5), (4, .int s24)]) (fun _ => rfl) (fun x9 => ?_)
    refine so_join (jf := fun (h10 : PH) => lt (s24 + Int32.ofInt 1) (fun (x11 : Int32) => rec24 x11 h10)) (fun (j : PH → Option (Unit × PH)) => ∀  (h10 : PH), SWo (QM mkV below args s D cA ad A) p l e (rmd 5) s m args below meth c 0 0 7 D cA ad A 117 [(0, .ref this), (1, .int a1), (2, .int a2), (3, .int x5), (4, .int s24)] [] h10 (j h10)) ?_ (fun j117 hj117 => ?_)
    · intro h10
      refine so_iinc (i := 4) X 4 (dkX7_findGain (117, .iinc 4 1, 3) (pgm 62 rfl)) rfl rfl (by decide) (Lf := fun x11 => [(4, .int x11), (0, .ref this), (1, .int a1), (2, .int a2), (3, .int x5)]) (fun _ => rfl) (fun x11 => ?_)
      refine so_goto (tgt := 24) X (dkX7_findGain (120, .goto (-96), 3) (pgm 63 rfl)) rfl ?_
      exact so_pick X [1, 2, 3, 4, 0] rfl (hrec24 x11 h10)
    refine so_pick (L' := [(0, .ref this), (1, .int a1), (2, .int a2), (3, .int x5), (4, .int s24), (5, .int x9)]) X [1, 2, 3, 4, 5, 0] rfl ?_
    refine so_loop (body := b_X7_findGain_33 this a1 a2 x5 s24 j117) (fun (s33 : Int32) => [(0, .ref this), (1, .int a1), (2, .int a2), (3, .int x5), (4, .int s24), (5, .int s33)]) (fun rec33 hrec33 s33 hh33 => ?_) FU x9 hh24
    unfold b_X7_findGain_33
    refine so_iload (i := 5) X 5 (dkX7_findGain (33, .iload 5, 2) (pgm 20 rfl)) rfl ?_
    refine so_aload_n (i := 0) X 0 (dkX7_findGain (35, .aload_n 0, 1) (pgm 21 rfl)) rfl rfl ?_
    refine sf_getR X ff_7_0 lk_424 hk (dkX7_findGain (36, .getfield 18, 3) (pgm 22 rfl)) ?_
    refine sf_getI X ff_8_5 lk_182 (fo (rk_7_0 this hk)) (dkX7_findGain (39, .getfield 60, 3) (pgm 23 rfl)) ?_
    refine so_icmp_ge (tgt := 117) X (dkX7_findGain (42, .if_icmp .ge 75, 3) (pgm 24 rfl)) rfl (fun _ => ?_) (fun _ => ?_)
    · exact so_pick X [0, 1, 2, 3, 4] rfl (hj117 hh33)
    · refine so_aload_n (i := 0) X 0 (dkX7_findGain (45, .aload_n 0, 1) (pgm 25 rfl)) rfl rfl ?_
      refine sf_getR X ff_7_0 lk_424 hk (dkX7_findGain (46, .getfield 18, 3) (pgm 26 rfl)) ?_
      refine sf_getR X ff_8_12 lk_208 (fo (rk_7_0 this hk)) (dkX7_findGain (49, .getfield 75, 3) (pgm 27 rfl)) ?_
      refine so_iload (i := 5) X 5 (dkX7_findGain (52, .iload 5, 2) (pgm 28 rfl)) rfl ?_
      refine so_iald X (rk_8_12 (rt this 0) (fo (rk_7_0 this hk))) (dkX7_findGain (54, .iaload, 1) (pgm 29 rfl)) (fun x12 => ?_)
      refine so_iload_n (i := 1) X 1 (dkX7_findGain (55, .iload_n 1, 1) (pgm 30 rfl)) rfl rfl ?_
      refine so_join (jf := fun (h13 : PH) => lt (s33 + Int32.ofInt 1) (fun (x14 : Int32) => rec33 x14 h13)) (fun (j : PH → Option (Unit × PH)) => ∀  (h13 : PH), SWo (QM mkV below args s D cA ad A) p l e (rmd 5) s m args below meth c 0 0 7 D cA ad A 111 [(0, .ref this), (1, .int a1), (2, .int a2), (3, .int x5), (4, .int s24), (5, .int s33)] [] h13 (j h13)) ?_ (fun j111 hj111 => ?_)
      · intro h13
        refine so_iinc (i := 5) X 5 (dkX7_findGain (111, .iinc 5 1, 3) (pgm 60 rfl)) rfl rfl (by decide) (Lf := fun x14 => [(5, .int x14), (0, .ref this), (1, .int a1), (2, .int a2), (3, .int x5), (4, .int s24)]) (fun _ => rfl) (fun x14 => ?_)
        refine so_goto (tgt := 33) X (dkX7_findGain (114, .goto (-81), 3) (pgm 61 rfl)) rfl ?_
        exact so_pick X [1, 2, 3, 4, 5, 0] rfl (hrec33 x14 h13)
      refine so_icmp_ne (tgt := 111) X (dkX7_findGain (56, .if_icmp .ne 55, 3) (pgm 31 rfl)) rfl (fun _ => ?_) (fun _ => ?_)
      · exact so_pick X [0, 1, 2, 3, 4, 5] rfl (hj111 hh33)
      · refine so_aload_n (i := 0) X 0 (dkX7_findGain (59, .aload_n 0, 1) (pgm 32 rfl)) rfl rfl ?_
        refine so_iload (i := 5) X 5 (dkX7_findGain (60, .iload 5, 2) (pgm 33 rfl)) rfl ?_
        refine so_iload (i := 4) X 4 (dkX7_findGain (62, .iload 4, 2) (pgm 34 rfl)) rfl ?_
        refine so_callV (n := 2) (As := [.int s33, .int s24]) X (ct_X7_sayOtherwise l this s33 s24 hh33 hk) hk (by decide) rfl lk_1350 lk_1352 lk_41 lk_129 lk_1353 (by decide +kernel) rfl rfl rfl (rm_ok (by omega) (by decide)) ⟨Nat.zero_le _, Nat.zero_le _⟩ (Nat.le_of_ble_eq_true rfl) (dkX7_findGain (64, .invokevirtual 98, 3) (pgm 35 rfl)) (fun r15 h16 => ?_) rfl
        refine so_if_eq (tgt := 111) X (dkX7_findGain (67, .ifCond .eq 44, 3) (pgm 36 rfl)) rfl (fun _ => ?_) (fun _ => ?_)
        · exact so_pick X [0, 1, 2, 3, 4, 5] rfl (hj111 h16)
        · refine so_aload_n (i := 0) X 0 (dkX7_findGain (70, .aload_n 0, 1) (pgm 37 rfl)) rfl rfl ?_
          refine so_iload_n (i := 1) X 1 (dkX7_findGain (71, .iload_n 1, 1) (pgm 38 rfl)) rfl rfl ?_
          refine so_aload_n (i := 0) X 0 (dkX7_findGain (72, .aload_n 0, 1) (pgm 39 rfl)) rfl rfl ?_
          refine so_iload_n (i := 2) X 2 (dkX7_findGain (73, .iload_n 2, 1) (pgm 40 rfl)) rfl rfl ?_
          refine so_callV (n := 1) (As := [.int a2]) X (ct_X7_serve l this a2 h16 hk) hk (by decide) rfl lk_719 lk_721 lk_7 lk_129 lk_722 (by decide +kernel) rfl rfl rfl (rm_ok (by omega) (by decide)) ⟨Nat.zero_le _, Nat.zero_le _⟩ (Nat.le_of_ble_eq_true rfl) (dkX7_findGain (74, .invokevirtual 33, 3) (pgm 41 rfl)) (fun r17 h18 => ?_) rfl
          refine so_callV (n := 2) (As := [.int a1, .int r17]) X (ct_X7_weightFor l this a1 r17 h18 hk) hk (by decide) rfl lk_1349 lk_1334 lk_1335 lk_129 lk_1336 (by decide +kernel) rfl rfl rfl (rm_ok (by omega) (by decide)) ⟨Nat.zero_le _, Nat.zero_le _⟩ (Nat.le_of_ble_eq_true rfl) (dkX7_findGain (77, .invokevirtual 89, 3) (pgm 42 rfl)) (fun r19 h20 => ?_) rfl
          refine so_iload_n (i := 3) X 3 (dkX7_findGain (80, .iload_n 3, 1) (pgm 43 rfl)) rfl rfl ?_
          refine so_isub X (dkX7_findGain (81, .isub, 1) (pgm 44 rfl)) ?_
          refine so_istore (i := 6) X (dkX7_findGain (82, .istore 6, 2) (pgm 45 rfl)) (by decide) (Lf := fun x21 => [(6, .int x21), (0, .ref this), (1, .int a1), (2, .int a2), (3, .int x5), (4, .int s24), (5, .int s33)]) (fun _ => rfl) (fun x21 => ?_)
          refine so_iload (i := 6) X 0 (dkX7_findGain (84, .iload 6, 2) (pgm 46 rfl)) rfl ?_
          refine so_aload_n (i := 0) X 1 (dkX7_findGain (86, .aload_n 0, 1) (pgm 47 rfl)) rfl rfl ?_
          refine sf_getI X ff_7_6 lk_430 hk (dkX7_findGain (87, .getfield 92, 3) (pgm 48 rfl)) ?_
          refine so_icmp_le (tgt := 111) X (dkX7_findGain (90, .if_icmp .le 21, 3) (pgm 49 rfl)) rfl (fun _ => ?_) (fun _ => ?_)
          · exact so_pick X [1, 2, 3, 4, 5, 6] rfl (hj111 h20)
          · refine so_aload_n (i := 0) X 1 (dkX7_findGain (93, .aload_n 0, 1) (pgm 50 rfl)) rfl rfl ?_
            refine so_iload (i := 6) X 0 (dkX7_findGain (94, .iload 6, 2) (pgm 51 rfl)) rfl ?_
            refine sf_putI X ff_7_6 ft_7 rfl lk_430 hk rfl rfl (dkX7_findGain (96, .putfield 92, 3) (pgm 52 rfl)) (fun h22 => ?_)
            refine so_aload_n (i := 0) X 1 (dkX7_findGain (99, .aload_n 0, 1) (pgm 53 rfl)) rfl rfl ?_
            refine so_bipush (v := (10 : Int32)) X (dkX7_findGain (100, .bipush 10, 2) (pgm 54 rfl)) bp_10 ?_
            refine so_iload (i := 4) X 5 (dkX7_findGain (102, .iload 4, 2) (pgm 55 rfl)) rfl ?_
            refine so_imul X (dkX7_findGain (104, .imul, 1) (pgm 56 rfl)) ?_
            refine so_iload (i := 5) X 6 (dkX7_findGain (105, .iload 5, 2) (pgm 57 rfl)) rfl ?_
            refine so_iadd X (dkX7_findGain (107, .iadd, 1) (pgm 58 rfl)) ?_
            refine sf_putI X ff_7_7 ft_7 rfl lk_432 hk rfl rfl (dkX7_findGain (108, .putfield 95, 3) (pgm 59 rfl)) (fun h23 => ?_)
            exact so_pick X [1, 2, 3, 4, 5, 6] rfl (hj111 h23)
def pgX11_plans : List (Nat × Instr × Nat) := [(0, .aload_n 0, 1), (1, .getfield 57, 3), (4, .invokevirtual 194, 3), (7, .getfield 198, 3), (10, .ireturn, 1)]
theorem dkX11_plans : ∀ q ∈ pgX11_plans, decode cX11_plans q.1 = .ok q.2 := by decide +kernel
def f_X11_plans (this : Nat) (h0 : PH) : Option (Int32 × PH) :=
  cb (f_X2_settled (rt this 7) h0) (fun (r1 : Unit) (h2 : PH) => some ((h2.1 (rt this 7) 4), h2))
set_option maxRecDepth 100000 in
set_option maxHeartbeats 4000000 in
theorem ct_X11_plans (l : Launch) (this : Nat) (h0 : PH) (hk : (kd this).1 = 11) : CT mkI l yX11_plans cX11_plans 1 (some .int) (rmd 6) [.ref this] h0 (f_X11_plans this h0) := by
  refine ct_of (by decide) (Nat.le_of_ble_eq_true rfl) ?_
  intro p e s m args below meth c D cA ad A X hr hlk
  have X : Cx p s m args c RX11 cX11_plans 1 D cA ad A := X
  unfold f_X11_plans
  refine so_pick (L' := [(0, .ref this)]) X [0] rfl ?_
  refine so_aload_n (i := 0) X 0 (dkX11_plans (0, .aload_n 0, 1) (pgm 0 rfl)) rfl rfl ?_
  refine sf_getR X ff_11_7 lk_572 hk (dkX11_plans (1, .getfield 57, 3) (pgm 1 rfl)) ?_
  refine so_callV (n := 0) (As := []) X (ct_X2_settled l (rt this 7) h0 (fo (rk_11_7 this hk))) (fo (rk_11_7 this hk)) (by decide) rfl lk_666 lk_667 lk_668 lk_128 lk_669 (by decide +kernel) rfl rfl rfl (rm_ok (by omega) (by decide)) ⟨Nat.zero_le _, Nat.zero_le _⟩ (Nat.le_of_ble_eq_true rfl) (dkX11_plans (4, .invokevirtual 194, 3) (pgm 2 rfl)) (fun r1 h2 => ?_) rfl
  refine sf_getI X ff_2_4 lk_394 (fo (rk_11_7 this hk)) (dkX11_plans (7, .getfield 198, 3) (pgm 3 rfl)) ?_
  exact so_iret X hr hlk (dkX11_plans (10, .ireturn, 1) (pgm 4 rfl))
def pgX11_nights : List (Nat × Instr × Nat) := [(0, .aload_n 0, 1), (1, .getfield 57, 3), (4, .invokevirtual 194, 3), (7, .invokevirtual 257, 3), (10, .ireturn, 1)]
theorem dkX11_nights : ∀ q ∈ pgX11_nights, decode cX11_nights q.1 = .ok q.2 := by decide +kernel
def f_X11_nights (this : Nat) (h0 : PH) : Option (Int32 × PH) :=
  cb (f_X2_settled (rt this 7) h0) (fun (r1 : Unit) (h2 : PH) => cb (f_X2_nightsForAll (rt this 7) h2) (fun (r3 : Int32) (h4 : PH) => some (r3, h4)))
set_option maxRecDepth 100000 in
set_option maxHeartbeats 4000000 in
theorem ct_X11_nights (l : Launch) (this : Nat) (h0 : PH) (hk : (kd this).1 = 11) : CT mkI l yX11_nights cX11_nights 1 (some .int) (rmd 6) [.ref this] h0 (f_X11_nights this h0) := by
  refine ct_of (by decide) (Nat.le_of_ble_eq_true rfl) ?_
  intro p e s m args below meth c D cA ad A X hr hlk
  have X : Cx p s m args c RX11 cX11_nights 1 D cA ad A := X
  unfold f_X11_nights
  refine so_pick (L' := [(0, .ref this)]) X [0] rfl ?_
  refine so_aload_n (i := 0) X 0 (dkX11_nights (0, .aload_n 0, 1) (pgm 0 rfl)) rfl rfl ?_
  refine sf_getR X ff_11_7 lk_572 hk (dkX11_nights (1, .getfield 57, 3) (pgm 1 rfl)) ?_
  refine so_callV (n := 0) (As := []) X (ct_X2_settled l (rt this 7) h0 (fo (rk_11_7 this hk))) (fo (rk_11_7 this hk)) (by decide) rfl lk_666 lk_667 lk_668 lk_128 lk_669 (by decide +kernel) rfl rfl rfl (rm_ok (by omega) (by decide)) ⟨Nat.zero_le _, Nat.zero_le _⟩ (Nat.le_of_ble_eq_true rfl) (dkX11_nights (4, .invokevirtual 194, 3) (pgm 2 rfl)) (fun r1 h2 => ?_) rfl
  refine so_callV (n := 0) (As := []) X (ct_X2_nightsForAll l (rt this 7) h2 (fo (rk_11_7 this hk))) (fo (rk_11_7 this hk)) (by decide) rfl lk_692 lk_693 lk_694 lk_128 lk_695 (by decide +kernel) rfl rfl rfl (rm_ok (by omega) (by decide)) ⟨Nat.zero_le _, Nat.zero_le _⟩ (Nat.le_of_ble_eq_true rfl) (dkX11_nights (7, .invokevirtual 257, 3) (pgm 3 rfl)) (fun r3 h4 => ?_) rfl
  exact so_iret X hr hlk (dkX11_nights (10, .ireturn, 1) (pgm 4 rfl))
def pgX11_bestRule : List (Nat × Instr × Nat) := [(0, .aload_n 0, 1), (1, .getfield 57, 3), (4, .invokevirtual 194, 3), (7, .pop, 1), (8, .iconst 0, 1), (9, .istore_n 1, 1), (10, .iconst (-1), 1), (11, .istore_n 2, 1), (12, .iconst 0, 1), (13, .istore_n 3, 1), (14, .iload_n 3, 1), (15, .iconst 4, 1), (16, .if_icmp .ge 37, 3), (19, .aload_n 0, 1), (20, .getfield 20, 3), (23, .aload_n 0, 1), (24, .getfield 66, 3), (27, .iload_n 3, 1), (28, .invokevirtual 290, 3), (31, .invokevirtual 254, 3), (34, .istore 4, 2), (36, .iload 4, 2), (38, .iload_n 2, 1), (39, .if_icmp .le 8, 3), (42, .iload_n 3, 1), (43, .istore_n 1, 1), (44, .iload 4, 2), (46, .istore_n 2, 1), (47, .iinc 3 1, 3), (50, .goto (-36), 3), (53, .iload_n 1, 1), (54, .ireturn, 1)]
theorem dkX11_bestRule : ∀ q ∈ pgX11_bestRule, decode cX11_bestRule q.1 = .ok q.2 := by decide +kernel
def b_X11_bestRule_14 (this : Nat) (rec14 : (Int32 × Int32 × Int32) → PH → Option (Int32 × PH)) (s14 : Int32 × Int32 × Int32) (hh14 : PH) : Option (Int32 × PH) :=
  if (4 : Int32) ≤ s14.2.2 then (some (s14.1, hh14)) else (cb (f_X7_servedAsAsked (rt this 8) s14.2.2 hh14) (fun (r6 : Int32) (h7 : PH) => cb (f_X8_weightOf (rt this 2) r6 h7) (fun (r8 : Int32) (h9 : PH) => lt r8 (fun (x10 : Int32) => lt (fun (y11 : Int32) (y12 : Int32) (h13 : PH) => lt (s14.2.2 + Int32.ofInt 1) (fun (x14 : Int32) => rec14 (y11, y12, x14) h13)) (fun (j47 : Int32 → Int32 → PH → Option (Int32 × PH)) => if x10 ≤ s14.2.1 then (j47 s14.1 s14.2.1 h9) else (lt s14.2.2 (fun (x15 : Int32) => lt x10 (fun (x16 : Int32) => j47 x15 x16 h9))))))))
def f_X11_bestRule (this : Nat) (h0 : PH) : Option (Int32 × PH) :=
  cb (f_X2_settled (rt this 7) h0) (fun (r1 : Unit) (h2 : PH) => lt (0 : Int32) (fun (x3 : Int32) => lt (-1 : Int32) (fun (x4 : Int32) => lt (0 : Int32) (fun (x5 : Int32) => lp (b_X11_bestRule_14 this) FU (x3, x4, x5) h2))))
set_option maxRecDepth 100000 in
set_option maxHeartbeats 4000000 in
theorem ct_X11_bestRule (l : Launch) (this : Nat) (h0 : PH) (hk : (kd this).1 = 11) : CT mkI l yX11_bestRule cX11_bestRule 5 (some .int) (rmd 6) [.ref this] h0 (f_X11_bestRule this h0) := by
  refine ct_of (by decide) (Nat.le_of_ble_eq_true rfl) ?_
  intro p e s m args below meth c D cA ad A X hr hlk
  have X : Cx p s m args c RX11 cX11_bestRule 5 D cA ad A := X
  unfold f_X11_bestRule
  refine so_pick (L' := [(0, .ref this)]) X [0] rfl ?_
  refine so_aload_n (i := 0) X 0 (dkX11_bestRule (0, .aload_n 0, 1) (pgm 0 rfl)) rfl rfl ?_
  refine sf_getR X ff_11_7 lk_572 hk (dkX11_bestRule (1, .getfield 57, 3) (pgm 1 rfl)) ?_
  refine so_callV (n := 0) (As := []) X (ct_X2_settled l (rt this 7) h0 (fo (rk_11_7 this hk))) (fo (rk_11_7 this hk)) (by decide) rfl lk_666 lk_667 lk_668 lk_128 lk_669 (by decide +kernel) rfl rfl rfl (rm_ok (by omega) (by decide)) ⟨Nat.zero_le _, Nat.zero_le _⟩ (Nat.le_of_ble_eq_true rfl) (dkX11_bestRule (4, .invokevirtual 194, 3) (pgm 2 rfl)) (fun r1 h2 => ?_) rfl
  refine so_pop X (dkX11_bestRule (7, .pop, 1) (pgm 3 rfl)) rfl ?_
  refine so_iconst (v := (0 : Int32)) X (dkX11_bestRule (8, .iconst 0, 1) (pgm 4 rfl)) ic_0 ?_
  refine so_istore_n (i := 1) X (dkX11_bestRule (9, .istore_n 1, 1) (pgm 5 rfl)) rfl (by decide) (Lf := fun x3 => [(1, .int x3), (0, .ref this)]) (fun _ => rfl) (fun x3 => ?_)
  refine so_iconst (v := (-1 : Int32)) X (dkX11_bestRule (10, .iconst (-1), 1) (pgm 6 rfl)) ic_m1 ?_
  refine so_istore_n (i := 2) X (dkX11_bestRule (11, .istore_n 2, 1) (pgm 7 rfl)) rfl (by decide) (Lf := fun x4 => [(2, .int x4), (1, .int x3), (0, .ref this)]) (fun _ => rfl) (fun x4 => ?_)
  refine so_iconst (v := (0 : Int32)) X (dkX11_bestRule (12, .iconst 0, 1) (pgm 8 rfl)) ic_0 ?_
  refine so_istore_n (i := 3) X (dkX11_bestRule (13, .istore_n 3, 1) (pgm 9 rfl)) rfl (by decide) (Lf := fun x5 => [(3, .int x5), (2, .int x4), (1, .int x3), (0, .ref this)]) (fun _ => rfl) (fun x5 => ?_)
  refine so_pick (L' := [(0, .ref this), (1, .int x3), (2, .int x4), (3, .int x5)]) X [3, 2, 1, 0] rfl ?_
  refine so_loop (body := b_X11_bestRule_14 this) (fun (s14 : Int32 × Int32 × Int32) => [(0, .ref this), (1, .int s14.1), (2, .int s14.2.1), (3, .int s14.2.2)]) (fun rec14 hrec14 s14 hh14 => ?_) FU (x3, x4, x5) h2
  unfold b_X11_bestRule_14
  refine so_iload_n (i := 3) X 3 (dkX11_bestRule (14, .iload_n 3, 1) (pgm 10 rfl)) rfl rfl ?_
  refine so_iconst (v := (4 : Int32)) X (dkX11_bestRule (15, .iconst 4, 1) (pgm 11 rfl)) ic_4 ?_
  refine so_icmp_ge (tgt := 53) X (dkX11_bestRule (16, .if_icmp .ge 37, 3) (pgm 12 rfl)) rfl (fun _ => ?_) (fun _ => ?_)
  · refine so_iload_n (i := 1) X 1 (dkX11_bestRule (53, .iload_n 1, 1) (pgm 30 rfl)) rfl rfl ?_
    exact so_iret X hr hlk (dkX11_bestRule (54, .ireturn, 1) (pgm 31 rfl))
  · refine so_aload_n (i := 0) X 0 (dkX11_bestRule (19, .aload_n 0, 1) (pgm 13 rfl)) rfl rfl ?_
    refine sf_getR X ff_11_2 lk_567 hk (dkX11_bestRule (20, .getfield 20, 3) (pgm 14 rfl)) ?_
    refine so_aload_n (i := 0) X 0 (dkX11_bestRule (23, .aload_n 0, 1) (pgm 15 rfl)) rfl rfl ?_
    refine sf_getR X ff_11_8 lk_573 hk (dkX11_bestRule (24, .getfield 66, 3) (pgm 16 rfl)) ?_
    refine so_iload_n (i := 3) X 3 (dkX11_bestRule (27, .iload_n 3, 1) (pgm 17 rfl)) rfl rfl ?_
    refine so_callV (n := 1) (As := [.int s14.2.2]) X (ct_X7_servedAsAsked l (rt this 8) s14.2.2 hh14 (fo (rk_11_8 this hk))) (fo (rk_11_8 this hk)) (by decide) rfl lk_708 lk_709 lk_710 lk_129 lk_711 (by decide +kernel) rfl rfl rfl (rm_ok (by omega) (by decide)) ⟨Nat.zero_le _, Nat.zero_le _⟩ (Nat.le_of_ble_eq_true rfl) (dkX11_bestRule (28, .invokevirtual 290, 3) (pgm 18 rfl)) (fun r6 h7 => ?_) rfl
    refine so_callV (n := 1) (As := [.int r6]) X (ct_X8_weightOf l (rt this 2) r6 h7 (fo (rk_11_2 this hk))) (fo (rk_11_2 this hk)) (by decide) rfl lk_740 lk_741 lk_742 lk_122 lk_743 (by decide +kernel) rfl rfl rfl (rm_ok (by omega) (by decide)) ⟨Nat.zero_le _, Nat.zero_le _⟩ (Nat.le_of_ble_eq_true rfl) (dkX11_bestRule (31, .invokevirtual 254, 3) (pgm 19 rfl)) (fun r8 h9 => ?_) rfl
    refine so_istore (i := 4) X (dkX11_bestRule (34, .istore 4, 2) (pgm 20 rfl)) (by decide) (Lf := fun x10 => [(4, .int x10), (0, .ref this), (1, .int s14.1), (2, .int s14.2.1), (3, .int s14.2.2)]) (fun _ => rfl) (fun x10 => ?_)
    refine so_iload (i := 4) X 0 (dkX11_bestRule (36, .iload 4, 2) (pgm 21 rfl)) rfl ?_
    refine so_iload_n (i := 2) X 3 (dkX11_bestRule (38, .iload_n 2, 1) (pgm 22 rfl)) rfl rfl ?_
    refine so_join (jf := fun (y11 : Int32) (y12 : Int32) (h13 : PH) => lt (s14.2.2 + Int32.ofInt 1) (fun (x14 : Int32) => rec14 (y11, y12, x14) h13)) (fun (j : Int32 → Int32 → PH → Option (Int32 × PH)) => ∀ (y11 : Int32) (y12 : Int32) (h13 : PH), SWo (QM mkI below args s D cA ad A) p l e (rmd 6) s m args below meth c 0 0 5 D cA ad A 47 [(0, .ref this), (1, .int y11), (2, .int y12), (3, .int s14.2.2)] [] h13 (j y11 y12 h13)) ?_ (fun j47 hj47 => ?_)
    · intro y11 y12 h13
      refine so_iinc (i := 3) X 3 (dkX11_bestRule (47, .iinc 3 1, 3) (pgm 28 rfl)) rfl rfl (by decide) (Lf := fun x14 => [(3, .int x14), (0, .ref this), (1, .int y11), (2, .int y12)]) (fun _ => rfl) (fun x14 => ?_)
      refine so_goto (tgt := 14) X (dkX11_bestRule (50, .goto (-36), 3) (pgm 29 rfl)) rfl ?_
      exact so_pick X [1, 2, 3, 0] rfl (hrec14 (y11, y12, x14) h13)
    refine so_icmp_le (tgt := 47) X (dkX11_bestRule (39, .if_icmp .le 8, 3) (pgm 23 rfl)) rfl (fun _ => ?_) (fun _ => ?_)
    · exact so_pick X [1, 2, 3, 4] rfl (hj47 s14.1 s14.2.1 h9)
    · refine so_iload_n (i := 3) X 4 (dkX11_bestRule (42, .iload_n 3, 1) (pgm 24 rfl)) rfl rfl ?_
      refine so_istore_n (i := 1) X (dkX11_bestRule (43, .istore_n 1, 1) (pgm 25 rfl)) rfl (by decide) (Lf := fun x15 => [(1, .int x15), (4, .int x10), (0, .ref this), (2, .int s14.2.1), (3, .int s14.2.2)]) (fun _ => rfl) (fun x15 => ?_)
      refine so_iload (i := 4) X 1 (dkX11_bestRule (44, .iload 4, 2) (pgm 26 rfl)) rfl ?_
      refine so_istore_n (i := 2) X (dkX11_bestRule (46, .istore_n 2, 1) (pgm 27 rfl)) rfl (by decide) (Lf := fun x16 => [(2, .int x16), (1, .int x15), (4, .int x10), (0, .ref this), (3, .int s14.2.2)]) (fun _ => rfl) (fun x16 => ?_)
      exact so_pick X [3, 1, 0, 4] rfl (hj47 x15 x16 h9)
def pgX6_parse : List (Nat × Instr × Nat) := [(0, .aload_n 0, 1), (1, .getfield 28, 3), (4, .invokevirtual 32, 3), (7, .aload_n 0, 1), (8, .iconst 0, 1), (9, .putfield 37, 3), (12, .aload_n 0, 1), (13, .iconst (-1), 1), (14, .putfield 15, 3), (17, .aload_n 0, 1), (18, .iconst 0, 1), (19, .putfield 40, 3), (22, .aload_n 0, 1), (23, .getfield 24, 3), (26, .iload_n 1, 1), (27, .invokevirtual 43, 3), (30, .aload_n 0, 1), (31, .invokevirtual 47, 3), (34, .istore_n 2, 1), (35, .iconst 0, 1), (36, .istore_n 3, 1), (37, .iload_n 3, 1), (38, .sipush 900, 3), (41, .if_icmp .ge 70, 3), (44, .iload_n 2, 1), (45, .ifCond .eq 66, 3), (48, .aload_n 0, 1), (49, .getfield 40, 3), (52, .ifCond .ne 24, 3), (55, .aload_n 0, 1), (56, .getfield 24, 3), (59, .getfield 51, 3), (62, .ifCond .ne 6, 3), (65, .goto 46, 3), (68, .aload_n 0, 1), (69, .invokevirtual 54, 3), (72, .istore_n 2, 1), (73, .goto 32, 3), (76, .aload_n 0, 1), (77, .getfield 40, 3), (80, .iconst 1, 1), (81, .if_icmp .eq 11, 3), (84, .aload_n 0, 1), (85, .getfield 40, 3), (88, .iconst 2, 1), (89, .if_icmp .ne 11, 3), (92, .aload_n 0, 1), (93, .invokevirtual 57, 3), (96, .istore_n 2, 1), (97, .goto 8, 3), (100, .aload_n 0, 1), (101, .invokevirtual 60, 3), (104, .istore_n 2, 1), (105, .iinc 3 1, 3), (108, .goto (-71), 3), (111, .aload_n 0, 1), (112, .getfield 28, 3), (115, .invokevirtual 63, 3), (118, .iload_n 2, 1), (119, .ireturn, 1)]
theorem dkX6_parse : ∀ q ∈ pgX6_parse, decode cX6_parse q.1 = .ok q.2 := by decide +kernel
def b_X6_parse_37 (this : Nat) (j111 : Int32 → PH → Option (Int32 × PH)) (j65 : Int32 → PH → Option (Int32 × PH)) (rec37 : (Int32 × Int32) → PH → Option (Int32 × PH)) (s37 : Int32 × Int32) (hh37 : PH) : Option (Int32 × PH) :=
  if (900 : Int32) ≤ s37.2 then (j111 s37.1 hh37) else (if s37.1 = 0 then (j111 s37.1 hh37) else (lt (fun (y18 : Int32) (h19 : PH) => lt (s37.2 + Int32.ofInt 1) (fun (x20 : Int32) => rec37 (y18, x20) h19)) (fun (j105 : Int32 → PH → Option (Int32 × PH)) => if (hh37.1 this 8) = 0 then (if (hh37.1 (rt this 0) 4) = 0 then (j65 s37.1 hh37) else (cb (f_X6_readLine this hh37) (fun (r28 : Int32) (h29 : PH) => lt r28 (fun (x30 : Int32) => j105 x30 h29)))) else (lt (fun (h21 : PH) => cb (f_X6_readOperand this h21) (fun (r22 : Int32) (h23 : PH) => lt r22 (fun (x24 : Int32) => j105 x24 h23))) (fun (j92 : PH → Option (Int32 × PH)) => if (hh37.1 this 8) = (1 : Int32) then (j92 hh37) else (if (hh37.1 this 8) = (2 : Int32) then (j92 hh37) else (cb (f_X6_readOperator this hh37) (fun (r25 : Int32) (h26 : PH) => lt r25 (fun (x27 : Int32) => j105 x27 h26)))))))))
def f_X6_parse (this : Nat) (a1 : Int32) (h0 : PH) : Option (Int32 × PH) :=
  cb (f_X8_clear (rt this 1) h0) (fun (r1 : Unit) (h2 : PH) => lt (pI h2 this 10 (0 : Int32)) (fun (h3 : PH) => lt (pI h3 this 11 (-1 : Int32)) (fun (h4 : PH) => lt (pI h4 this 8 (0 : Int32)) (fun (h5 : PH) => cb (f_X9_begin (rt this 0) a1 h5) (fun (r6 : Unit) (h7 : PH) => cb (f_X6_readSky this h7) (fun (r8 : Int32) (h9 : PH) => lt r8 (fun (x10 : Int32) => lt (0 : Int32) (fun (x11 : Int32) => lt (fun (y12 : Int32) (h13 : PH) => cb (f_X8_measure (rt this 1) h13) (fun (r14 : Unit) (h15 : PH) => zr y12 h15)) (fun (j111 : Int32 → PH → Option (Int32 × PH)) => lt (fun (y16 : Int32) (h17 : PH) => j111 y16 h17) (fun (j65 : Int32 → PH → Option (Int32 × PH)) => lp (b_X6_parse_37 this j111 j65) FU (x10, x11) h9))))))))))
set_option maxRecDepth 100000 in
set_option maxHeartbeats 4000000 in
theorem ct_X6_parse (l : Launch) (this : Nat) (a1 : Int32) (h0 : PH) (hk : (kd this).1 = 6) : CT mkI l yX6_parse cX6_parse 4 (some .boolean) (rmd 8) [.ref this, .int a1] h0 (f_X6_parse this a1 h0) := by
  refine ct_of (by decide) (Nat.le_of_ble_eq_true rfl) ?_
  intro p e s m args below meth c D cA ad A X hr hlk
  have X : Cx p s m args c RX6 cX6_parse 4 D cA ad A := X
  unfold f_X6_parse
  refine so_pick (L' := [(0, .ref this), (1, .int a1)]) X [0, 1] rfl ?_
  refine so_aload_n (i := 0) X 0 (dkX6_parse (0, .aload_n 0, 1) (pgm 0 rfl)) rfl rfl ?_
  refine sf_getR X ff_6_1 lk_289 hk (dkX6_parse (1, .getfield 28, 3) (pgm 1 rfl)) ?_
  refine so_callV (n := 0) (As := []) X (ct_X8_clear l (rt this 1) h0 (fo (rk_6_1 this hk))) (fo (rk_6_1 this hk)) (by decide) rfl lk_851 lk_852 lk_853 lk_122 lk_854 (by decide +kernel) rfl rfl rfl (rm_ok (by omega) (by decide)) ⟨Nat.zero_le _, Nat.zero_le _⟩ (Nat.le_of_ble_eq_true rfl) (dkX6_parse (4, .invokevirtual 32, 3) (pgm 2 rfl)) (fun r1 h2 => ?_) rfl
  refine so_aload_n (i := 0) X 0 (dkX6_parse (7, .aload_n 0, 1) (pgm 3 rfl)) rfl rfl ?_
  refine so_iconst (v := (0 : Int32)) X (dkX6_parse (8, .iconst 0, 1) (pgm 4 rfl)) ic_0 ?_
  refine sf_putI X ff_6_10 ft_6 rfl lk_298 hk rfl rfl (dkX6_parse (9, .putfield 37, 3) (pgm 5 rfl)) (fun h3 => ?_)
  refine so_aload_n (i := 0) X 0 (dkX6_parse (12, .aload_n 0, 1) (pgm 6 rfl)) rfl rfl ?_
  refine so_iconst (v := (-1 : Int32)) X (dkX6_parse (13, .iconst (-1), 1) (pgm 7 rfl)) ic_m1 ?_
  refine sf_putI X ff_6_11 ft_6 rfl lk_300 hk rfl rfl (dkX6_parse (14, .putfield 15, 3) (pgm 8 rfl)) (fun h4 => ?_)
  refine so_aload_n (i := 0) X 0 (dkX6_parse (17, .aload_n 0, 1) (pgm 9 rfl)) rfl rfl ?_
  refine so_iconst (v := (0 : Int32)) X (dkX6_parse (18, .iconst 0, 1) (pgm 10 rfl)) ic_0 ?_
  refine sf_putI X ff_6_8 ft_6 rfl lk_296 hk rfl rfl (dkX6_parse (19, .putfield 40, 3) (pgm 11 rfl)) (fun h5 => ?_)
  refine so_aload_n (i := 0) X 0 (dkX6_parse (22, .aload_n 0, 1) (pgm 12 rfl)) rfl rfl ?_
  refine sf_getR X ff_6_0 lk_288 hk (dkX6_parse (23, .getfield 24, 3) (pgm 13 rfl)) ?_
  refine so_iload_n (i := 1) X 1 (dkX6_parse (26, .iload_n 1, 1) (pgm 14 rfl)) rfl rfl ?_
  refine so_callV (n := 1) (As := [.int a1]) X (ct_X9_begin l (rt this 0) a1 h5 (fo (rk_6_0 this hk))) (fo (rk_6_0 this hk)) (by decide) rfl lk_859 lk_860 lk_861 lk_124 lk_862 (by decide +kernel) rfl rfl rfl (rm_ok (by omega) (by decide)) ⟨Nat.zero_le _, Nat.zero_le _⟩ (Nat.le_of_ble_eq_true rfl) (dkX6_parse (27, .invokevirtual 43, 3) (pgm 15 rfl)) (fun r6 h7 => ?_) rfl
  refine so_aload_n (i := 0) X 0 (dkX6_parse (30, .aload_n 0, 1) (pgm 16 rfl)) rfl rfl ?_
  refine so_callV (n := 0) (As := []) X (ct_X6_readSky l this h7 hk) hk (by decide) rfl lk_958 lk_960 lk_14 lk_123 lk_961 (by decide +kernel) rfl rfl rfl (rm_ok (by omega) (by decide)) ⟨Nat.zero_le _, Nat.zero_le _⟩ (Nat.le_of_ble_eq_true rfl) (dkX6_parse (31, .invokevirtual 47, 3) (pgm 17 rfl)) (fun r8 h9 => ?_) rfl
  refine so_istore_n (i := 2) X (dkX6_parse (34, .istore_n 2, 1) (pgm 18 rfl)) rfl (by decide) (Lf := fun x10 => [(2, .int x10), (0, .ref this), (1, .int a1)]) (fun _ => rfl) (fun x10 => ?_)
  refine so_iconst (v := (0 : Int32)) X (dkX6_parse (35, .iconst 0, 1) (pgm 19 rfl)) ic_0 ?_
  refine so_istore_n (i := 3) X (dkX6_parse (36, .istore_n 3, 1) (pgm 20 rfl)) rfl (by decide) (Lf := fun x11 => [(3, .int x11), (2, .int x10), (0, .ref this), (1, .int a1)]) (fun _ => rfl) (fun x11 => ?_)
  refine so_join (jf := fun (y12 : Int32) (h13 : PH) => cb (f_X8_measure (rt this 1) h13) (fun (r14 : Unit) (h15 : PH) => zr y12 h15)) (fun (j : Int32 → PH → Option (Int32 × PH)) => ∀ (y12 : Int32) (h13 : PH), SWo (QM mkI below args s D cA ad A) p l e (rmd 8) s m args below meth c 0 0 4 D cA ad A 111 [(0, .ref this), (2, .int y12)] [] h13 (j y12 h13)) ?_ (fun j111 hj111 => ?_)
  · intro y12 h13
    refine so_aload_n (i := 0) X 0 (dkX6_parse (111, .aload_n 0, 1) (pgm 55 rfl)) rfl rfl ?_
    refine sf_getR X ff_6_1 lk_289 hk (dkX6_parse (112, .getfield 28, 3) (pgm 56 rfl)) ?_
    refine so_callV (n := 0) (As := []) X (ct_X8_measure l (rt this 1) h13 (fo (rk_6_1 this hk))) (fo (rk_6_1 this hk)) (by decide) rfl lk_1006 lk_856 lk_857 lk_122 lk_858 (by decide +kernel) rfl rfl rfl (rm_ok (by omega) (by decide)) ⟨Nat.zero_le _, Nat.zero_le _⟩ (Nat.le_of_ble_eq_true rfl) (dkX6_parse (115, .invokevirtual 63, 3) (pgm 57 rfl)) (fun r14 h15 => ?_) rfl
    refine so_iload_n (i := 2) X 1 (dkX6_parse (118, .iload_n 2, 1) (pgm 58 rfl)) rfl rfl ?_
    exact so_zret X hr hlk (dkX6_parse (119, .ireturn, 1) (pgm 59 rfl))
  refine so_join (jf := fun (y16 : Int32) (h17 : PH) => j111 y16 h17) (fun (j : Int32 → PH → Option (Int32 × PH)) => ∀ (y16 : Int32) (h17 : PH), SWo (QM mkI below args s D cA ad A) p l e (rmd 8) s m args below meth c 0 0 4 D cA ad A 65 [(0, .ref this), (2, .int y16)] [] h17 (j y16 h17)) ?_ (fun j65 hj65 => ?_)
  · intro y16 h17
    refine so_goto (tgt := 111) X (dkX6_parse (65, .goto 46, 3) (pgm 33 rfl)) rfl ?_
    exact so_pick X [0, 1] rfl (hj111 y16 h17)
  refine so_pick (L' := [(0, .ref this), (2, .int x10), (3, .int x11)]) X [2, 1, 0] rfl ?_
  refine so_loop (body := b_X6_parse_37 this j111 j65) (fun (s37 : Int32 × Int32) => [(0, .ref this), (2, .int s37.1), (3, .int s37.2)]) (fun rec37 hrec37 s37 hh37 => ?_) FU (x10, x11) h9
  unfold b_X6_parse_37
  refine so_iload_n (i := 3) X 2 (dkX6_parse (37, .iload_n 3, 1) (pgm 21 rfl)) rfl rfl ?_
  refine so_sipush (v := (900 : Int32)) X (dkX6_parse (38, .sipush 900, 3) (pgm 22 rfl)) sp_900 ?_
  refine so_icmp_ge (tgt := 111) X (dkX6_parse (41, .if_icmp .ge 70, 3) (pgm 23 rfl)) rfl (fun _ => ?_) (fun _ => ?_)
  · exact so_pick X [0, 1] rfl (hj111 s37.1 hh37)
  · refine so_iload_n (i := 2) X 1 (dkX6_parse (44, .iload_n 2, 1) (pgm 24 rfl)) rfl rfl ?_
    refine so_if_eq (tgt := 111) X (dkX6_parse (45, .ifCond .eq 66, 3) (pgm 25 rfl)) rfl (fun _ => ?_) (fun _ => ?_)
    · exact so_pick X [0, 1] rfl (hj111 s37.1 hh37)
    · refine so_aload_n (i := 0) X 0 (dkX6_parse (48, .aload_n 0, 1) (pgm 26 rfl)) rfl rfl ?_
      refine sf_getI X ff_6_8 lk_296 hk (dkX6_parse (49, .getfield 40, 3) (pgm 27 rfl)) ?_
      refine so_join (jf := fun (y18 : Int32) (h19 : PH) => lt (s37.2 + Int32.ofInt 1) (fun (x20 : Int32) => rec37 (y18, x20) h19)) (fun (j : Int32 → PH → Option (Int32 × PH)) => ∀ (y18 : Int32) (h19 : PH), SWo (QM mkI below args s D cA ad A) p l e (rmd 8) s m args below meth c 0 0 4 D cA ad A 105 [(0, .ref this), (2, .int y18), (3, .int s37.2)] [] h19 (j y18 h19)) ?_ (fun j105 hj105 => ?_)
      · intro y18 h19
        refine so_iinc (i := 3) X 2 (dkX6_parse (105, .iinc 3 1, 3) (pgm 53 rfl)) rfl rfl (by decide) (Lf := fun x20 => [(3, .int x20), (0, .ref this), (2, .int y18)]) (fun _ => rfl) (fun x20 => ?_)
        refine so_goto (tgt := 37) X (dkX6_parse (108, .goto (-71), 3) (pgm 54 rfl)) rfl ?_
        exact so_pick X [1, 2, 0] rfl (hrec37 (y18, x20) h19)
      refine so_if_ne (tgt := 76) X (dkX6_parse (52, .ifCond .ne 24, 3) (pgm 28 rfl)) rfl (fun _ => ?_) (fun _ => ?_)
      · refine so_aload_n (i := 0) X 0 (dkX6_parse (76, .aload_n 0, 1) (pgm 38 rfl)) rfl rfl ?_
        refine sf_getI X ff_6_8 lk_296 hk (dkX6_parse (77, .getfield 40, 3) (pgm 39 rfl)) ?_
        refine so_iconst (v := (1 : Int32)) X (dkX6_parse (80, .iconst 1, 1) (pgm 40 rfl)) ic_1 ?_
        refine so_join (jf := fun (h21 : PH) => cb (f_X6_readOperand this h21) (fun (r22 : Int32) (h23 : PH) => lt r22 (fun (x24 : Int32) => j105 x24 h23))) (fun (j : PH → Option (Int32 × PH)) => ∀  (h21 : PH), SWo (QM mkI below args s D cA ad A) p l e (rmd 8) s m args below meth c 0 0 4 D cA ad A 92 [(0, .ref this), (3, .int s37.2)] [] h21 (j h21)) ?_ (fun j92 hj92 => ?_)
        · intro h21
          refine so_aload_n (i := 0) X 0 (dkX6_parse (92, .aload_n 0, 1) (pgm 46 rfl)) rfl rfl ?_
          refine so_callV (n := 0) (As := []) X (ct_X6_readOperand l this h21 hk) hk (by decide) rfl lk_1027 lk_1029 lk_21 lk_123 lk_1030 (by decide +kernel) rfl rfl rfl (rm_ok (by omega) (by decide)) ⟨Nat.zero_le _, Nat.zero_le _⟩ (Nat.le_of_ble_eq_true rfl) (dkX6_parse (93, .invokevirtual 57, 3) (pgm 47 rfl)) (fun r22 h23 => ?_) rfl
          refine so_istore_n (i := 2) X (dkX6_parse (96, .istore_n 2, 1) (pgm 48 rfl)) rfl (by decide) (Lf := fun x24 => [(2, .int x24), (0, .ref this), (3, .int s37.2)]) (fun _ => rfl) (fun x24 => ?_)
          refine so_goto (tgt := 105) X (dkX6_parse (97, .goto 8, 3) (pgm 49 rfl)) rfl ?_
          exact so_pick X [1, 0, 2] rfl (hj105 x24 h23)
        refine so_icmp_eq (tgt := 92) X (dkX6_parse (81, .if_icmp .eq 11, 3) (pgm 41 rfl)) rfl (fun _ => ?_) (fun _ => ?_)
        · exact so_pick X [0, 2] rfl (hj92 hh37)
        · refine so_aload_n (i := 0) X 0 (dkX6_parse (84, .aload_n 0, 1) (pgm 42 rfl)) rfl rfl ?_
          refine sf_getI X ff_6_8 lk_296 hk (dkX6_parse (85, .getfield 40, 3) (pgm 43 rfl)) ?_
          refine so_iconst (v := (2 : Int32)) X (dkX6_parse (88, .iconst 2, 1) (pgm 44 rfl)) ic_2 ?_
          refine so_icmp_ne (tgt := 100) X (dkX6_parse (89, .if_icmp .ne 11, 3) (pgm 45 rfl)) rfl (fun _ => ?_) (fun _ => ?_)
          · refine so_aload_n (i := 0) X 0 (dkX6_parse (100, .aload_n 0, 1) (pgm 50 rfl)) rfl rfl ?_
            refine so_callV (n := 0) (As := []) X (ct_X6_readOperator l this hh37 hk) hk (by decide) rfl lk_1062 lk_1064 lk_25 lk_123 lk_1065 (by decide +kernel) rfl rfl rfl (rm_ok (by omega) (by decide)) ⟨Nat.zero_le _, Nat.zero_le _⟩ (Nat.le_of_ble_eq_true rfl) (dkX6_parse (101, .invokevirtual 60, 3) (pgm 51 rfl)) (fun r25 h26 => ?_) rfl
            refine so_istore_n (i := 2) X (dkX6_parse (104, .istore_n 2, 1) (pgm 52 rfl)) rfl (by decide) (Lf := fun x27 => [(2, .int x27), (0, .ref this), (3, .int s37.2)]) (fun _ => rfl) (fun x27 => ?_)
            exact so_pick X [1, 0, 2] rfl (hj105 x27 h26)
          · exact so_pick X [0, 2] rfl (hj92 hh37)
      · refine so_aload_n (i := 0) X 0 (dkX6_parse (55, .aload_n 0, 1) (pgm 29 rfl)) rfl rfl ?_
        refine sf_getR X ff_6_0 lk_288 hk (dkX6_parse (56, .getfield 24, 3) (pgm 30 rfl)) ?_
        refine sf_getI X ff_9_4 lk_275 (fo (rk_6_0 this hk)) (dkX6_parse (59, .getfield 51, 3) (pgm 31 rfl)) ?_
        refine so_if_ne (tgt := 68) X (dkX6_parse (62, .ifCond .ne 6, 3) (pgm 32 rfl)) rfl (fun _ => ?_) (fun _ => ?_)
        · refine so_aload_n (i := 0) X 0 (dkX6_parse (68, .aload_n 0, 1) (pgm 34 rfl)) rfl rfl ?_
          refine so_callV (n := 0) (As := []) X (ct_X6_readLine l this hh37 hk) hk (by decide) rfl lk_1012 lk_1014 lk_19 lk_123 lk_1015 (by decide +kernel) rfl rfl rfl (rm_ok (by omega) (by decide)) ⟨Nat.zero_le _, Nat.zero_le _⟩ (Nat.le_of_ble_eq_true rfl) (dkX6_parse (69, .invokevirtual 54, 3) (pgm 35 rfl)) (fun r28 h29 => ?_) rfl
          refine so_istore_n (i := 2) X (dkX6_parse (72, .istore_n 2, 1) (pgm 36 rfl)) rfl (by decide) (Lf := fun x30 => [(2, .int x30), (0, .ref this), (3, .int s37.2)]) (fun _ => rfl) (fun x30 => ?_)
          refine so_goto (tgt := 105) X (dkX6_parse (73, .goto 32, 3) (pgm 37 rfl)) rfl ?_
          exact so_pick X [1, 0, 2] rfl (hj105 x30 h29)
        · exact so_pick X [0, 1] rfl (hj65 s37.1 hh37)

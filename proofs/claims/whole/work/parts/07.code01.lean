def pgX12_readsOn : List (Nat × Instr × Nat) := [(0, .aload_n 0, 1), (1, .getfield 101, 3), (4, .aload_n 0, 1), (5, .getfield 98, 3), (8, .if_icmp .ge 44, 3), (11, .aload_n 0, 1), (12, .getfield 26, 3), (15, .aload_n 0, 1), (16, .getfield 101, 3), (19, .iaload, 1), (20, .bipush 32, 2), (22, .if_icmp .eq 17, 3), (25, .aload_n 0, 1), (26, .getfield 26, 3), (29, .aload_n 0, 1), (30, .getfield 101, 3), (33, .iaload, 1), (34, .bipush 10, 2), (36, .if_icmp .ne 16, 3), (39, .aload_n 0, 1), (40, .dup, 1), (41, .getfield 101, 3), (44, .iconst 1, 1), (45, .iadd, 1), (46, .putfield 101, 3), (49, .goto (-49), 3), (52, .aload_n 0, 1), (53, .aload_n 0, 1), (54, .getfield 101, 3), (57, .putfield 104, 3), (60, .aload_n 0, 1), (61, .getfield 101, 3), (64, .aload_n 0, 1), (65, .getfield 98, 3), (68, .if_icmp .lt 9, 3), (71, .aload_n 0, 1), (72, .iconst 0, 1), (73, .putfield 107, 3), (76, .return_, 1), (77, .aload_n 0, 1), (78, .getfield 26, 3), (81, .aload_n 0, 1), (82, .getfield 101, 3), (85, .iaload, 1), (86, .istore_n 1, 1), (87, .iload_n 1, 1), (88, .invokestatic 110, 3), (91, .ifCond .eq 38, 3), (94, .aload_n 0, 1), (95, .aload_n 0, 1), (96, .getfield 101, 3), (99, .invokevirtual 114, 3), (102, .invokestatic 110, 3), (105, .ifCond .eq 16, 3), (108, .aload_n 0, 1), (109, .dup, 1), (110, .getfield 101, 3), (113, .iconst 1, 1), (114, .iadd, 1), (115, .putfield 101, 3), (118, .goto (-24), 3), (121, .aload_n 0, 1), (122, .iconst 1, 1), (123, .putfield 107, 3), (126, .goto 137, 3), (129, .iload_n 1, 1), (130, .invokestatic 118, 3), (133, .ifCond .eq 104, 3), (136, .aload_n 0, 1), (137, .iconst 0, 1), (138, .putfield 121, 3), (141, .aload_n 0, 1), (142, .aload_n 0, 1), (143, .getfield 101, 3), (146, .invokevirtual 114, 3), (149, .invokestatic 118, 3), (152, .ifCond .eq 60, 3), (155, .aload_n 0, 1), (156, .aload_n 0, 1), (157, .getfield 101, 3), (160, .aload_n 0, 1), (161, .getfield 104, 3), (164, .isub, 1), (165, .iconst 3, 1), (166, .if_icmp .ge 26, 3), (169, .bipush 10, 2), (171, .aload_n 0, 1), (172, .getfield 121, 3), (175, .imul, 1), (176, .aload_n 0, 1), (177, .getfield 26, 3), (180, .aload_n 0, 1), (181, .getfield 101, 3), (184, .iaload, 1), (185, .iadd, 1), (186, .bipush 48, 2), (188, .isub, 1), (189, .goto 7, 3), (192, .aload_n 0, 1), (193, .getfield 121, 3), (196, .putfield 121, 3), (199, .aload_n 0, 1), (200, .dup, 1), (201, .getfield 101, 3), (204, .iconst 1, 1), (205, .iadd, 1), (206, .putfield 101, 3), (209, .goto (-68), 3), (212, .aload_n 0, 1), (213, .aload_n 0, 1), (214, .getfield 101, 3), (217, .aload_n 0, 1), (218, .getfield 104, 3), (221, .isub, 1), (222, .iconst 3, 1), (223, .if_icmp .le 7, 3), (226, .iconst 3, 1), (227, .goto 4, 3), (230, .iconst 2, 1), (231, .putfield 107, 3), (234, .goto 29, 3), (237, .aload_n 0, 1), (238, .iload_n 1, 1), (239, .invokestatic 124, 3), (242, .ifCond .eq 7, 3), (245, .iload_n 1, 1), (246, .goto 4, 3), (249, .iconst 3, 1), (250, .putfield 107, 3), (253, .aload_n 0, 1), (254, .dup, 1), (255, .getfield 101, 3), (258, .iconst 1, 1), (259, .iadd, 1), (260, .putfield 101, 3), (263, .return_, 1)]
theorem dkX12_readsOn : ∀ q ∈ pgX12_readsOn, decode cX12_readsOn q.1 = .ok q.2 := by decide +kernel
def b_X12_readsOn_141 (this : Nat) (j212 : PH → Option (Unit × PH)) (rec141 : (Unit) → PH → Option (Unit × PH)) (s141 : Unit) (hh141 : PH) : Option (Unit × PH) :=
  cb (f_X12_see this (hh141.1 this 9) hh141) (fun (r21 : Int32) (h22 : PH) => cb (f_X12_isDigit r21 h22) (fun (r23 : Int32) (h24 : PH) => if r23 = 0 then (j212 h24) else (lt (fun (t25 : Int32) (h26 : PH) => lt (pI h26 this 12 t25) (fun (h27 : PH) => lt (pI h27 this 9 ((h27.1 this 9) + (1 : Int32))) (fun (h28 : PH) => rec141 () h28))) (fun (j196 : Int32 → PH → Option (Unit × PH)) => if (3 : Int32) ≤ ((h24.1 this 9) - (h24.1 this 10)) then (j196 (h24.1 this 12) h24) else (ldI h24 (rt this 6) 900 (h24.1 this 9) (fun (x29 : Int32) => j196 ((((10 : Int32) * (h24.1 this 12)) + x29) - (48 : Int32)) h24))))))
def b_X12_readsOn_94 (this : Nat) (j121 : PH → Option (Unit × PH)) (rec94 : (Unit) → PH → Option (Unit × PH)) (s94 : Unit) (hh94 : PH) : Option (Unit × PH) :=
  cb (f_X12_see this (hh94.1 this 9) hh94) (fun (r32 : Int32) (h33 : PH) => cb (f_X12_isLetter r32 h33) (fun (r34 : Int32) (h35 : PH) => if r34 = 0 then (j121 h35) else (lt (pI h35 this 9 ((h35.1 this 9) + (1 : Int32))) (fun (h36 : PH) => rec94 () h36))))
def b_X12_readsOn_0 (this : Nat) (j52 : PH → Option (Unit × PH)) (rec0 : (Unit) → PH → Option (Unit × PH)) (s0 : Unit) (hh0 : PH) : Option (Unit × PH) :=
  if (hh0.1 this 8) ≤ (hh0.1 this 9) then (j52 hh0) else (ldI hh0 (rt this 6) 900 (hh0.1 this 9) (fun (x38 : Int32) => lt (fun (h39 : PH) => lt (pI h39 this 9 ((h39.1 this 9) + (1 : Int32))) (fun (h40 : PH) => rec0 () h40)) (fun (j39 : PH → Option (Unit × PH)) => if x38 = (32 : Int32) then (j39 hh0) else (ldI hh0 (rt this 6) 900 (hh0.1 this 9) (fun (x41 : Int32) => if x41 = (10 : Int32) then (j39 hh0) else (j52 hh0))))))
def f_X12_readsOn (this : Nat) (h0 : PH) : Option (Unit × PH) :=
  lt (fun (h1 : PH) => lt (pI h1 this 10 (h1.1 this 9)) (fun (h2 : PH) => if (h2.1 this 9) < (h2.1 this 8) then (ldI h2 (rt this 6) 900 (h2.1 this 9) (fun (x3 : Int32) => lt x3 (fun (x4 : Int32) => cb (f_X12_isLetter x4 h2) (fun (r5 : Int32) (h6 : PH) => lt (fun (h7 : PH) => some ((), h7)) (fun (j263 : PH → Option (Unit × PH)) => if r5 = 0 then (cb (f_X12_isDigit x4 h6) (fun (r8 : Int32) (h9 : PH) => if r8 = 0 then (cb (f_X12_isSignByte x4 h9) (fun (r10 : Int32) (h11 : PH) => lt (fun (t12 : Int32) (h13 : PH) => lt (pI h13 this 11 t12) (fun (h14 : PH) => lt (pI h14 this 9 ((h14.1 this 9) + (1 : Int32))) (fun (h15 : PH) => j263 h15))) (fun (j250 : Int32 → PH → Option (Unit × PH)) => if r10 = 0 then (j250 (3 : Int32) h11) else (j250 x4 h11)))) else (lt (pI h9 this 12 (0 : Int32)) (fun (h16 : PH) => lt (fun (h17 : PH) => lt (fun (t18 : Int32) (h19 : PH) => lt (pI h19 this 11 t18) (fun (h20 : PH) => j263 h20)) (fun (j231 : Int32 → PH → Option (Unit × PH)) => if ((h17.1 this 9) - (h17.1 this 10)) ≤ (3 : Int32) then (j231 (2 : Int32) h17) else (j231 (3 : Int32) h17))) (fun (j212 : PH → Option (Unit × PH)) => lp (b_X12_readsOn_141 this j212) FU () h16))))) else (lt (fun (h30 : PH) => lt (pI h30 this 11 (1 : Int32)) (fun (h31 : PH) => j263 h31)) (fun (j121 : PH → Option (Unit × PH)) => lp (b_X12_readsOn_94 this j121) FU () h6))))))) else (lt (pI h2 this 11 (0 : Int32)) (fun (h37 : PH) => some ((), h37))))) (fun (j52 : PH → Option (Unit × PH)) => lp (b_X12_readsOn_0 this j52) FU () h0)
set_option maxRecDepth 100000 in
set_option maxHeartbeats 4000000 in
theorem ct_X12_readsOn (l : Launch) (this : Nat) (h0 : PH) (hk : (kd this).1 = 12) : CT mkV l yX12_readsOn cX12_readsOn 2 none (rmd 1) [.ref this] h0 (f_X12_readsOn this h0) := by
  refine ct_of (by decide) (Nat.le_of_ble_eq_true rfl) ?_
  intro p e s m args below meth c D cA ad A X hr hlk
  have X : Cx p s m args c RX12 cX12_readsOn 2 D cA ad A := X
  unfold f_X12_readsOn
  refine so_pick (L' := [(0, .ref this)]) X [0] rfl ?_
  refine so_join (jf := fun (h1 : PH) => lt (pI h1 this 10 (h1.1 this 9)) (fun (h2 : PH) => if (h2.1 this 9) < (h2.1 this 8) then (ldI h2 (rt this 6) 900 (h2.1 this 9) (fun (x3 : Int32) => lt x3 (fun (x4 : Int32) => cb (f_X12_isLetter x4 h2) (fun (r5 : Int32) (h6 : PH) => lt (fun (h7 : PH) => some ((), h7)) (fun (j263 : PH → Option (Unit × PH)) => if r5 = 0 then (cb (f_X12_isDigit x4 h6) (fun (r8 : Int32) (h9 : PH) => if r8 = 0 then (cb (f_X12_isSignByte x4 h9) (fun (r10 : Int32) (h11 : PH) => lt (fun (t12 : Int32) (h13 : PH) => lt (pI h13 this 11 t12) (fun (h14 : PH) => lt (pI h14 this 9 ((h14.1 this 9) + (1 : Int32))) (fun (h15 : PH) => j263 h15))) (fun (j250 : Int32 → PH → Option (Unit × PH)) => if r10 = 0 then (j250 (3 : Int32) h11) else (j250 x4 h11)))) else (lt (pI h9 this 12 (0 : Int32)) (fun (h16 : PH) => lt (fun (h17 : PH) => lt (fun (t18 : Int32) (h19 : PH) => lt (pI h19 this 11 t18) (fun (h20 : PH) => j263 h20)) (fun (j231 : Int32 → PH → Option (Unit × PH)) => if ((h17.1 this 9) - (h17.1 this 10)) ≤ (3 : Int32) then (j231 (2 : Int32) h17) else (j231 (3 : Int32) h17))) (fun (j212 : PH → Option (Unit × PH)) => lp (b_X12_readsOn_141 this j212) FU () h16))))) else (lt (fun (h30 : PH) => lt (pI h30 this 11 (1 : Int32)) (fun (h31 : PH) => j263 h31)) (fun (j121 : PH → Option (Unit × PH)) => lp (b_X12_readsOn_94 this j121) FU () h6))))))) else (lt (pI h2 this 11 (0 : Int32)) (fun (h37 : PH) => some ((), h37))))) (fun (j : PH → Option (Unit × PH)) => ∀  (h1 : PH), SWo (QM mkV below args s D cA ad A) p l e (rmd 1) s m args below meth c 0 0 2 D cA ad A 52 [(0, .ref this)] [] h1 (j h1)) ?_ (fun j52 hj52 => ?_)
  · intro h1
    refine so_aload_n (i := 0) X 0 (dkX12_readsOn (52, .aload_n 0, 1) (pgm 26 rfl)) rfl rfl ?_
    refine so_aload_n (i := 0) X 0 (dkX12_readsOn (53, .aload_n 0, 1) (pgm 27 rfl)) rfl rfl ?_
    refine sf_getI X ff_12_9 lk_1711 hk (dkX12_readsOn (54, .getfield 101, 3) (pgm 28 rfl)) ?_
    refine sf_putI X ff_12_10 ft_12 rfl lk_1712 hk rfl rfl (dkX12_readsOn (57, .putfield 104, 3) (pgm 29 rfl)) (fun h2 => ?_)
    refine so_aload_n (i := 0) X 0 (dkX12_readsOn (60, .aload_n 0, 1) (pgm 30 rfl)) rfl rfl ?_
    refine sf_getI X ff_12_9 lk_1711 hk (dkX12_readsOn (61, .getfield 101, 3) (pgm 31 rfl)) ?_
    refine so_aload_n (i := 0) X 0 (dkX12_readsOn (64, .aload_n 0, 1) (pgm 32 rfl)) rfl rfl ?_
    refine sf_getI X ff_12_8 lk_1710 hk (dkX12_readsOn (65, .getfield 98, 3) (pgm 33 rfl)) ?_
    refine so_icmp_lt (tgt := 77) X (dkX12_readsOn (68, .if_icmp .lt 9, 3) (pgm 34 rfl)) rfl (fun _ => ?_) (fun _ => ?_)
    · refine so_aload_n (i := 0) X 0 (dkX12_readsOn (77, .aload_n 0, 1) (pgm 39 rfl)) rfl rfl ?_
      refine sf_getR X ff_12_6 lk_1708 hk (dkX12_readsOn (78, .getfield 26, 3) (pgm 40 rfl)) ?_
      refine so_aload_n (i := 0) X 0 (dkX12_readsOn (81, .aload_n 0, 1) (pgm 41 rfl)) rfl rfl ?_
      refine sf_getI X ff_12_9 lk_1711 hk (dkX12_readsOn (82, .getfield 101, 3) (pgm 42 rfl)) ?_
      refine so_iald X (rk_12_6 this hk) (dkX12_readsOn (85, .iaload, 1) (pgm 43 rfl)) (fun x3 => ?_)
      refine so_istore_n (i := 1) X (dkX12_readsOn (86, .istore_n 1, 1) (pgm 44 rfl)) rfl (by decide) (Lf := fun x4 => [(1, .int x4), (0, .ref this)]) (fun _ => rfl) (fun x4 => ?_)
      refine so_iload_n (i := 1) X 0 (dkX12_readsOn (87, .iload_n 1, 1) (pgm 45 rfl)) rfl rfl ?_
      refine so_callS (n := 1) (As := [.int x4]) X (ct_X12_isLetter l x4 h2 ) lk_1843 lk_1844 lk_134 lk_1845 (by decide +kernel) rfl rfl rfl (rm_ok (by omega) (by decide)) ⟨Nat.zero_le _, Nat.zero_le _⟩ (Nat.le_of_ble_eq_true rfl) (dkX12_readsOn (88, .invokestatic 110, 3) (pgm 46 rfl)) (fun r5 h6 => ?_) rfl
      refine so_join (jf := fun (h7 : PH) => some ((), h7)) (fun (j : PH → Option (Unit × PH)) => ∀  (h7 : PH), SWo (QM mkV below args s D cA ad A) p l e (rmd 1) s m args below meth c 0 0 2 D cA ad A 263 [] [] h7 (j h7)) ?_ (fun j263 hj263 => ?_)
      · intro h7
        exact so_vret X hr hlk (dkX12_readsOn (263, .return_, 1) (pgm 135 rfl))
      refine so_if_eq (tgt := 129) X (dkX12_readsOn (91, .ifCond .eq 38, 3) (pgm 47 rfl)) rfl (fun _ => ?_) (fun _ => ?_)
      · refine so_iload_n (i := 1) X 0 (dkX12_readsOn (129, .iload_n 1, 1) (pgm 65 rfl)) rfl rfl ?_
        refine so_callS (n := 1) (As := [.int x4]) X (ct_X12_isDigit l x4 h6 ) lk_1850 lk_1851 lk_134 lk_1852 (by decide +kernel) rfl rfl rfl (rm_ok (by omega) (by decide)) ⟨Nat.zero_le _, Nat.zero_le _⟩ (Nat.le_of_ble_eq_true rfl) (dkX12_readsOn (130, .invokestatic 118, 3) (pgm 66 rfl)) (fun r8 h9 => ?_) rfl
        refine so_if_eq (tgt := 237) X (dkX12_readsOn (133, .ifCond .eq 104, 3) (pgm 67 rfl)) rfl (fun _ => ?_) (fun _ => ?_)
        · refine so_aload_n (i := 0) X 1 (dkX12_readsOn (237, .aload_n 0, 1) (pgm 121 rfl)) rfl rfl ?_
          refine so_iload_n (i := 1) X 0 (dkX12_readsOn (238, .iload_n 1, 1) (pgm 122 rfl)) rfl rfl ?_
          refine so_callS (n := 1) (As := [.int x4]) X (ct_X12_isSignByte l x4 h9 ) lk_1853 lk_1854 lk_134 lk_1855 (by decide +kernel) rfl rfl rfl (rm_ok (by omega) (by decide)) ⟨Nat.zero_le _, Nat.zero_le _⟩ (Nat.le_of_ble_eq_true rfl) (dkX12_readsOn (239, .invokestatic 124, 3) (pgm 123 rfl)) (fun r10 h11 => ?_) rfl
          refine so_join (jf := fun (t12 : Int32) (h13 : PH) => lt (pI h13 this 11 t12) (fun (h14 : PH) => lt (pI h14 this 9 ((h14.1 this 9) + (1 : Int32))) (fun (h15 : PH) => j263 h15))) (fun (j : Int32 → PH → Option (Unit × PH)) => ∀ (t12 : Int32) (h13 : PH), SWo (QM mkV below args s D cA ad A) p l e (rmd 1) s m args below meth c 0 0 2 D cA ad A 250 [(0, .ref this)] [.int t12, .ref this] h13 (j t12 h13)) ?_ (fun j250 hj250 => ?_)
          · intro t12 h13
            refine sf_putI X ff_12_11 ft_12 rfl lk_1713 hk rfl rfl (dkX12_readsOn (250, .putfield 107, 3) (pgm 128 rfl)) (fun h14 => ?_)
            refine so_aload_n (i := 0) X 0 (dkX12_readsOn (253, .aload_n 0, 1) (pgm 129 rfl)) rfl rfl ?_
            refine so_dup X (dkX12_readsOn (254, .dup, 1) (pgm 130 rfl)) rfl ?_
            refine sf_getI X ff_12_9 lk_1711 hk (dkX12_readsOn (255, .getfield 101, 3) (pgm 131 rfl)) ?_
            refine so_iconst (v := (1 : Int32)) X (dkX12_readsOn (258, .iconst 1, 1) (pgm 132 rfl)) ic_1 ?_
            refine so_iadd X (dkX12_readsOn (259, .iadd, 1) (pgm 133 rfl)) ?_
            refine sf_putI X ff_12_9 ft_12 rfl lk_1711 hk rfl rfl (dkX12_readsOn (260, .putfield 101, 3) (pgm 134 rfl)) (fun h15 => ?_)
            exact so_pick X [] rfl (hj263 h15)
          refine so_if_eq (tgt := 249) X (dkX12_readsOn (242, .ifCond .eq 7, 3) (pgm 124 rfl)) rfl (fun _ => ?_) (fun _ => ?_)
          · refine so_iconst (v := (3 : Int32)) X (dkX12_readsOn (249, .iconst 3, 1) (pgm 127 rfl)) ic_3 ?_
            exact so_pick X [1] rfl (hj250 (3 : Int32) h11)
          · refine so_iload_n (i := 1) X 0 (dkX12_readsOn (245, .iload_n 1, 1) (pgm 125 rfl)) rfl rfl ?_
            refine so_goto (tgt := 250) X (dkX12_readsOn (246, .goto 4, 3) (pgm 126 rfl)) rfl ?_
            exact so_pick X [1] rfl (hj250 x4 h11)
        · refine so_aload_n (i := 0) X 1 (dkX12_readsOn (136, .aload_n 0, 1) (pgm 68 rfl)) rfl rfl ?_
          refine so_iconst (v := (0 : Int32)) X (dkX12_readsOn (137, .iconst 0, 1) (pgm 69 rfl)) ic_0 ?_
          refine sf_putI X ff_12_12 ft_12 rfl lk_1714 hk rfl rfl (dkX12_readsOn (138, .putfield 121, 3) (pgm 70 rfl)) (fun h16 => ?_)
          refine so_join (jf := fun (h17 : PH) => lt (fun (t18 : Int32) (h19 : PH) => lt (pI h19 this 11 t18) (fun (h20 : PH) => j263 h20)) (fun (j231 : Int32 → PH → Option (Unit × PH)) => if ((h17.1 this 9) - (h17.1 this 10)) ≤ (3 : Int32) then (j231 (2 : Int32) h17) else (j231 (3 : Int32) h17))) (fun (j : PH → Option (Unit × PH)) => ∀  (h17 : PH), SWo (QM mkV below args s D cA ad A) p l e (rmd 1) s m args below meth c 0 0 2 D cA ad A 212 [(0, .ref this)] [] h17 (j h17)) ?_ (fun j212 hj212 => ?_)
          · intro h17
            refine so_aload_n (i := 0) X 0 (dkX12_readsOn (212, .aload_n 0, 1) (pgm 108 rfl)) rfl rfl ?_
            refine so_aload_n (i := 0) X 0 (dkX12_readsOn (213, .aload_n 0, 1) (pgm 109 rfl)) rfl rfl ?_
            refine sf_getI X ff_12_9 lk_1711 hk (dkX12_readsOn (214, .getfield 101, 3) (pgm 110 rfl)) ?_
            refine so_aload_n (i := 0) X 0 (dkX12_readsOn (217, .aload_n 0, 1) (pgm 111 rfl)) rfl rfl ?_
            refine sf_getI X ff_12_10 lk_1712 hk (dkX12_readsOn (218, .getfield 104, 3) (pgm 112 rfl)) ?_
            refine so_isub X (dkX12_readsOn (221, .isub, 1) (pgm 113 rfl)) ?_
            refine so_iconst (v := (3 : Int32)) X (dkX12_readsOn (222, .iconst 3, 1) (pgm 114 rfl)) ic_3 ?_
            refine so_join (jf := fun (t18 : Int32) (h19 : PH) => lt (pI h19 this 11 t18) (fun (h20 : PH) => j263 h20)) (fun (j : Int32 → PH → Option (Unit × PH)) => ∀ (t18 : Int32) (h19 : PH), SWo (QM mkV below args s D cA ad A) p l e (rmd 1) s m args below meth c 0 0 2 D cA ad A 231 [] [.int t18, .ref this] h19 (j t18 h19)) ?_ (fun j231 hj231 => ?_)
            · intro t18 h19
              refine sf_putI X ff_12_11 ft_12 rfl lk_1713 hk rfl rfl (dkX12_readsOn (231, .putfield 107, 3) (pgm 119 rfl)) (fun h20 => ?_)
              refine so_goto (tgt := 263) X (dkX12_readsOn (234, .goto 29, 3) (pgm 120 rfl)) rfl ?_
              exact so_pick X [] rfl (hj263 h20)
            refine so_icmp_le (tgt := 230) X (dkX12_readsOn (223, .if_icmp .le 7, 3) (pgm 115 rfl)) rfl (fun _ => ?_) (fun _ => ?_)
            · refine so_iconst (v := (2 : Int32)) X (dkX12_readsOn (230, .iconst 2, 1) (pgm 118 rfl)) ic_2 ?_
              exact so_pick X [] rfl (hj231 (2 : Int32) h17)
            · refine so_iconst (v := (3 : Int32)) X (dkX12_readsOn (226, .iconst 3, 1) (pgm 116 rfl)) ic_3 ?_
              refine so_goto (tgt := 231) X (dkX12_readsOn (227, .goto 4, 3) (pgm 117 rfl)) rfl ?_
              exact so_pick X [] rfl (hj231 (3 : Int32) h17)
          refine so_pick (L' := [(0, .ref this)]) X [1] rfl ?_
          refine so_loop (body := b_X12_readsOn_141 this j212) (fun (s141 : Unit) => [(0, .ref this)]) (fun rec141 hrec141 s141 hh141 => ?_) FU () h16
          unfold b_X12_readsOn_141
          refine so_aload_n (i := 0) X 0 (dkX12_readsOn (141, .aload_n 0, 1) (pgm 71 rfl)) rfl rfl ?_
          refine so_aload_n (i := 0) X 0 (dkX12_readsOn (142, .aload_n 0, 1) (pgm 72 rfl)) rfl rfl ?_
          refine sf_getI X ff_12_9 lk_1711 hk (dkX12_readsOn (143, .getfield 101, 3) (pgm 73 rfl)) ?_
          refine so_callV (n := 1) (As := [.int (hh141.1 this 9)]) X (ct_X12_see l this (hh141.1 this 9) hh141 hk) hk (by decide) rfl lk_1846 lk_1848 lk_63 lk_134 lk_1849 (by decide +kernel) rfl rfl rfl (rm_ok (by omega) (by decide)) ⟨Nat.zero_le _, Nat.zero_le _⟩ (Nat.le_of_ble_eq_true rfl) (dkX12_readsOn (146, .invokevirtual 114, 3) (pgm 74 rfl)) (fun r21 h22 => ?_) rfl
          refine so_callS (n := 1) (As := [.int r21]) X (ct_X12_isDigit l r21 h22 ) lk_1850 lk_1851 lk_134 lk_1852 (by decide +kernel) rfl rfl rfl (rm_ok (by omega) (by decide)) ⟨Nat.zero_le _, Nat.zero_le _⟩ (Nat.le_of_ble_eq_true rfl) (dkX12_readsOn (149, .invokestatic 118, 3) (pgm 75 rfl)) (fun r23 h24 => ?_) rfl
          refine so_if_eq (tgt := 212) X (dkX12_readsOn (152, .ifCond .eq 60, 3) (pgm 76 rfl)) rfl (fun _ => ?_) (fun _ => ?_)
          · exact so_pick X [0] rfl (hj212 h24)
          · refine so_aload_n (i := 0) X 0 (dkX12_readsOn (155, .aload_n 0, 1) (pgm 77 rfl)) rfl rfl ?_
            refine so_aload_n (i := 0) X 0 (dkX12_readsOn (156, .aload_n 0, 1) (pgm 78 rfl)) rfl rfl ?_
            refine sf_getI X ff_12_9 lk_1711 hk (dkX12_readsOn (157, .getfield 101, 3) (pgm 79 rfl)) ?_
            refine so_aload_n (i := 0) X 0 (dkX12_readsOn (160, .aload_n 0, 1) (pgm 80 rfl)) rfl rfl ?_
            refine sf_getI X ff_12_10 lk_1712 hk (dkX12_readsOn (161, .getfield 104, 3) (pgm 81 rfl)) ?_
            refine so_isub X (dkX12_readsOn (164, .isub, 1) (pgm 82 rfl)) ?_
            refine so_iconst (v := (3 : Int32)) X (dkX12_readsOn (165, .iconst 3, 1) (pgm 83 rfl)) ic_3 ?_
            refine so_join (jf := fun (t25 : Int32) (h26 : PH) => lt (pI h26 this 12 t25) (fun (h27 : PH) => lt (pI h27 this 9 ((h27.1 this 9) + (1 : Int32))) (fun (h28 : PH) => rec141 () h28))) (fun (j : Int32 → PH → Option (Unit × PH)) => ∀ (t25 : Int32) (h26 : PH), SWo (QM mkV below args s D cA ad A) p l e (rmd 1) s m args below meth c 0 0 2 D cA ad A 196 [(0, .ref this)] [.int t25, .ref this] h26 (j t25 h26)) ?_ (fun j196 hj196 => ?_)
            · intro t25 h26
              refine sf_putI X ff_12_12 ft_12 rfl lk_1714 hk rfl rfl (dkX12_readsOn (196, .putfield 121, 3) (pgm 100 rfl)) (fun h27 => ?_)
              refine so_aload_n (i := 0) X 0 (dkX12_readsOn (199, .aload_n 0, 1) (pgm 101 rfl)) rfl rfl ?_
              refine so_dup X (dkX12_readsOn (200, .dup, 1) (pgm 102 rfl)) rfl ?_
              refine sf_getI X ff_12_9 lk_1711 hk (dkX12_readsOn (201, .getfield 101, 3) (pgm 103 rfl)) ?_
              refine so_iconst (v := (1 : Int32)) X (dkX12_readsOn (204, .iconst 1, 1) (pgm 104 rfl)) ic_1 ?_
              refine so_iadd X (dkX12_readsOn (205, .iadd, 1) (pgm 105 rfl)) ?_
              refine sf_putI X ff_12_9 ft_12 rfl lk_1711 hk rfl rfl (dkX12_readsOn (206, .putfield 101, 3) (pgm 106 rfl)) (fun h28 => ?_)
              refine so_goto (tgt := 141) X (dkX12_readsOn (209, .goto (-68), 3) (pgm 107 rfl)) rfl ?_
              exact so_pick X [0] rfl (hrec141 () h28)
            refine so_icmp_ge (tgt := 192) X (dkX12_readsOn (166, .if_icmp .ge 26, 3) (pgm 84 rfl)) rfl (fun _ => ?_) (fun _ => ?_)
            · refine so_aload_n (i := 0) X 0 (dkX12_readsOn (192, .aload_n 0, 1) (pgm 98 rfl)) rfl rfl ?_
              refine sf_getI X ff_12_12 lk_1714 hk (dkX12_readsOn (193, .getfield 121, 3) (pgm 99 rfl)) ?_
              exact so_pick X [0] rfl (hj196 (h24.1 this 12) h24)
            · refine so_bipush (v := (10 : Int32)) X (dkX12_readsOn (169, .bipush 10, 2) (pgm 85 rfl)) bp_10 ?_
              refine so_aload_n (i := 0) X 0 (dkX12_readsOn (171, .aload_n 0, 1) (pgm 86 rfl)) rfl rfl ?_
              refine sf_getI X ff_12_12 lk_1714 hk (dkX12_readsOn (172, .getfield 121, 3) (pgm 87 rfl)) ?_
              refine so_imul X (dkX12_readsOn (175, .imul, 1) (pgm 88 rfl)) ?_
              refine so_aload_n (i := 0) X 0 (dkX12_readsOn (176, .aload_n 0, 1) (pgm 89 rfl)) rfl rfl ?_
              refine sf_getR X ff_12_6 lk_1708 hk (dkX12_readsOn (177, .getfield 26, 3) (pgm 90 rfl)) ?_
              refine so_aload_n (i := 0) X 0 (dkX12_readsOn (180, .aload_n 0, 1) (pgm 91 rfl)) rfl rfl ?_
              refine sf_getI X ff_12_9 lk_1711 hk (dkX12_readsOn (181, .getfield 101, 3) (pgm 92 rfl)) ?_
              refine so_iald X (rk_12_6 this hk) (dkX12_readsOn (184, .iaload, 1) (pgm 93 rfl)) (fun x29 => ?_)
              refine so_iadd X (dkX12_readsOn (185, .iadd, 1) (pgm 94 rfl)) ?_
              refine so_bipush (v := (48 : Int32)) X (dkX12_readsOn (186, .bipush 48, 2) (pgm 95 rfl)) bp_48 ?_
              refine so_isub X (dkX12_readsOn (188, .isub, 1) (pgm 96 rfl)) ?_
              refine so_goto (tgt := 196) X (dkX12_readsOn (189, .goto 7, 3) (pgm 97 rfl)) rfl ?_
              exact so_pick X [0] rfl (hj196 ((((10 : Int32) * (h24.1 this 12)) + x29) - (48 : Int32)) h24)
      · refine so_join (jf := fun (h30 : PH) => lt (pI h30 this 11 (1 : Int32)) (fun (h31 : PH) => j263 h31)) (fun (j : PH → Option (Unit × PH)) => ∀  (h30 : PH), SWo (QM mkV below args s D cA ad A) p l e (rmd 1) s m args below meth c 0 0 2 D cA ad A 121 [(0, .ref this)] [] h30 (j h30)) ?_ (fun j121 hj121 => ?_)
        · intro h30
          refine so_aload_n (i := 0) X 0 (dkX12_readsOn (121, .aload_n 0, 1) (pgm 61 rfl)) rfl rfl ?_
          refine so_iconst (v := (1 : Int32)) X (dkX12_readsOn (122, .iconst 1, 1) (pgm 62 rfl)) ic_1 ?_
          refine sf_putI X ff_12_11 ft_12 rfl lk_1713 hk rfl rfl (dkX12_readsOn (123, .putfield 107, 3) (pgm 63 rfl)) (fun h31 => ?_)
          refine so_goto (tgt := 263) X (dkX12_readsOn (126, .goto 137, 3) (pgm 64 rfl)) rfl ?_
          exact so_pick X [] rfl (hj263 h31)
        refine so_pick (L' := [(0, .ref this)]) X [1] rfl ?_
        refine so_loop (body := b_X12_readsOn_94 this j121) (fun (s94 : Unit) => [(0, .ref this)]) (fun rec94 hrec94 s94 hh94 => ?_) FU () h6
        unfold b_X12_readsOn_94
        refine so_aload_n (i := 0) X 0 (dkX12_readsOn (94, .aload_n 0, 1) (pgm 48 rfl)) rfl rfl ?_
        refine so_aload_n (i := 0) X 0 (dkX12_readsOn (95, .aload_n 0, 1) (pgm 49 rfl)) rfl rfl ?_
        refine sf_getI X ff_12_9 lk_1711 hk (dkX12_readsOn (96, .getfield 101, 3) (pgm 50 rfl)) ?_
        refine so_callV (n := 1) (As := [.int (hh94.1 this 9)]) X (ct_X12_see l this (hh94.1 this 9) hh94 hk) hk (by decide) rfl lk_1846 lk_1848 lk_63 lk_134 lk_1849 (by decide +kernel) rfl rfl rfl (rm_ok (by omega) (by decide)) ⟨Nat.zero_le _, Nat.zero_le _⟩ (Nat.le_of_ble_eq_true rfl) (dkX12_readsOn (99, .invokevirtual 114, 3) (pgm 51 rfl)) (fun r32 h33 => ?_) rfl
        refine so_callS (n := 1) (As := [.int r32]) X (ct_X12_isLetter l r32 h33 ) lk_1843 lk_1844 lk_134 lk_1845 (by decide +kernel) rfl rfl rfl (rm_ok (by omega) (by decide)) ⟨Nat.zero_le _, Nat.zero_le _⟩ (Nat.le_of_ble_eq_true rfl) (dkX12_readsOn (102, .invokestatic 110, 3) (pgm 52 rfl)) (fun r34 h35 => ?_) rfl
        refine so_if_eq (tgt := 121) X (dkX12_readsOn (105, .ifCond .eq 16, 3) (pgm 53 rfl)) rfl (fun _ => ?_) (fun _ => ?_)
        · exact so_pick X [0] rfl (hj121 h35)
        · refine so_aload_n (i := 0) X 0 (dkX12_readsOn (108, .aload_n 0, 1) (pgm 54 rfl)) rfl rfl ?_
          refine so_dup X (dkX12_readsOn (109, .dup, 1) (pgm 55 rfl)) rfl ?_
          refine sf_getI X ff_12_9 lk_1711 hk (dkX12_readsOn (110, .getfield 101, 3) (pgm 56 rfl)) ?_
          refine so_iconst (v := (1 : Int32)) X (dkX12_readsOn (113, .iconst 1, 1) (pgm 57 rfl)) ic_1 ?_
          refine so_iadd X (dkX12_readsOn (114, .iadd, 1) (pgm 58 rfl)) ?_
          refine sf_putI X ff_12_9 ft_12 rfl lk_1711 hk rfl rfl (dkX12_readsOn (115, .putfield 101, 3) (pgm 59 rfl)) (fun h36 => ?_)
          refine so_goto (tgt := 94) X (dkX12_readsOn (118, .goto (-24), 3) (pgm 60 rfl)) rfl ?_
          exact so_pick X [0] rfl (hrec94 () h36)
    · refine so_aload_n (i := 0) X 0 (dkX12_readsOn (71, .aload_n 0, 1) (pgm 35 rfl)) rfl rfl ?_
      refine so_iconst (v := (0 : Int32)) X (dkX12_readsOn (72, .iconst 0, 1) (pgm 36 rfl)) ic_0 ?_
      refine sf_putI X ff_12_11 ft_12 rfl lk_1713 hk rfl rfl (dkX12_readsOn (73, .putfield 107, 3) (pgm 37 rfl)) (fun h37 => ?_)
      exact so_vret X hr hlk (dkX12_readsOn (76, .return_, 1) (pgm 38 rfl))
  refine so_pick (L' := [(0, .ref this)]) X [0] rfl ?_
  refine so_loop (body := b_X12_readsOn_0 this j52) (fun (s0 : Unit) => [(0, .ref this)]) (fun rec0 hrec0 s0 hh0 => ?_) FU () h0
  unfold b_X12_readsOn_0
  refine so_aload_n (i := 0) X 0 (dkX12_readsOn (0, .aload_n 0, 1) (pgm 0 rfl)) rfl rfl ?_
  refine sf_getI X ff_12_9 lk_1711 hk (dkX12_readsOn (1, .getfield 101, 3) (pgm 1 rfl)) ?_
  refine so_aload_n (i := 0) X 0 (dkX12_readsOn (4, .aload_n 0, 1) (pgm 2 rfl)) rfl rfl ?_
  refine sf_getI X ff_12_8 lk_1710 hk (dkX12_readsOn (5, .getfield 98, 3) (pgm 3 rfl)) ?_
  refine so_icmp_ge (tgt := 52) X (dkX12_readsOn (8, .if_icmp .ge 44, 3) (pgm 4 rfl)) rfl (fun _ => ?_) (fun _ => ?_)
  · exact so_pick X [0] rfl (hj52 hh0)
  · refine so_aload_n (i := 0) X 0 (dkX12_readsOn (11, .aload_n 0, 1) (pgm 5 rfl)) rfl rfl ?_
    refine sf_getR X ff_12_6 lk_1708 hk (dkX12_readsOn (12, .getfield 26, 3) (pgm 6 rfl)) ?_
    refine so_aload_n (i := 0) X 0 (dkX12_readsOn (15, .aload_n 0, 1) (pgm 7 rfl)) rfl rfl ?_
    refine sf_getI X ff_12_9 lk_1711 hk (dkX12_readsOn (16, .getfield 101, 3) (pgm 8 rfl)) ?_
    refine so_iald X (rk_12_6 this hk) (dkX12_readsOn (19, .iaload, 1) (pgm 9 rfl)) (fun x38 => ?_)
    refine so_bipush (v := (32 : Int32)) X (dkX12_readsOn (20, .bipush 32, 2) (pgm 10 rfl)) bp_32 ?_
    refine so_join (jf := fun (h39 : PH) => lt (pI h39 this 9 ((h39.1 this 9) + (1 : Int32))) (fun (h40 : PH) => rec0 () h40)) (fun (j : PH → Option (Unit × PH)) => ∀  (h39 : PH), SWo (QM mkV below args s D cA ad A) p l e (rmd 1) s m args below meth c 0 0 2 D cA ad A 39 [(0, .ref this)] [] h39 (j h39)) ?_ (fun j39 hj39 => ?_)
    · intro h39
      refine so_aload_n (i := 0) X 0 (dkX12_readsOn (39, .aload_n 0, 1) (pgm 19 rfl)) rfl rfl ?_
      refine so_dup X (dkX12_readsOn (40, .dup, 1) (pgm 20 rfl)) rfl ?_
      refine sf_getI X ff_12_9 lk_1711 hk (dkX12_readsOn (41, .getfield 101, 3) (pgm 21 rfl)) ?_
      refine so_iconst (v := (1 : Int32)) X (dkX12_readsOn (44, .iconst 1, 1) (pgm 22 rfl)) ic_1 ?_
      refine so_iadd X (dkX12_readsOn (45, .iadd, 1) (pgm 23 rfl)) ?_
      refine sf_putI X ff_12_9 ft_12 rfl lk_1711 hk rfl rfl (dkX12_readsOn (46, .putfield 101, 3) (pgm 24 rfl)) (fun h40 => ?_)
      refine so_goto (tgt := 0) X (dkX12_readsOn (49, .goto (-49), 3) (pgm 25 rfl)) rfl ?_
      exact so_pick X [0] rfl (hrec0 () h40)
    refine so_icmp_eq (tgt := 39) X (dkX12_readsOn (22, .if_icmp .eq 17, 3) (pgm 11 rfl)) rfl (fun _ => ?_) (fun _ => ?_)
    · exact so_pick X [0] rfl (hj39 hh0)
    · refine so_aload_n (i := 0) X 0 (dkX12_readsOn (25, .aload_n 0, 1) (pgm 12 rfl)) rfl rfl ?_
      refine sf_getR X ff_12_6 lk_1708 hk (dkX12_readsOn (26, .getfield 26, 3) (pgm 13 rfl)) ?_
      refine so_aload_n (i := 0) X 0 (dkX12_readsOn (29, .aload_n 0, 1) (pgm 14 rfl)) rfl rfl ?_
      refine sf_getI X ff_12_9 lk_1711 hk (dkX12_readsOn (30, .getfield 101, 3) (pgm 15 rfl)) ?_
      refine so_iald X (rk_12_6 this hk) (dkX12_readsOn (33, .iaload, 1) (pgm 16 rfl)) (fun x41 => ?_)
      refine so_bipush (v := (10 : Int32)) X (dkX12_readsOn (34, .bipush 10, 2) (pgm 17 rfl)) bp_10 ?_
      refine so_icmp_ne (tgt := 52) X (dkX12_readsOn (36, .if_icmp .ne 16, 3) (pgm 18 rfl)) rfl (fun _ => ?_) (fun _ => ?_)
      · exact so_pick X [0] rfl (hj52 hh0)
      · exact so_pick X [0] rfl (hj39 hh0)
def pgX12_blames : List (Nat × Instr × Nat) := [(0, .aload_n 0, 1), (1, .getfield 127, 3), (4, .ifCond .eq 4, 3), (7, .return_, 1), (8, .aload_n 0, 1), (9, .aload_n 0, 1), (10, .getfield 107, 3), (13, .iconst 3, 1), (14, .if_icmp .ne 7, 3), (17, .iconst 1, 1), (18, .goto 4, 3), (21, .iload_n 1, 1), (22, .putfield 127, 3), (25, .aload_n 0, 1), (26, .aload_n 0, 1), (27, .getfield 104, 3), (30, .putfield 130, 3), (33, .return_, 1)]
theorem dkX12_blames : ∀ q ∈ pgX12_blames, decode cX12_blames q.1 = .ok q.2 := by decide +kernel
def f_X12_blames (this : Nat) (a1 : Int32) (h0 : PH) : Option (Unit × PH) :=
  if (h0.1 this 13) = 0 then (lt (fun (t1 : Int32) (h2 : PH) => lt (pI h2 this 13 t1) (fun (h3 : PH) => lt (pI h3 this 14 (h3.1 this 10)) (fun (h4 : PH) => some ((), h4)))) (fun (j22 : Int32 → PH → Option (Unit × PH)) => if (h0.1 this 11) = (3 : Int32) then (j22 (1 : Int32) h0) else (j22 a1 h0))) else (some ((), h0))
set_option maxRecDepth 100000 in
set_option maxHeartbeats 4000000 in
theorem ct_X12_blames (l : Launch) (this : Nat) (a1 : Int32) (h0 : PH) (hk : (kd this).1 = 12) : CT mkV l yX12_blames cX12_blames 2 none (rmd 0) [.ref this, .int a1] h0 (f_X12_blames this a1 h0) := by
  refine ct_of (by decide) (Nat.le_of_ble_eq_true rfl) ?_
  intro p e s m args below meth c D cA ad A X hr hlk
  have X : Cx p s m args c RX12 cX12_blames 2 D cA ad A := X
  unfold f_X12_blames
  refine so_pick (L' := [(0, .ref this), (1, .int a1)]) X [0, 1] rfl ?_
  refine so_aload_n (i := 0) X 0 (dkX12_blames (0, .aload_n 0, 1) (pgm 0 rfl)) rfl rfl ?_
  refine sf_getI X ff_12_13 lk_1715 hk (dkX12_blames (1, .getfield 127, 3) (pgm 1 rfl)) ?_
  refine so_if_eq (tgt := 8) X (dkX12_blames (4, .ifCond .eq 4, 3) (pgm 2 rfl)) rfl (fun _ => ?_) (fun _ => ?_)
  · refine so_aload_n (i := 0) X 0 (dkX12_blames (8, .aload_n 0, 1) (pgm 4 rfl)) rfl rfl ?_
    refine so_aload_n (i := 0) X 0 (dkX12_blames (9, .aload_n 0, 1) (pgm 5 rfl)) rfl rfl ?_
    refine sf_getI X ff_12_11 lk_1713 hk (dkX12_blames (10, .getfield 107, 3) (pgm 6 rfl)) ?_
    refine so_iconst (v := (3 : Int32)) X (dkX12_blames (13, .iconst 3, 1) (pgm 7 rfl)) ic_3 ?_
    refine so_join (jf := fun (t1 : Int32) (h2 : PH) => lt (pI h2 this 13 t1) (fun (h3 : PH) => lt (pI h3 this 14 (h3.1 this 10)) (fun (h4 : PH) => some ((), h4)))) (fun (j : Int32 → PH → Option (Unit × PH)) => ∀ (t1 : Int32) (h2 : PH), SWo (QM mkV below args s D cA ad A) p l e (rmd 0) s m args below meth c 0 0 2 D cA ad A 22 [(0, .ref this)] [.int t1, .ref this] h2 (j t1 h2)) ?_ (fun j22 hj22 => ?_)
    · intro t1 h2
      refine sf_putI X ff_12_13 ft_12 rfl lk_1715 hk rfl rfl (dkX12_blames (22, .putfield 127, 3) (pgm 12 rfl)) (fun h3 => ?_)
      refine so_aload_n (i := 0) X 0 (dkX12_blames (25, .aload_n 0, 1) (pgm 13 rfl)) rfl rfl ?_
      refine so_aload_n (i := 0) X 0 (dkX12_blames (26, .aload_n 0, 1) (pgm 14 rfl)) rfl rfl ?_
      refine sf_getI X ff_12_10 lk_1712 hk (dkX12_blames (27, .getfield 104, 3) (pgm 15 rfl)) ?_
      refine sf_putI X ff_12_14 ft_12 rfl lk_1716 hk rfl rfl (dkX12_blames (30, .putfield 130, 3) (pgm 16 rfl)) (fun h4 => ?_)
      exact so_vret X hr hlk (dkX12_blames (33, .return_, 1) (pgm 17 rfl))
    refine so_icmp_ne (tgt := 21) X (dkX12_blames (14, .if_icmp .ne 7, 3) (pgm 8 rfl)) rfl (fun _ => ?_) (fun _ => ?_)
    · refine so_iload_n (i := 1) X 1 (dkX12_blames (21, .iload_n 1, 1) (pgm 11 rfl)) rfl rfl ?_
      exact so_pick X [0] rfl (hj22 a1 h0)
    · refine so_iconst (v := (1 : Int32)) X (dkX12_blames (17, .iconst 1, 1) (pgm 9 rfl)) ic_1 ?_
      refine so_goto (tgt := 22) X (dkX12_blames (18, .goto 4, 3) (pgm 10 rfl)) rfl ?_
      exact so_pick X [0] rfl (hj22 (1 : Int32) h0)
  · exact so_vret X hr hlk (dkX12_blames (7, .return_, 1) (pgm 3 rfl))
def pgX12_isWord : List (Nat × Instr × Nat) := [(0, .aload_n 0, 1), (1, .getfield 127, 3), (4, .ifCond .ne 31, 3), (7, .aload_n 0, 1), (8, .getfield 107, 3), (11, .iconst 1, 1), (12, .if_icmp .ne 23, 3), (15, .aload_n 0, 1), (16, .getfield 101, 3), (19, .aload_n 0, 1), (20, .getfield 104, 3), (23, .isub, 1), (24, .aload_n 1, 1), (25, .invokevirtual 133, 3), (28, .if_icmp .ne 7, 3), (31, .iconst 1, 1), (32, .goto 4, 3), (35, .iconst 0, 1), (36, .istore_n 2, 1), (37, .iconst 0, 1), (38, .istore_n 3, 1), (39, .iload_n 2, 1), (40, .ifCond .eq 42, 3), (43, .iload_n 3, 1), (44, .aload_n 1, 1), (45, .invokevirtual 133, 3), (48, .if_icmp .ge 34, 3), (51, .aload_n 0, 1), (52, .getfield 26, 3), (55, .aload_n 0, 1), (56, .getfield 104, 3), (59, .iload_n 3, 1), (60, .iadd, 1), (61, .iaload, 1), (62, .aload_n 1, 1), (63, .iload_n 3, 1), (64, .invokevirtual 138, 3), (67, .if_icmp .ne 7, 3), (70, .iconst 1, 1), (71, .goto 4, 3), (74, .iconst 0, 1), (75, .istore_n 2, 1), (76, .iinc 3 1, 3), (79, .goto (-40), 3), (82, .iload_n 2, 1), (83, .ireturn, 1)]
theorem dkX12_isWord : ∀ q ∈ pgX12_isWord, decode cX12_isWord q.1 = .ok q.2 := by decide +kernel
def b_X12_isWord_39 (this : Nat) (a1 : Nat) (j82 : Int32 → PH → Option (Int32 × PH)) (rec39 : (Int32 × Int32) → PH → Option (Int32 × PH)) (s39 : Int32 × Int32) (hh39 : PH) : Option (Int32 × PH) :=
  if s39.1 = 0 then (j82 s39.1 hh39) else (cb (f_J0_length_8abf5 a1 hh39) (fun (r7 : Int32) (h8 : PH) => if r7 ≤ s39.2 then (j82 s39.1 h8) else (ldI h8 (rt this 6) 900 ((h8.1 this 10) + s39.2) (fun (x9 : Int32) => cb (f_J0_charAt_5068e a1 s39.2 h8) (fun (r10 : Int32) (h11 : PH) => lt (fun (t12 : Int32) (h13 : PH) => lt t12 (fun (x14 : Int32) => lt (s39.2 + Int32.ofInt 1) (fun (x15 : Int32) => rec39 (x14, x15) h13))) (fun (j75 : Int32 → PH → Option (Int32 × PH)) => if x9 = r10 then (j75 (1 : Int32) h11) else (j75 (0 : Int32) h11)))))))
def f_X12_isWord (this : Nat) (a1 : Nat) (h0 : PH) : Option (Int32 × PH) :=
  lt (fun (t1 : Int32) (h2 : PH) => lt t1 (fun (x3 : Int32) => lt (0 : Int32) (fun (x4 : Int32) => lt (fun (y5 : Int32) (h6 : PH) => zr y5 h6) (fun (j82 : Int32 → PH → Option (Int32 × PH)) => lp (b_X12_isWord_39 this a1 j82) FU (x3, x4) h2)))) (fun (j36 : Int32 → PH → Option (Int32 × PH)) => lt (fun (h16 : PH) => j36 (0 : Int32) h16) (fun (j35 : PH → Option (Int32 × PH)) => if (h0.1 this 13) = 0 then (if (h0.1 this 11) = (1 : Int32) then (cb (f_J0_length_8abf5 a1 h0) (fun (r17 : Int32) (h18 : PH) => if ((h0.1 this 9) - (h0.1 this 10)) = r17 then (j36 (1 : Int32) h18) else (j35 h18))) else (j35 h0)) else (j35 h0)))
set_option maxRecDepth 100000 in
set_option maxHeartbeats 4000000 in
theorem ct_X12_isWord (l : Launch) (this : Nat) (a1 : Nat) (h0 : PH) (hk : (kd this).1 = 12) (hk1 : a1 < NS) : CT mkI l yX12_isWord cX12_isWord 4 (some .boolean) (rmd 4) [.ref this, .ref (200 + a1)] h0 (f_X12_isWord this a1 h0) := by
  refine ct_of (by decide) (Nat.le_of_ble_eq_true rfl) ?_
  intro p e s m args below meth c D cA ad A X hr hlk
  have X : Cx p s m args c RX12 cX12_isWord 4 D cA ad A := X
  unfold f_X12_isWord
  refine so_pick (L' := [(0, .ref this), (1, .ref (200 + a1))]) X [0, 1] rfl ?_
  refine so_aload_n (i := 0) X 0 (dkX12_isWord (0, .aload_n 0, 1) (pgm 0 rfl)) rfl rfl ?_
  refine sf_getI X ff_12_13 lk_1715 hk (dkX12_isWord (1, .getfield 127, 3) (pgm 1 rfl)) ?_
  refine so_join (jf := fun (t1 : Int32) (h2 : PH) => lt t1 (fun (x3 : Int32) => lt (0 : Int32) (fun (x4 : Int32) => lt (fun (y5 : Int32) (h6 : PH) => zr y5 h6) (fun (j82 : Int32 → PH → Option (Int32 × PH)) => lp (b_X12_isWord_39 this a1 j82) FU (x3, x4) h2)))) (fun (j : Int32 → PH → Option (Int32 × PH)) => ∀ (t1 : Int32) (h2 : PH), SWo (QM mkI below args s D cA ad A) p l e (rmd 4) s m args below meth c 0 0 4 D cA ad A 36 [(0, .ref this), (1, .ref (200 + a1))] [.int t1] h2 (j t1 h2)) ?_ (fun j36 hj36 => ?_)
  · intro t1 h2
    refine so_istore_n (i := 2) X (dkX12_isWord (36, .istore_n 2, 1) (pgm 18 rfl)) rfl (by decide) (Lf := fun x3 => [(2, .int x3), (0, .ref this), (1, .ref (200 + a1))]) (fun _ => rfl) (fun x3 => ?_)
    refine so_iconst (v := (0 : Int32)) X (dkX12_isWord (37, .iconst 0, 1) (pgm 19 rfl)) ic_0 ?_
    refine so_istore_n (i := 3) X (dkX12_isWord (38, .istore_n 3, 1) (pgm 20 rfl)) rfl (by decide) (Lf := fun x4 => [(3, .int x4), (2, .int x3), (0, .ref this), (1, .ref (200 + a1))]) (fun _ => rfl) (fun x4 => ?_)
    refine so_join (jf := fun (y5 : Int32) (h6 : PH) => zr y5 h6) (fun (j : Int32 → PH → Option (Int32 × PH)) => ∀ (y5 : Int32) (h6 : PH), SWo (QM mkI below args s D cA ad A) p l e (rmd 4) s m args below meth c 0 0 4 D cA ad A 82 [(2, .int y5)] [] h6 (j y5 h6)) ?_ (fun j82 hj82 => ?_)
    · intro y5 h6
      refine so_iload_n (i := 2) X 0 (dkX12_isWord (82, .iload_n 2, 1) (pgm 44 rfl)) rfl rfl ?_
      exact so_zret X hr hlk (dkX12_isWord (83, .ireturn, 1) (pgm 45 rfl))
    refine so_pick (L' := [(0, .ref this), (1, .ref (200 + a1)), (2, .int x3), (3, .int x4)]) X [2, 3, 1, 0] rfl ?_
    refine so_loop (body := b_X12_isWord_39 this a1 j82) (fun (s39 : Int32 × Int32) => [(0, .ref this), (1, .ref (200 + a1)), (2, .int s39.1), (3, .int s39.2)]) (fun rec39 hrec39 s39 hh39 => ?_) FU (x3, x4) h2
    unfold b_X12_isWord_39
    refine so_iload_n (i := 2) X 2 (dkX12_isWord (39, .iload_n 2, 1) (pgm 21 rfl)) rfl rfl ?_
    refine so_if_eq (tgt := 82) X (dkX12_isWord (40, .ifCond .eq 42, 3) (pgm 22 rfl)) rfl (fun _ => ?_) (fun _ => ?_)
    · exact so_pick X [2] rfl (hj82 s39.1 hh39)
    · refine so_iload_n (i := 3) X 3 (dkX12_isWord (43, .iload_n 3, 1) (pgm 23 rfl)) rfl rfl ?_
      refine so_aload_n (i := 1) X 1 (dkX12_isWord (44, .aload_n 1, 1) (pgm 24 rfl)) rfl rfl ?_
      refine so_callT (n := 0) (As := []) (i := a1) X (ct_J0_length_8abf5 l a1 hh39 hk1) hk1 lk_1869 lk_887 lk_888 lk_140 lk_889 (by decide +kernel) rfl rfl rfl (rm_ok (by omega) (by decide)) ⟨Nat.zero_le _, Nat.zero_le _⟩ (Nat.le_of_ble_eq_true rfl) (dkX12_isWord (45, .invokevirtual 133, 3) (pgm 25 rfl)) (fun r7 h8 => ?_) rfl
      refine so_icmp_ge (tgt := 82) X (dkX12_isWord (48, .if_icmp .ge 34, 3) (pgm 26 rfl)) rfl (fun _ => ?_) (fun _ => ?_)
      · exact so_pick X [2] rfl (hj82 s39.1 h8)
      · refine so_aload_n (i := 0) X 0 (dkX12_isWord (51, .aload_n 0, 1) (pgm 27 rfl)) rfl rfl ?_
        refine sf_getR X ff_12_6 lk_1708 hk (dkX12_isWord (52, .getfield 26, 3) (pgm 28 rfl)) ?_
        refine so_aload_n (i := 0) X 0 (dkX12_isWord (55, .aload_n 0, 1) (pgm 29 rfl)) rfl rfl ?_
        refine sf_getI X ff_12_10 lk_1712 hk (dkX12_isWord (56, .getfield 104, 3) (pgm 30 rfl)) ?_
        refine so_iload_n (i := 3) X 3 (dkX12_isWord (59, .iload_n 3, 1) (pgm 31 rfl)) rfl rfl ?_
        refine so_iadd X (dkX12_isWord (60, .iadd, 1) (pgm 32 rfl)) ?_
        refine so_iald X (rk_12_6 this hk) (dkX12_isWord (61, .iaload, 1) (pgm 33 rfl)) (fun x9 => ?_)
        refine so_aload_n (i := 1) X 1 (dkX12_isWord (62, .aload_n 1, 1) (pgm 34 rfl)) rfl rfl ?_
        refine so_iload_n (i := 3) X 3 (dkX12_isWord (63, .iload_n 3, 1) (pgm 35 rfl)) rfl rfl ?_
        refine so_callT (n := 1) (As := [.int s39.2]) (i := a1) X (ct_J0_charAt_5068e l a1 s39.2 h8 hk1) hk1 lk_1870 lk_973 lk_974 lk_140 lk_975 (by decide +kernel) rfl rfl rfl (rm_ok (by omega) (by decide)) ⟨Nat.zero_le _, Nat.zero_le _⟩ (Nat.le_of_ble_eq_true rfl) (dkX12_isWord (64, .invokevirtual 138, 3) (pgm 36 rfl)) (fun r10 h11 => ?_) rfl
        refine so_join (jf := fun (t12 : Int32) (h13 : PH) => lt t12 (fun (x14 : Int32) => lt (s39.2 + Int32.ofInt 1) (fun (x15 : Int32) => rec39 (x14, x15) h13))) (fun (j : Int32 → PH → Option (Int32 × PH)) => ∀ (t12 : Int32) (h13 : PH), SWo (QM mkI below args s D cA ad A) p l e (rmd 4) s m args below meth c 0 0 4 D cA ad A 75 [(0, .ref this), (1, .ref (200 + a1)), (3, .int s39.2)] [.int t12] h13 (j t12 h13)) ?_ (fun j75 hj75 => ?_)
        · intro t12 h13
          refine so_istore_n (i := 2) X (dkX12_isWord (75, .istore_n 2, 1) (pgm 41 rfl)) rfl (by decide) (Lf := fun x14 => [(2, .int x14), (0, .ref this), (1, .ref (200 + a1)), (3, .int s39.2)]) (fun _ => rfl) (fun x14 => ?_)
          refine so_iinc (i := 3) X 3 (dkX12_isWord (76, .iinc 3 1, 3) (pgm 42 rfl)) rfl rfl (by decide) (Lf := fun x15 => [(3, .int x15), (2, .int x14), (0, .ref this), (1, .ref (200 + a1))]) (fun _ => rfl) (fun x15 => ?_)
          refine so_goto (tgt := 39) X (dkX12_isWord (79, .goto (-40), 3) (pgm 43 rfl)) rfl ?_
          exact so_pick X [2, 3, 1, 0] rfl (hrec39 (x14, x15) h13)
        refine so_icmp_ne (tgt := 74) X (dkX12_isWord (67, .if_icmp .ne 7, 3) (pgm 37 rfl)) rfl (fun _ => ?_) (fun _ => ?_)
        · refine so_iconst (v := (0 : Int32)) X (dkX12_isWord (74, .iconst 0, 1) (pgm 40 rfl)) ic_0 ?_
          exact so_pick X [0, 1, 3] rfl (hj75 (0 : Int32) h11)
        · refine so_iconst (v := (1 : Int32)) X (dkX12_isWord (70, .iconst 1, 1) (pgm 38 rfl)) ic_1 ?_
          refine so_goto (tgt := 75) X (dkX12_isWord (71, .goto 4, 3) (pgm 39 rfl)) rfl ?_
          exact so_pick X [0, 1, 3] rfl (hj75 (1 : Int32) h11)
  refine so_join (jf := fun (h16 : PH) => j36 (0 : Int32) h16) (fun (j : PH → Option (Int32 × PH)) => ∀  (h16 : PH), SWo (QM mkI below args s D cA ad A) p l e (rmd 4) s m args below meth c 0 0 4 D cA ad A 35 [(0, .ref this), (1, .ref (200 + a1))] [] h16 (j h16)) ?_ (fun j35 hj35 => ?_)
  · intro h16
    refine so_iconst (v := (0 : Int32)) X (dkX12_isWord (35, .iconst 0, 1) (pgm 17 rfl)) ic_0 ?_
    exact so_pick X [0, 1] rfl (hj36 (0 : Int32) h16)
  refine so_if_ne (tgt := 35) X (dkX12_isWord (4, .ifCond .ne 31, 3) (pgm 2 rfl)) rfl (fun _ => ?_) (fun _ => ?_)
  · exact so_pick X [0, 1] rfl (hj35 h0)
  · refine so_aload_n (i := 0) X 0 (dkX12_isWord (7, .aload_n 0, 1) (pgm 3 rfl)) rfl rfl ?_
    refine sf_getI X ff_12_11 lk_1713 hk (dkX12_isWord (8, .getfield 107, 3) (pgm 4 rfl)) ?_
    refine so_iconst (v := (1 : Int32)) X (dkX12_isWord (11, .iconst 1, 1) (pgm 5 rfl)) ic_1 ?_
    refine so_icmp_ne (tgt := 35) X (dkX12_isWord (12, .if_icmp .ne 23, 3) (pgm 6 rfl)) rfl (fun _ => ?_) (fun _ => ?_)
    · exact so_pick X [0, 1] rfl (hj35 h0)
    · refine so_aload_n (i := 0) X 0 (dkX12_isWord (15, .aload_n 0, 1) (pgm 7 rfl)) rfl rfl ?_
      refine sf_getI X ff_12_9 lk_1711 hk (dkX12_isWord (16, .getfield 101, 3) (pgm 8 rfl)) ?_
      refine so_aload_n (i := 0) X 0 (dkX12_isWord (19, .aload_n 0, 1) (pgm 9 rfl)) rfl rfl ?_
      refine sf_getI X ff_12_10 lk_1712 hk (dkX12_isWord (20, .getfield 104, 3) (pgm 10 rfl)) ?_
      refine so_isub X (dkX12_isWord (23, .isub, 1) (pgm 11 rfl)) ?_
      refine so_aload_n (i := 1) X 1 (dkX12_isWord (24, .aload_n 1, 1) (pgm 12 rfl)) rfl rfl ?_
      refine so_callT (n := 0) (As := []) (i := a1) X (ct_J0_length_8abf5 l a1 h0 hk1) hk1 lk_1869 lk_887 lk_888 lk_140 lk_889 (by decide +kernel) rfl rfl rfl (rm_ok (by omega) (by decide)) ⟨Nat.zero_le _, Nat.zero_le _⟩ (Nat.le_of_ble_eq_true rfl) (dkX12_isWord (25, .invokevirtual 133, 3) (pgm 13 rfl)) (fun r17 h18 => ?_) rfl
      refine so_icmp_ne (tgt := 35) X (dkX12_isWord (28, .if_icmp .ne 7, 3) (pgm 14 rfl)) rfl (fun _ => ?_) (fun _ => ?_)
      · exact so_pick X [0, 1] rfl (hj35 h18)
      · refine so_iconst (v := (1 : Int32)) X (dkX12_isWord (31, .iconst 1, 1) (pgm 15 rfl)) ic_1 ?_
        refine so_goto (tgt := 36) X (dkX12_isWord (32, .goto 4, 3) (pgm 16 rfl)) rfl ?_
        exact so_pick X [0, 1] rfl (hj36 (1 : Int32) h18)
def pgX12_took : List (Nat × Instr × Nat) := [(0, .aload_n 0, 1), (1, .aload_n 1, 1), (2, .invokevirtual 142, 3), (5, .istore_n 2, 1), (6, .iload_n 2, 1), (7, .ifCond .eq 7, 3), (10, .aload_n 0, 1), (11, .invokevirtual 146, 3), (14, .iload_n 2, 1), (15, .ireturn, 1)]
theorem dkX12_took : ∀ q ∈ pgX12_took, decode cX12_took q.1 = .ok q.2 := by decide +kernel
def f_X12_took (this : Nat) (a1 : Nat) (h0 : PH) : Option (Int32 × PH) :=
  cb (f_X12_isWord this a1 h0) (fun (r1 : Int32) (h2 : PH) => lt r1 (fun (x3 : Int32) => lt (fun (h4 : PH) => zr x3 h4) (fun (j14 : PH → Option (Int32 × PH)) => if x3 = 0 then (j14 h2) else (cb (f_X12_readsOn this h2) (fun (r5 : Unit) (h6 : PH) => j14 h6)))))
set_option maxRecDepth 100000 in
set_option maxHeartbeats 4000000 in
theorem ct_X12_took (l : Launch) (this : Nat) (a1 : Nat) (h0 : PH) (hk : (kd this).1 = 12) (hk1 : a1 < NS) : CT mkI l yX12_took cX12_took 3 (some .boolean) (rmd 5) [.ref this, .ref (200 + a1)] h0 (f_X12_took this a1 h0) := by
  refine ct_of (by decide) (Nat.le_of_ble_eq_true rfl) ?_
  intro p e s m args below meth c D cA ad A X hr hlk
  have X : Cx p s m args c RX12 cX12_took 3 D cA ad A := X
  unfold f_X12_took
  refine so_pick (L' := [(0, .ref this), (1, .ref (200 + a1))]) X [0, 1] rfl ?_
  refine so_aload_n (i := 0) X 0 (dkX12_took (0, .aload_n 0, 1) (pgm 0 rfl)) rfl rfl ?_
  refine so_aload_n (i := 1) X 1 (dkX12_took (1, .aload_n 1, 1) (pgm 1 rfl)) rfl rfl ?_
  refine so_callV (n := 1) (As := [.ref (200 + a1)]) X (ct_X12_isWord l this a1 h0 hk hk1) hk (by decide) rfl lk_1865 lk_1867 lk_66 lk_134 lk_1868 (by decide +kernel) rfl rfl rfl (rm_ok (by omega) (by decide)) ⟨Nat.zero_le _, Nat.zero_le _⟩ (Nat.le_of_ble_eq_true rfl) (dkX12_took (2, .invokevirtual 142, 3) (pgm 2 rfl)) (fun r1 h2 => ?_) rfl
  refine so_istore_n (i := 2) X (dkX12_took (5, .istore_n 2, 1) (pgm 3 rfl)) rfl (by decide) (Lf := fun x3 => [(2, .int x3), (0, .ref this), (1, .ref (200 + a1))]) (fun _ => rfl) (fun x3 => ?_)
  refine so_iload_n (i := 2) X 0 (dkX12_took (6, .iload_n 2, 1) (pgm 4 rfl)) rfl rfl ?_
  refine so_join (jf := fun (h4 : PH) => zr x3 h4) (fun (j : PH → Option (Int32 × PH)) => ∀  (h4 : PH), SWo (QM mkI below args s D cA ad A) p l e (rmd 5) s m args below meth c 0 0 3 D cA ad A 14 [(2, .int x3)] [] h4 (j h4)) ?_ (fun j14 hj14 => ?_)
  · intro h4
    refine so_iload_n (i := 2) X 0 (dkX12_took (14, .iload_n 2, 1) (pgm 8 rfl)) rfl rfl ?_
    exact so_zret X hr hlk (dkX12_took (15, .ireturn, 1) (pgm 9 rfl))
  refine so_if_eq (tgt := 14) X (dkX12_took (7, .ifCond .eq 7, 3) (pgm 5 rfl)) rfl (fun _ => ?_) (fun _ => ?_)
  · exact so_pick X [0] rfl (hj14 h2)
  · refine so_aload_n (i := 0) X 1 (dkX12_took (10, .aload_n 0, 1) (pgm 6 rfl)) rfl rfl ?_
    refine so_callV (n := 0) (As := []) X (ct_X12_readsOn l this h2 hk) hk (by decide) rfl lk_1839 lk_1841 lk_62 lk_134 lk_1842 (by decide +kernel) rfl rfl rfl (rm_ok (by omega) (by decide)) ⟨Nat.zero_le _, Nat.zero_le _⟩ (Nat.le_of_ble_eq_true rfl) (dkX12_took (11, .invokevirtual 146, 3) (pgm 7 rfl)) (fun r5 h6 => ?_) rfl
    exact so_pick X [0] rfl (hj14 h6)
def pgX12_mustWord : List (Nat × Instr × Nat) := [(0, .aload_n 0, 1), (1, .aload_n 1, 1), (2, .invokevirtual 149, 3), (5, .ifCond .ne 8, 3), (8, .aload_n 0, 1), (9, .iconst 2, 1), (10, .invokevirtual 152, 3), (13, .return_, 1)]
theorem dkX12_mustWord : ∀ q ∈ pgX12_mustWord, decode cX12_mustWord q.1 = .ok q.2 := by decide +kernel
def f_X12_mustWord (this : Nat) (a1 : Nat) (h0 : PH) : Option (Unit × PH) :=
  cb (f_X12_took this a1 h0) (fun (r1 : Int32) (h2 : PH) => lt (fun (h3 : PH) => some ((), h3)) (fun (j13 : PH → Option (Unit × PH)) => if r1 = 0 then (cb (f_X12_blames this (2 : Int32) h2) (fun (r4 : Unit) (h5 : PH) => j13 h5)) else (j13 h2)))
set_option maxRecDepth 100000 in
set_option maxHeartbeats 4000000 in
theorem ct_X12_mustWord (l : Launch) (this : Nat) (a1 : Nat) (h0 : PH) (hk : (kd this).1 = 12) (hk1 : a1 < NS) : CT mkV l yX12_mustWord cX12_mustWord 2 none (rmd 6) [.ref this, .ref (200 + a1)] h0 (f_X12_mustWord this a1 h0) := by
  refine ct_of (by decide) (Nat.le_of_ble_eq_true rfl) ?_
  intro p e s m args below meth c D cA ad A X hr hlk
  have X : Cx p s m args c RX12 cX12_mustWord 2 D cA ad A := X
  unfold f_X12_mustWord
  refine so_pick (L' := [(0, .ref this), (1, .ref (200 + a1))]) X [0, 1] rfl ?_
  refine so_aload_n (i := 0) X 0 (dkX12_mustWord (0, .aload_n 0, 1) (pgm 0 rfl)) rfl rfl ?_
  refine so_aload_n (i := 1) X 1 (dkX12_mustWord (1, .aload_n 1, 1) (pgm 1 rfl)) rfl rfl ?_
  refine so_callV (n := 1) (As := [.ref (200 + a1)]) X (ct_X12_took l this a1 h0 hk hk1) hk (by decide) rfl lk_1861 lk_1863 lk_65 lk_134 lk_1864 (by decide +kernel) rfl rfl rfl (rm_ok (by omega) (by decide)) ⟨Nat.zero_le _, Nat.zero_le _⟩ (Nat.le_of_ble_eq_true rfl) (dkX12_mustWord (2, .invokevirtual 149, 3) (pgm 2 rfl)) (fun r1 h2 => ?_) rfl
  refine so_join (jf := fun (h3 : PH) => some ((), h3)) (fun (j : PH → Option (Unit × PH)) => ∀  (h3 : PH), SWo (QM mkV below args s D cA ad A) p l e (rmd 6) s m args below meth c 0 0 2 D cA ad A 13 [] [] h3 (j h3)) ?_ (fun j13 hj13 => ?_)
  · intro h3
    exact so_vret X hr hlk (dkX12_mustWord (13, .return_, 1) (pgm 7 rfl))
  refine so_if_ne (tgt := 13) X (dkX12_mustWord (5, .ifCond .ne 8, 3) (pgm 3 rfl)) rfl (fun _ => ?_) (fun _ => ?_)
  · exact so_pick X [] rfl (hj13 h2)
  · refine so_aload_n (i := 0) X 0 (dkX12_mustWord (8, .aload_n 0, 1) (pgm 4 rfl)) rfl rfl ?_
    refine so_iconst (v := (2 : Int32)) X (dkX12_mustWord (9, .iconst 2, 1) (pgm 5 rfl)) ic_2 ?_
    refine so_callV (n := 1) (As := [.int (2 : Int32)]) X (ct_X12_blames l this (2 : Int32) h2 hk) hk (by decide) rfl lk_1871 lk_1873 lk_67 lk_134 lk_1874 (by decide +kernel) rfl rfl rfl (rm_ok (by omega) (by decide)) ⟨Nat.zero_le _, Nat.zero_le _⟩ (Nat.le_of_ble_eq_true rfl) (dkX12_mustWord (10, .invokevirtual 152, 3) (pgm 6 rfl)) (fun r4 h5 => ?_) rfl
    exact so_pick X [] rfl (hj13 h5)
def pgX12_isSign : List (Nat × Instr × Nat) := [(0, .aload_n 0, 1), (1, .getfield 127, 3), (4, .ifCond .ne 15, 3), (7, .aload_n 0, 1), (8, .getfield 107, 3), (11, .iload_n 1, 1), (12, .if_icmp .ne 7, 3), (15, .iconst 1, 1), (16, .goto 4, 3), (19, .iconst 0, 1), (20, .ireturn, 1)]
theorem dkX12_isSign : ∀ q ∈ pgX12_isSign, decode cX12_isSign q.1 = .ok q.2 := by decide +kernel
def f_X12_isSign (this : Nat) (a1 : Int32) (h0 : PH) : Option (Int32 × PH) :=
  lt (fun (t1 : Int32) (h2 : PH) => zr t1 h2) (fun (j20 : Int32 → PH → Option (Int32 × PH)) => lt (fun (h3 : PH) => j20 (0 : Int32) h3) (fun (j19 : PH → Option (Int32 × PH)) => if (h0.1 this 13) = 0 then (if (h0.1 this 11) = a1 then (j20 (1 : Int32) h0) else (j19 h0)) else (j19 h0)))
set_option maxRecDepth 100000 in
set_option maxHeartbeats 4000000 in
theorem ct_X12_isSign (l : Launch) (this : Nat) (a1 : Int32) (h0 : PH) (hk : (kd this).1 = 12) : CT mkI l yX12_isSign cX12_isSign 2 (some .boolean) (rmd 0) [.ref this, .int a1] h0 (f_X12_isSign this a1 h0) := by
  refine ct_of (by decide) (Nat.le_of_ble_eq_true rfl) ?_
  intro p e s m args below meth c D cA ad A X hr hlk
  have X : Cx p s m args c RX12 cX12_isSign 2 D cA ad A := X
  unfold f_X12_isSign
  refine so_pick (L' := [(0, .ref this), (1, .int a1)]) X [0, 1] rfl ?_
  refine so_aload_n (i := 0) X 0 (dkX12_isSign (0, .aload_n 0, 1) (pgm 0 rfl)) rfl rfl ?_
  refine sf_getI X ff_12_13 lk_1715 hk (dkX12_isSign (1, .getfield 127, 3) (pgm 1 rfl)) ?_
  refine so_join (jf := fun (t1 : Int32) (h2 : PH) => zr t1 h2) (fun (j : Int32 → PH → Option (Int32 × PH)) => ∀ (t1 : Int32) (h2 : PH), SWo (QM mkI below args s D cA ad A) p l e (rmd 0) s m args below meth c 0 0 2 D cA ad A 20 [] [.int t1] h2 (j t1 h2)) ?_ (fun j20 hj20 => ?_)
  · intro t1 h2
    exact so_zret X hr hlk (dkX12_isSign (20, .ireturn, 1) (pgm 10 rfl))
  refine so_join (jf := fun (h3 : PH) => j20 (0 : Int32) h3) (fun (j : PH → Option (Int32 × PH)) => ∀  (h3 : PH), SWo (QM mkI below args s D cA ad A) p l e (rmd 0) s m args below meth c 0 0 2 D cA ad A 19 [] [] h3 (j h3)) ?_ (fun j19 hj19 => ?_)
  · intro h3
    refine so_iconst (v := (0 : Int32)) X (dkX12_isSign (19, .iconst 0, 1) (pgm 9 rfl)) ic_0 ?_
    exact so_pick X [] rfl (hj20 (0 : Int32) h3)
  refine so_if_ne (tgt := 19) X (dkX12_isSign (4, .ifCond .ne 15, 3) (pgm 2 rfl)) rfl (fun _ => ?_) (fun _ => ?_)
  · exact so_pick X [] rfl (hj19 h0)
  · refine so_aload_n (i := 0) X 0 (dkX12_isSign (7, .aload_n 0, 1) (pgm 3 rfl)) rfl rfl ?_
    refine sf_getI X ff_12_11 lk_1713 hk (dkX12_isSign (8, .getfield 107, 3) (pgm 4 rfl)) ?_
    refine so_iload_n (i := 1) X 1 (dkX12_isSign (11, .iload_n 1, 1) (pgm 5 rfl)) rfl rfl ?_
    refine so_icmp_ne (tgt := 19) X (dkX12_isSign (12, .if_icmp .ne 7, 3) (pgm 6 rfl)) rfl (fun _ => ?_) (fun _ => ?_)
    · exact so_pick X [] rfl (hj19 h0)
    · refine so_iconst (v := (1 : Int32)) X (dkX12_isSign (15, .iconst 1, 1) (pgm 7 rfl)) ic_1 ?_
      refine so_goto (tgt := 20) X (dkX12_isSign (16, .goto 4, 3) (pgm 8 rfl)) rfl ?_
      exact so_pick X [] rfl (hj20 (1 : Int32) h0)
def pgX12_mustSign : List (Nat × Instr × Nat) := [(0, .aload_n 0, 1), (1, .getfield 107, 3), (4, .iload_n 1, 1), (5, .if_icmp .eq 8, 3), (8, .aload_n 0, 1), (9, .iconst 2, 1), (10, .invokevirtual 152, 3), (13, .aload_n 0, 1), (14, .getfield 127, 3), (17, .ifCond .ne 7, 3), (20, .aload_n 0, 1), (21, .invokevirtual 146, 3), (24, .return_, 1)]
theorem dkX12_mustSign : ∀ q ∈ pgX12_mustSign, decode cX12_mustSign q.1 = .ok q.2 := by decide +kernel
def f_X12_mustSign (this : Nat) (a1 : Int32) (h0 : PH) : Option (Unit × PH) :=
  lt (fun (h1 : PH) => lt (fun (h2 : PH) => some ((), h2)) (fun (j24 : PH → Option (Unit × PH)) => if (h1.1 this 13) = 0 then (cb (f_X12_readsOn this h1) (fun (r3 : Unit) (h4 : PH) => j24 h4)) else (j24 h1))) (fun (j13 : PH → Option (Unit × PH)) => if (h0.1 this 11) = a1 then (j13 h0) else (cb (f_X12_blames this (2 : Int32) h0) (fun (r5 : Unit) (h6 : PH) => j13 h6)))
set_option maxRecDepth 100000 in
set_option maxHeartbeats 4000000 in
theorem ct_X12_mustSign (l : Launch) (this : Nat) (a1 : Int32) (h0 : PH) (hk : (kd this).1 = 12) : CT mkV l yX12_mustSign cX12_mustSign 2 none (rmd 2) [.ref this, .int a1] h0 (f_X12_mustSign this a1 h0) := by
  refine ct_of (by decide) (Nat.le_of_ble_eq_true rfl) ?_
  intro p e s m args below meth c D cA ad A X hr hlk
  have X : Cx p s m args c RX12 cX12_mustSign 2 D cA ad A := X
  unfold f_X12_mustSign
  refine so_pick (L' := [(0, .ref this), (1, .int a1)]) X [0, 1] rfl ?_
  refine so_aload_n (i := 0) X 0 (dkX12_mustSign (0, .aload_n 0, 1) (pgm 0 rfl)) rfl rfl ?_
  refine sf_getI X ff_12_11 lk_1713 hk (dkX12_mustSign (1, .getfield 107, 3) (pgm 1 rfl)) ?_
  refine so_iload_n (i := 1) X 1 (dkX12_mustSign (4, .iload_n 1, 1) (pgm 2 rfl)) rfl rfl ?_
  refine so_join (jf := fun (h1 : PH) => lt (fun (h2 : PH) => some ((), h2)) (fun (j24 : PH → Option (Unit × PH)) => if (h1.1 this 13) = 0 then (cb (f_X12_readsOn this h1) (fun (r3 : Unit) (h4 : PH) => j24 h4)) else (j24 h1))) (fun (j : PH → Option (Unit × PH)) => ∀  (h1 : PH), SWo (QM mkV below args s D cA ad A) p l e (rmd 2) s m args below meth c 0 0 2 D cA ad A 13 [(0, .ref this)] [] h1 (j h1)) ?_ (fun j13 hj13 => ?_)
  · intro h1
    refine so_aload_n (i := 0) X 0 (dkX12_mustSign (13, .aload_n 0, 1) (pgm 7 rfl)) rfl rfl ?_
    refine sf_getI X ff_12_13 lk_1715 hk (dkX12_mustSign (14, .getfield 127, 3) (pgm 8 rfl)) ?_
    refine so_join (jf := fun (h2 : PH) => some ((), h2)) (fun (j : PH → Option (Unit × PH)) => ∀  (h2 : PH), SWo (QM mkV below args s D cA ad A) p l e (rmd 2) s m args below meth c 0 0 2 D cA ad A 24 [] [] h2 (j h2)) ?_ (fun j24 hj24 => ?_)
    · intro h2
      exact so_vret X hr hlk (dkX12_mustSign (24, .return_, 1) (pgm 12 rfl))
    refine so_if_ne (tgt := 24) X (dkX12_mustSign (17, .ifCond .ne 7, 3) (pgm 9 rfl)) rfl (fun _ => ?_) (fun _ => ?_)
    · exact so_pick X [] rfl (hj24 h1)
    · refine so_aload_n (i := 0) X 0 (dkX12_mustSign (20, .aload_n 0, 1) (pgm 10 rfl)) rfl rfl ?_
      refine so_callV (n := 0) (As := []) X (ct_X12_readsOn l this h1 hk) hk (by decide) rfl lk_1839 lk_1841 lk_62 lk_134 lk_1842 (by decide +kernel) rfl rfl rfl (rm_ok (by omega) (by decide)) ⟨Nat.zero_le _, Nat.zero_le _⟩ (Nat.le_of_ble_eq_true rfl) (dkX12_mustSign (21, .invokevirtual 146, 3) (pgm 11 rfl)) (fun r3 h4 => ?_) rfl
      exact so_pick X [] rfl (hj24 h4)
  refine so_icmp_eq (tgt := 13) X (dkX12_mustSign (5, .if_icmp .eq 8, 3) (pgm 3 rfl)) rfl (fun _ => ?_) (fun _ => ?_)
  · exact so_pick X [0] rfl (hj13 h0)
  · refine so_aload_n (i := 0) X 0 (dkX12_mustSign (8, .aload_n 0, 1) (pgm 4 rfl)) rfl rfl ?_
    refine so_iconst (v := (2 : Int32)) X (dkX12_mustSign (9, .iconst 2, 1) (pgm 5 rfl)) ic_2 ?_
    refine so_callV (n := 1) (As := [.int (2 : Int32)]) X (ct_X12_blames l this (2 : Int32) h0 hk) hk (by decide) rfl lk_1871 lk_1873 lk_67 lk_134 lk_1874 (by decide +kernel) rfl rfl rfl (rm_ok (by omega) (by decide)) ⟨Nat.zero_le _, Nat.zero_le _⟩ (Nat.le_of_ble_eq_true rfl) (dkX12_mustSign (10, .invokevirtual 152, 3) (pgm 6 rfl)) (fun r5 h6 => ?_) rfl
    exact so_pick X [0] rfl (hj13 h6)
def pgX12_number : List (Nat × Instr × Nat) := [(0, .aload_n 0, 1), (1, .getfield 107, 3), (4, .iconst 2, 1), (5, .if_icmp .eq 11, 3), (8, .aload_n 0, 1), (9, .iconst 2, 1), (10, .invokevirtual 152, 3), (13, .goto 23, 3), (16, .aload_n 0, 1), (17, .getfield 121, 3), (20, .i2l, 1), (21, .iload_n 1, 1), (22, .i2l, 1), (23, .iload_n 2, 1), (24, .i2l, 1), (25, .invokestatic 156, 3), (28, .ifCond .ne 8, 3), (31, .aload_n 0, 1), (32, .iconst 3, 1), (33, .invokevirtual 152, 3), (36, .aload_n 0, 1), (37, .getfield 121, 3), (40, .istore_n 3, 1), (41, .aload_n 0, 1), (42, .getfield 127, 3), (45, .ifCond .ne 7, 3), (48, .aload_n 0, 1), (49, .invokevirtual 146, 3), (52, .aload_n 0, 1), (53, .getfield 127, 3), (56, .ifCond .ne 7, 3), (59, .iload_n 3, 1), (60, .goto 4, 3), (63, .iload_n 1, 1), (64, .ireturn, 1)]
theorem dkX12_number : ∀ q ∈ pgX12_number, decode cX12_number q.1 = .ok q.2 := by decide +kernel
def f_X12_number (this : Nat) (a1 : Int32) (a2 : Int32) (h0 : PH) : Option (Int32 × PH) :=
  lt (fun (h1 : PH) => lt (h1.1 this 12) (fun (x2 : Int32) => lt (fun (h3 : PH) => lt (fun (t4 : Int32) (h5 : PH) => some (t4, h5)) (fun (j64 : Int32 → PH → Option (Int32 × PH)) => if (h3.1 this 13) = 0 then (j64 x2 h3) else (j64 a1 h3))) (fun (j52 : PH → Option (Int32 × PH)) => if (h1.1 this 13) = 0 then (cb (f_X12_readsOn this h1) (fun (r6 : Unit) (h7 : PH) => j52 h7)) else (j52 h1)))) (fun (j36 : PH → Option (Int32 × PH)) => if (h0.1 this 11) = (2 : Int32) then (cb (f_X12_within ((h0.1 this 12).toInt64) a1.toInt64 a2.toInt64 h0) (fun (r8 : Int32) (h9 : PH) => if r8 = 0 then (cb (f_X12_blames this (3 : Int32) h9) (fun (r10 : Unit) (h11 : PH) => j36 h11)) else (j36 h9))) else (cb (f_X12_blames this (2 : Int32) h0) (fun (r12 : Unit) (h13 : PH) => j36 h13)))
set_option maxRecDepth 100000 in
set_option maxHeartbeats 4000000 in
theorem ct_X12_number (l : Launch) (this : Nat) (a1 : Int32) (a2 : Int32) (h0 : PH) (hk : (kd this).1 = 12) : CT mkI l yX12_number cX12_number 4 (some .int) (rmd 2) [.ref this, .int a1, .int a2] h0 (f_X12_number this a1 a2 h0) := by
  refine ct_of (by decide) (Nat.le_of_ble_eq_true rfl) ?_
  intro p e s m args below meth c D cA ad A X hr hlk
  have X : Cx p s m args c RX12 cX12_number 4 D cA ad A := X
  unfold f_X12_number
  refine so_pick (L' := [(0, .ref this), (1, .int a1), (2, .int a2)]) X [0, 1, 2] rfl ?_
  refine so_aload_n (i := 0) X 0 (dkX12_number (0, .aload_n 0, 1) (pgm 0 rfl)) rfl rfl ?_
  refine sf_getI X ff_12_11 lk_1713 hk (dkX12_number (1, .getfield 107, 3) (pgm 1 rfl)) ?_
  refine so_iconst (v := (2 : Int32)) X (dkX12_number (4, .iconst 2, 1) (pgm 2 rfl)) ic_2 ?_
  refine so_join (jf := fun (h1 : PH) => lt (h1.1 this 12) (fun (x2 : Int32) => lt (fun (h3 : PH) => lt (fun (t4 : Int32) (h5 : PH) => some (t4, h5)) (fun (j64 : Int32 → PH → Option (Int32 × PH)) => if (h3.1 this 13) = 0 then (j64 x2 h3) else (j64 a1 h3))) (fun (j52 : PH → Option (Int32 × PH)) => if (h1.1 this 13) = 0 then (cb (f_X12_readsOn this h1) (fun (r6 : Unit) (h7 : PH) => j52 h7)) else (j52 h1)))) (fun (j : PH → Option (Int32 × PH)) => ∀  (h1 : PH), SWo (QM mkI below args s D cA ad A) p l e (rmd 2) s m args below meth c 0 0 4 D cA ad A 36 [(0, .ref this), (1, .int a1)] [] h1 (j h1)) ?_ (fun j36 hj36 => ?_)
  · intro h1
    refine so_aload_n (i := 0) X 0 (dkX12_number (36, .aload_n 0, 1) (pgm 20 rfl)) rfl rfl ?_
    refine sf_getI X ff_12_12 lk_1714 hk (dkX12_number (37, .getfield 121, 3) (pgm 21 rfl)) ?_
    refine so_istore_n (i := 3) X (dkX12_number (40, .istore_n 3, 1) (pgm 22 rfl)) rfl (by decide) (Lf := fun x2 => [(3, .int x2), (0, .ref this), (1, .int a1)]) (fun _ => rfl) (fun x2 => ?_)
    refine so_aload_n (i := 0) X 1 (dkX12_number (41, .aload_n 0, 1) (pgm 23 rfl)) rfl rfl ?_
    refine sf_getI X ff_12_13 lk_1715 hk (dkX12_number (42, .getfield 127, 3) (pgm 24 rfl)) ?_
    refine so_join (jf := fun (h3 : PH) => lt (fun (t4 : Int32) (h5 : PH) => some (t4, h5)) (fun (j64 : Int32 → PH → Option (Int32 × PH)) => if (h3.1 this 13) = 0 then (j64 x2 h3) else (j64 a1 h3))) (fun (j : PH → Option (Int32 × PH)) => ∀  (h3 : PH), SWo (QM mkI below args s D cA ad A) p l e (rmd 2) s m args below meth c 0 0 4 D cA ad A 52 [(0, .ref this), (1, .int a1), (3, .int x2)] [] h3 (j h3)) ?_ (fun j52 hj52 => ?_)
    · intro h3
      refine so_aload_n (i := 0) X 0 (dkX12_number (52, .aload_n 0, 1) (pgm 28 rfl)) rfl rfl ?_
      refine sf_getI X ff_12_13 lk_1715 hk (dkX12_number (53, .getfield 127, 3) (pgm 29 rfl)) ?_
      refine so_join (jf := fun (t4 : Int32) (h5 : PH) => some (t4, h5)) (fun (j : Int32 → PH → Option (Int32 × PH)) => ∀ (t4 : Int32) (h5 : PH), SWo (QM mkI below args s D cA ad A) p l e (rmd 2) s m args below meth c 0 0 4 D cA ad A 64 [] [.int t4] h5 (j t4 h5)) ?_ (fun j64 hj64 => ?_)
      · intro t4 h5
        exact so_iret X hr hlk (dkX12_number (64, .ireturn, 1) (pgm 34 rfl))
      refine so_if_ne (tgt := 63) X (dkX12_number (56, .ifCond .ne 7, 3) (pgm 30 rfl)) rfl (fun _ => ?_) (fun _ => ?_)
      · refine so_iload_n (i := 1) X 1 (dkX12_number (63, .iload_n 1, 1) (pgm 33 rfl)) rfl rfl ?_
        exact so_pick X [] rfl (hj64 a1 h3)
      · refine so_iload_n (i := 3) X 2 (dkX12_number (59, .iload_n 3, 1) (pgm 31 rfl)) rfl rfl ?_
        refine so_goto (tgt := 64) X (dkX12_number (60, .goto 4, 3) (pgm 32 rfl)) rfl ?_
        exact so_pick X [] rfl (hj64 x2 h3)
    refine so_if_ne (tgt := 52) X (dkX12_number (45, .ifCond .ne 7, 3) (pgm 25 rfl)) rfl (fun _ => ?_) (fun _ => ?_)
    · exact so_pick X [1, 2, 0] rfl (hj52 h1)
    · refine so_aload_n (i := 0) X 1 (dkX12_number (48, .aload_n 0, 1) (pgm 26 rfl)) rfl rfl ?_
      refine so_callV (n := 0) (As := []) X (ct_X12_readsOn l this h1 hk) hk (by decide) rfl lk_1839 lk_1841 lk_62 lk_134 lk_1842 (by decide +kernel) rfl rfl rfl (rm_ok (by omega) (by decide)) ⟨Nat.zero_le _, Nat.zero_le _⟩ (Nat.le_of_ble_eq_true rfl) (dkX12_number (49, .invokevirtual 146, 3) (pgm 27 rfl)) (fun r6 h7 => ?_) rfl
      exact so_pick X [1, 2, 0] rfl (hj52 h7)
  refine so_icmp_eq (tgt := 16) X (dkX12_number (5, .if_icmp .eq 11, 3) (pgm 3 rfl)) rfl (fun _ => ?_) (fun _ => ?_)
  · refine so_aload_n (i := 0) X 0 (dkX12_number (16, .aload_n 0, 1) (pgm 8 rfl)) rfl rfl ?_
    refine sf_getI X ff_12_12 lk_1714 hk (dkX12_number (17, .getfield 121, 3) (pgm 9 rfl)) ?_
    refine so_i2l X (dkX12_number (20, .i2l, 1) (pgm 10 rfl)) ?_
    refine so_iload_n (i := 1) X 1 (dkX12_number (21, .iload_n 1, 1) (pgm 11 rfl)) rfl rfl ?_
    refine so_i2l X (dkX12_number (22, .i2l, 1) (pgm 12 rfl)) ?_
    refine so_iload_n (i := 2) X 2 (dkX12_number (23, .iload_n 2, 1) (pgm 13 rfl)) rfl rfl ?_
    refine so_i2l X (dkX12_number (24, .i2l, 1) (pgm 14 rfl)) ?_
    refine so_callS (n := 3) (As := [.long ((h0.1 this 12).toInt64), .long a1.toInt64, .long a2.toInt64]) X (ct_X12_within l ((h0.1 this 12).toInt64) a1.toInt64 a2.toInt64 h0 ) lk_1832 lk_1833 lk_134 lk_1834 (by decide +kernel) rfl rfl rfl (rm_ok (by omega) (by decide)) ⟨Nat.zero_le _, Nat.zero_le _⟩ (Nat.le_of_ble_eq_true rfl) (dkX12_number (25, .invokestatic 156, 3) (pgm 15 rfl)) (fun r8 h9 => ?_) rfl
    refine so_if_ne (tgt := 36) X (dkX12_number (28, .ifCond .ne 8, 3) (pgm 16 rfl)) rfl (fun _ => ?_) (fun _ => ?_)
    · exact so_pick X [0, 1] rfl (hj36 h9)
    · refine so_aload_n (i := 0) X 0 (dkX12_number (31, .aload_n 0, 1) (pgm 17 rfl)) rfl rfl ?_
      refine so_iconst (v := (3 : Int32)) X (dkX12_number (32, .iconst 3, 1) (pgm 18 rfl)) ic_3 ?_
      refine so_callV (n := 1) (As := [.int (3 : Int32)]) X (ct_X12_blames l this (3 : Int32) h9 hk) hk (by decide) rfl lk_1871 lk_1873 lk_67 lk_134 lk_1874 (by decide +kernel) rfl rfl rfl (rm_ok (by omega) (by decide)) ⟨Nat.zero_le _, Nat.zero_le _⟩ (Nat.le_of_ble_eq_true rfl) (dkX12_number (33, .invokevirtual 152, 3) (pgm 19 rfl)) (fun r10 h11 => ?_) rfl
      exact so_pick X [0, 1] rfl (hj36 h11)
  · refine so_aload_n (i := 0) X 0 (dkX12_number (8, .aload_n 0, 1) (pgm 4 rfl)) rfl rfl ?_
    refine so_iconst (v := (2 : Int32)) X (dkX12_number (9, .iconst 2, 1) (pgm 5 rfl)) ic_2 ?_
    refine so_callV (n := 1) (As := [.int (2 : Int32)]) X (ct_X12_blames l this (2 : Int32) h0 hk) hk (by decide) rfl lk_1871 lk_1873 lk_67 lk_134 lk_1874 (by decide +kernel) rfl rfl rfl (rm_ok (by omega) (by decide)) ⟨Nat.zero_le _, Nat.zero_le _⟩ (Nat.le_of_ble_eq_true rfl) (dkX12_number (10, .invokevirtual 152, 3) (pgm 6 rfl)) (fun r12 h13 => ?_) rfl
    refine so_goto (tgt := 36) X (dkX12_number (13, .goto 23, 3) (pgm 7 rfl)) rfl ?_
    exact so_pick X [0, 1] rfl (hj36 h13)
def pgX12_laysStep : List (Nat × Instr × Nat) := [(0, .aload_n 0, 1), (1, .getfield 127, 3), (4, .ifCond .eq 4, 3), (7, .return_, 1), (8, .aload_n 0, 1), (9, .getfield 13, 3), (12, .sipush 236, 3), (15, .aload_n 0, 1), (16, .getfield 13, 3), (19, .bipush 65, 2), (21, .iaload, 1), (22, .iadd, 1), (23, .iload_n 1, 1), (24, .iastore, 1), (25, .aload_n 0, 1), (26, .getfield 13, 3), (29, .bipush 65, 2), (31, .dup2, 1), (32, .iaload, 1), (33, .iconst 1, 1), (34, .iadd, 1), (35, .iastore, 1), (36, .return_, 1)]
theorem dkX12_laysStep : ∀ q ∈ pgX12_laysStep, decode cX12_laysStep q.1 = .ok q.2 := by decide +kernel
def f_X12_laysStep (this : Nat) (a1 : Int32) (h0 : PH) : Option (Unit × PH) :=
  if (h0.1 this 13) = 0 then (ldI h0 (rt this 1) 1200 (65 : Int32) (fun (x1 : Int32) => stI h0 (rt this 1) 1200 ((236 : Int32) + x1) a1 (fun (h2 : PH) => ldI h2 (rt this 1) 1200 (65 : Int32) (fun (x3 : Int32) => stI h2 (rt this 1) 1200 (65 : Int32) (x3 + (1 : Int32)) (fun (h4 : PH) => some ((), h4)))))) else (some ((), h0))
set_option maxRecDepth 100000 in
set_option maxHeartbeats 4000000 in
theorem ct_X12_laysStep (l : Launch) (this : Nat) (a1 : Int32) (h0 : PH) (hk : (kd this).1 = 12) : CT mkV l yX12_laysStep cX12_laysStep 2 none (rmd 0) [.ref this, .int a1] h0 (f_X12_laysStep this a1 h0) := by
  refine ct_of (by decide) (Nat.le_of_ble_eq_true rfl) ?_
  intro p e s m args below meth c D cA ad A X hr hlk
  have X : Cx p s m args c RX12 cX12_laysStep 2 D cA ad A := X
  unfold f_X12_laysStep
  refine so_pick (L' := [(0, .ref this), (1, .int a1)]) X [0, 1] rfl ?_
  refine so_aload_n (i := 0) X 0 (dkX12_laysStep (0, .aload_n 0, 1) (pgm 0 rfl)) rfl rfl ?_
  refine sf_getI X ff_12_13 lk_1715 hk (dkX12_laysStep (1, .getfield 127, 3) (pgm 1 rfl)) ?_
  refine so_if_eq (tgt := 8) X (dkX12_laysStep (4, .ifCond .eq 4, 3) (pgm 2 rfl)) rfl (fun _ => ?_) (fun _ => ?_)
  · refine so_aload_n (i := 0) X 0 (dkX12_laysStep (8, .aload_n 0, 1) (pgm 4 rfl)) rfl rfl ?_
    refine sf_getR X ff_12_1 lk_1703 hk (dkX12_laysStep (9, .getfield 13, 3) (pgm 5 rfl)) ?_
    refine so_sipush (v := (236 : Int32)) X (dkX12_laysStep (12, .sipush 236, 3) (pgm 6 rfl)) sp_236 ?_
    refine so_aload_n (i := 0) X 0 (dkX12_laysStep (15, .aload_n 0, 1) (pgm 7 rfl)) rfl rfl ?_
    refine sf_getR X ff_12_1 lk_1703 hk (dkX12_laysStep (16, .getfield 13, 3) (pgm 8 rfl)) ?_
    refine so_bipush (v := (65 : Int32)) X (dkX12_laysStep (19, .bipush 65, 2) (pgm 9 rfl)) bp_65 ?_
    refine so_iald X (rk_12_1 this hk) (dkX12_laysStep (21, .iaload, 1) (pgm 10 rfl)) (fun x1 => ?_)
    refine so_iadd X (dkX12_laysStep (22, .iadd, 1) (pgm 11 rfl)) ?_
    refine so_iload_n (i := 1) X 1 (dkX12_laysStep (23, .iload_n 1, 1) (pgm 12 rfl)) rfl rfl ?_
    refine so_iast X (rk_12_1 this hk) (dkX12_laysStep (24, .iastore, 1) (pgm 13 rfl)) (fun h2 => ?_)
    refine so_aload_n (i := 0) X 0 (dkX12_laysStep (25, .aload_n 0, 1) (pgm 14 rfl)) rfl rfl ?_
    refine sf_getR X ff_12_1 lk_1703 hk (dkX12_laysStep (26, .getfield 13, 3) (pgm 15 rfl)) ?_
    refine so_bipush (v := (65 : Int32)) X (dkX12_laysStep (29, .bipush 65, 2) (pgm 16 rfl)) bp_65 ?_
    refine so_dup2 X (dkX12_laysStep (31, .dup2, 1) (pgm 17 rfl)) rfl rfl ?_
    refine so_iald X (rk_12_1 this hk) (dkX12_laysStep (32, .iaload, 1) (pgm 18 rfl)) (fun x3 => ?_)
    refine so_iconst (v := (1 : Int32)) X (dkX12_laysStep (33, .iconst 1, 1) (pgm 19 rfl)) ic_1 ?_
    refine so_iadd X (dkX12_laysStep (34, .iadd, 1) (pgm 20 rfl)) ?_
    refine so_iast X (rk_12_1 this hk) (dkX12_laysStep (35, .iastore, 1) (pgm 21 rfl)) (fun h4 => ?_)
    exact so_vret X hr hlk (dkX12_laysStep (36, .return_, 1) (pgm 22 rfl))
  · exact so_vret X hr hlk (dkX12_laysStep (7, .return_, 1) (pgm 3 rfl))
def pgX12_goesIn : List (Nat × Instr × Nat) := [(0, .aload_n 0, 1), (1, .getfield 160, 3), (4, .bipush 6, 2), (6, .if_icmp .ne 8, 3), (9, .aload_n 0, 1), (10, .iconst 4, 1), (11, .invokevirtual 152, 3), (14, .aload_n 0, 1), (15, .dup, 1), (16, .getfield 160, 3), (19, .iconst 1, 1), (20, .iadd, 1), (21, .putfield 160, 3), (24, .aload_n 0, 1), (25, .getfield 127, 3), (28, .ifCond .ne 7, 3), (31, .aload_n 0, 1), (32, .invokevirtual 146, 3), (35, .return_, 1)]
theorem dkX12_goesIn : ∀ q ∈ pgX12_goesIn, decode cX12_goesIn q.1 = .ok q.2 := by decide +kernel
def f_X12_goesIn (this : Nat) (h0 : PH) : Option (Unit × PH) :=
  lt (fun (h1 : PH) => lt (pI h1 this 17 ((h1.1 this 17) + (1 : Int32))) (fun (h2 : PH) => lt (fun (h3 : PH) => some ((), h3)) (fun (j35 : PH → Option (Unit × PH)) => if (h2.1 this 13) = 0 then (cb (f_X12_readsOn this h2) (fun (r4 : Unit) (h5 : PH) => j35 h5)) else (j35 h2)))) (fun (j14 : PH → Option (Unit × PH)) => if (h0.1 this 17) = (6 : Int32) then (cb (f_X12_blames this (4 : Int32) h0) (fun (r6 : Unit) (h7 : PH) => j14 h7)) else (j14 h0))
set_option maxRecDepth 100000 in
set_option maxHeartbeats 4000000 in
theorem ct_X12_goesIn (l : Launch) (this : Nat) (h0 : PH) (hk : (kd this).1 = 12) : CT mkV l yX12_goesIn cX12_goesIn 1 none (rmd 2) [.ref this] h0 (f_X12_goesIn this h0) := by
  refine ct_of (by decide) (Nat.le_of_ble_eq_true rfl) ?_
  intro p e s m args below meth c D cA ad A X hr hlk
  have X : Cx p s m args c RX12 cX12_goesIn 1 D cA ad A := X
  unfold f_X12_goesIn
  refine so_pick (L' := [(0, .ref this)]) X [0] rfl ?_
  refine so_aload_n (i := 0) X 0 (dkX12_goesIn (0, .aload_n 0, 1) (pgm 0 rfl)) rfl rfl ?_
  refine sf_getI X ff_12_17 lk_1719 hk (dkX12_goesIn (1, .getfield 160, 3) (pgm 1 rfl)) ?_
  refine so_bipush (v := (6 : Int32)) X (dkX12_goesIn (4, .bipush 6, 2) (pgm 2 rfl)) bp_6 ?_
  refine so_join (jf := fun (h1 : PH) => lt (pI h1 this 17 ((h1.1 this 17) + (1 : Int32))) (fun (h2 : PH) => lt (fun (h3 : PH) => some ((), h3)) (fun (j35 : PH → Option (Unit × PH)) => if (h2.1 this 13) = 0 then (cb (f_X12_readsOn this h2) (fun (r4 : Unit) (h5 : PH) => j35 h5)) else (j35 h2)))) (fun (j : PH → Option (Unit × PH)) => ∀  (h1 : PH), SWo (QM mkV below args s D cA ad A) p l e (rmd 2) s m args below meth c 0 0 1 D cA ad A 14 [(0, .ref this)] [] h1 (j h1)) ?_ (fun j14 hj14 => ?_)
  · intro h1
    refine so_aload_n (i := 0) X 0 (dkX12_goesIn (14, .aload_n 0, 1) (pgm 7 rfl)) rfl rfl ?_
    refine so_dup X (dkX12_goesIn (15, .dup, 1) (pgm 8 rfl)) rfl ?_
    refine sf_getI X ff_12_17 lk_1719 hk (dkX12_goesIn (16, .getfield 160, 3) (pgm 9 rfl)) ?_
    refine so_iconst (v := (1 : Int32)) X (dkX12_goesIn (19, .iconst 1, 1) (pgm 10 rfl)) ic_1 ?_
    refine so_iadd X (dkX12_goesIn (20, .iadd, 1) (pgm 11 rfl)) ?_
    refine sf_putI X ff_12_17 ft_12 rfl lk_1719 hk rfl rfl (dkX12_goesIn (21, .putfield 160, 3) (pgm 12 rfl)) (fun h2 => ?_)
    refine so_aload_n (i := 0) X 0 (dkX12_goesIn (24, .aload_n 0, 1) (pgm 13 rfl)) rfl rfl ?_
    refine sf_getI X ff_12_13 lk_1715 hk (dkX12_goesIn (25, .getfield 127, 3) (pgm 14 rfl)) ?_
    refine so_join (jf := fun (h3 : PH) => some ((), h3)) (fun (j : PH → Option (Unit × PH)) => ∀  (h3 : PH), SWo (QM mkV below args s D cA ad A) p l e (rmd 2) s m args below meth c 0 0 1 D cA ad A 35 [] [] h3 (j h3)) ?_ (fun j35 hj35 => ?_)
    · intro h3
      exact so_vret X hr hlk (dkX12_goesIn (35, .return_, 1) (pgm 18 rfl))
    refine so_if_ne (tgt := 35) X (dkX12_goesIn (28, .ifCond .ne 7, 3) (pgm 15 rfl)) rfl (fun _ => ?_) (fun _ => ?_)
    · exact so_pick X [] rfl (hj35 h2)
    · refine so_aload_n (i := 0) X 0 (dkX12_goesIn (31, .aload_n 0, 1) (pgm 16 rfl)) rfl rfl ?_
      refine so_callV (n := 0) (As := []) X (ct_X12_readsOn l this h2 hk) hk (by decide) rfl lk_1839 lk_1841 lk_62 lk_134 lk_1842 (by decide +kernel) rfl rfl rfl (rm_ok (by omega) (by decide)) ⟨Nat.zero_le _, Nat.zero_le _⟩ (Nat.le_of_ble_eq_true rfl) (dkX12_goesIn (32, .invokevirtual 146, 3) (pgm 17 rfl)) (fun r4 h5 => ?_) rfl
      exact so_pick X [] rfl (hj35 h5)
  refine so_icmp_ne (tgt := 14) X (dkX12_goesIn (6, .if_icmp .ne 8, 3) (pgm 3 rfl)) rfl (fun _ => ?_) (fun _ => ?_)
  · exact so_pick X [0] rfl (hj14 h0)
  · refine so_aload_n (i := 0) X 0 (dkX12_goesIn (9, .aload_n 0, 1) (pgm 4 rfl)) rfl rfl ?_
    refine so_iconst (v := (4 : Int32)) X (dkX12_goesIn (10, .iconst 4, 1) (pgm 5 rfl)) ic_4 ?_
    refine so_callV (n := 1) (As := [.int (4 : Int32)]) X (ct_X12_blames l this (4 : Int32) h0 hk) hk (by decide) rfl lk_1871 lk_1873 lk_67 lk_134 lk_1874 (by decide +kernel) rfl rfl rfl (rm_ok (by omega) (by decide)) ⟨Nat.zero_le _, Nat.zero_le _⟩ (Nat.le_of_ble_eq_true rfl) (dkX12_goesIn (11, .invokevirtual 152, 3) (pgm 6 rfl)) (fun r6 h7 => ?_) rfl
    exact so_pick X [0] rfl (hj14 h7)
def pgX12_readStop : List (Nat × Instr × Nat) := [(0, .aload_n 0, 1), (1, .bipush 59, 2), (3, .invokevirtual 187, 3), (6, .aload_n 0, 1), (7, .getfield 127, 3), (10, .ifCond .ne 13, 3), (13, .aload_n 0, 1), (14, .getfield 13, 3), (17, .iconst 0, 1), (18, .dup2, 1), (19, .iaload, 1), (20, .iconst 1, 1), (21, .iadd, 1), (22, .iastore, 1), (23, .return_, 1)]
theorem dkX12_readStop : ∀ q ∈ pgX12_readStop, decode cX12_readStop q.1 = .ok q.2 := by decide +kernel
def f_X12_readStop (this : Nat) (h0 : PH) : Option (Unit × PH) :=
  cb (f_X12_mustSign this (59 : Int32) h0) (fun (r1 : Unit) (h2 : PH) => lt (fun (h3 : PH) => some ((), h3)) (fun (j23 : PH → Option (Unit × PH)) => if (h2.1 this 13) = 0 then (ldI h2 (rt this 1) 1200 (0 : Int32) (fun (x4 : Int32) => stI h2 (rt this 1) 1200 (0 : Int32) (x4 + (1 : Int32)) (fun (h5 : PH) => j23 h5))) else (j23 h2)))
set_option maxRecDepth 100000 in
set_option maxHeartbeats 4000000 in
theorem ct_X12_readStop (l : Launch) (this : Nat) (h0 : PH) (hk : (kd this).1 = 12) : CT mkV l yX12_readStop cX12_readStop 1 none (rmd 3) [.ref this] h0 (f_X12_readStop this h0) := by
  refine ct_of (by decide) (Nat.le_of_ble_eq_true rfl) ?_
  intro p e s m args below meth c D cA ad A X hr hlk
  have X : Cx p s m args c RX12 cX12_readStop 1 D cA ad A := X
  unfold f_X12_readStop
  refine so_pick (L' := [(0, .ref this)]) X [0] rfl ?_
  refine so_aload_n (i := 0) X 0 (dkX12_readStop (0, .aload_n 0, 1) (pgm 0 rfl)) rfl rfl ?_
  refine so_bipush (v := (59 : Int32)) X (dkX12_readStop (1, .bipush 59, 2) (pgm 1 rfl)) bp_59 ?_
  refine so_callV (n := 1) (As := [.int (59 : Int32)]) X (ct_X12_mustSign l this (59 : Int32) h0 hk) hk (by decide) rfl lk_1884 lk_1886 lk_70 lk_134 lk_1887 (by decide +kernel) rfl rfl rfl (rm_ok (by omega) (by decide)) ⟨Nat.zero_le _, Nat.zero_le _⟩ (Nat.le_of_ble_eq_true rfl) (dkX12_readStop (3, .invokevirtual 187, 3) (pgm 2 rfl)) (fun r1 h2 => ?_) rfl
  refine so_aload_n (i := 0) X 0 (dkX12_readStop (6, .aload_n 0, 1) (pgm 3 rfl)) rfl rfl ?_
  refine sf_getI X ff_12_13 lk_1715 hk (dkX12_readStop (7, .getfield 127, 3) (pgm 4 rfl)) ?_
  refine so_join (jf := fun (h3 : PH) => some ((), h3)) (fun (j : PH → Option (Unit × PH)) => ∀  (h3 : PH), SWo (QM mkV below args s D cA ad A) p l e (rmd 3) s m args below meth c 0 0 1 D cA ad A 23 [] [] h3 (j h3)) ?_ (fun j23 hj23 => ?_)
  · intro h3
    exact so_vret X hr hlk (dkX12_readStop (23, .return_, 1) (pgm 14 rfl))
  refine so_if_ne (tgt := 23) X (dkX12_readStop (10, .ifCond .ne 13, 3) (pgm 5 rfl)) rfl (fun _ => ?_) (fun _ => ?_)
  · exact so_pick X [] rfl (hj23 h2)
  · refine so_aload_n (i := 0) X 0 (dkX12_readStop (13, .aload_n 0, 1) (pgm 6 rfl)) rfl rfl ?_
    refine sf_getR X ff_12_1 lk_1703 hk (dkX12_readStop (14, .getfield 13, 3) (pgm 7 rfl)) ?_
    refine so_iconst (v := (0 : Int32)) X (dkX12_readStop (17, .iconst 0, 1) (pgm 8 rfl)) ic_0 ?_
    refine so_dup2 X (dkX12_readStop (18, .dup2, 1) (pgm 9 rfl)) rfl rfl ?_
    refine so_iald X (rk_12_1 this hk) (dkX12_readStop (19, .iaload, 1) (pgm 10 rfl)) (fun x4 => ?_)
    refine so_iconst (v := (1 : Int32)) X (dkX12_readStop (20, .iconst 1, 1) (pgm 11 rfl)) ic_1 ?_
    refine so_iadd X (dkX12_readStop (21, .iadd, 1) (pgm 12 rfl)) ?_
    refine so_iast X (rk_12_1 this hk) (dkX12_readStop (22, .iastore, 1) (pgm 13 rfl)) (fun h5 => ?_)
    exact so_pick X [] rfl (hj23 h5)
def pgX12_fault : List (Nat × Instr × Nat) := [(0, .aload_n 0, 1), (1, .iconst 0, 1), (2, .putfield 92, 3), (5, .iload_n 1, 1), (6, .ifCond .ne 10, 3), (9, .aload_n 0, 1), (10, .getfield 246, 3), (13, .goto 16, 3), (16, .iload_n 1, 1), (17, .iconst 1, 1), (18, .if_icmp .ne 10, 3), (21, .aload_n 0, 1), (22, .getfield 29, 3), (25, .goto 4, 3), (28, .iconst (-1), 1), (29, .ireturn, 1)]
theorem dkX12_fault : ∀ q ∈ pgX12_fault, decode cX12_fault q.1 = .ok q.2 := by decide +kernel
def f_X12_fault (this : Nat) (a1 : Int32) (h0 : PH) : Option (Int32 × PH) :=
  lt (pI h0 this 5 (0 : Int32)) (fun (h1 : PH) => lt (fun (t2 : Int32) (h3 : PH) => some (t2, h3)) (fun (j29 : Int32 → PH → Option (Int32 × PH)) => if a1 = 0 then (j29 (h1.1 this 15) h1) else (if a1 = (1 : Int32) then (j29 (h1.1 this 16) h1) else (j29 (-1 : Int32) h1))))
set_option maxRecDepth 100000 in
set_option maxHeartbeats 4000000 in
theorem ct_X12_fault (l : Launch) (this : Nat) (a1 : Int32) (h0 : PH) (hk : (kd this).1 = 12) : CT mkI l yX12_fault cX12_fault 2 (some .int) (rmd 0) [.ref this, .int a1] h0 (f_X12_fault this a1 h0) := by
  refine ct_of (by decide) (Nat.le_of_ble_eq_true rfl) ?_
  intro p e s m args below meth c D cA ad A X hr hlk
  have X : Cx p s m args c RX12 cX12_fault 2 D cA ad A := X
  unfold f_X12_fault
  refine so_pick (L' := [(0, .ref this), (1, .int a1)]) X [0, 1] rfl ?_
  refine so_aload_n (i := 0) X 0 (dkX12_fault (0, .aload_n 0, 1) (pgm 0 rfl)) rfl rfl ?_
  refine so_iconst (v := (0 : Int32)) X (dkX12_fault (1, .iconst 0, 1) (pgm 1 rfl)) ic_0 ?_
  refine sf_putI X ff_12_5 ft_12 rfl lk_1707 hk rfl rfl (dkX12_fault (2, .putfield 92, 3) (pgm 2 rfl)) (fun h1 => ?_)
  refine so_iload_n (i := 1) X 1 (dkX12_fault (5, .iload_n 1, 1) (pgm 3 rfl)) rfl rfl ?_
  refine so_join (jf := fun (t2 : Int32) (h3 : PH) => some (t2, h3)) (fun (j : Int32 → PH → Option (Int32 × PH)) => ∀ (t2 : Int32) (h3 : PH), SWo (QM mkI below args s D cA ad A) p l e (rmd 0) s m args below meth c 0 0 2 D cA ad A 29 [] [.int t2] h3 (j t2 h3)) ?_ (fun j29 hj29 => ?_)
  · intro t2 h3
    exact so_iret X hr hlk (dkX12_fault (29, .ireturn, 1) (pgm 15 rfl))
  refine so_if_ne (tgt := 16) X (dkX12_fault (6, .ifCond .ne 10, 3) (pgm 4 rfl)) rfl (fun _ => ?_) (fun _ => ?_)
  · refine so_iload_n (i := 1) X 1 (dkX12_fault (16, .iload_n 1, 1) (pgm 8 rfl)) rfl rfl ?_
    refine so_iconst (v := (1 : Int32)) X (dkX12_fault (17, .iconst 1, 1) (pgm 9 rfl)) ic_1 ?_
    refine so_icmp_ne (tgt := 28) X (dkX12_fault (18, .if_icmp .ne 10, 3) (pgm 10 rfl)) rfl (fun _ => ?_) (fun _ => ?_)
    · refine so_iconst (v := (-1 : Int32)) X (dkX12_fault (28, .iconst (-1), 1) (pgm 14 rfl)) ic_m1 ?_
      exact so_pick X [] rfl (hj29 (-1 : Int32) h1)
    · refine so_aload_n (i := 0) X 0 (dkX12_fault (21, .aload_n 0, 1) (pgm 11 rfl)) rfl rfl ?_
      refine sf_getI X ff_12_16 lk_1718 hk (dkX12_fault (22, .getfield 29, 3) (pgm 12 rfl)) ?_
      refine so_goto (tgt := 29) X (dkX12_fault (25, .goto 4, 3) (pgm 13 rfl)) rfl ?_
      exact so_pick X [] rfl (hj29 (h1.1 this 16) h1)
  · refine so_aload_n (i := 0) X 0 (dkX12_fault (9, .aload_n 0, 1) (pgm 5 rfl)) rfl rfl ?_
    refine sf_getI X ff_12_15 lk_1717 hk (dkX12_fault (10, .getfield 246, 3) (pgm 6 rfl)) ?_
    refine so_goto (tgt := 29) X (dkX12_fault (13, .goto 16, 3) (pgm 7 rfl)) rfl ?_
    exact so_pick X [] rfl (hj29 (h1.1 this 15) h1)
def pgX12_cells : List (Nat × Instr × Nat) := [(0, .aload_n 0, 1), (1, .getfield 9, 3), (4, .iconst 1, 1), (5, .iaload, 1), (6, .aload_n 0, 1), (7, .getfield 9, 3), (10, .iconst 2, 1), (11, .iaload, 1), (12, .imul, 1), (13, .ireturn, 1)]
theorem dkX12_cells : ∀ q ∈ pgX12_cells, decode cX12_cells q.1 = .ok q.2 := by decide +kernel
def f_X12_cells (this : Nat) (h0 : PH) : Option (Int32 × PH) :=
  ldI h0 (rt this 0) 1200 (1 : Int32) (fun (x1 : Int32) => ldI h0 (rt this 0) 1200 (2 : Int32) (fun (x2 : Int32) => some ((x1 * x2), h0)))
set_option maxRecDepth 100000 in
set_option maxHeartbeats 4000000 in
theorem ct_X12_cells (l : Launch) (this : Nat) (h0 : PH) (hk : (kd this).1 = 12) : CT mkI l yX12_cells cX12_cells 1 (some .int) (rmd 0) [.ref this] h0 (f_X12_cells this h0) := by
  refine ct_of (by decide) (Nat.le_of_ble_eq_true rfl) ?_
  intro p e s m args below meth c D cA ad A X hr hlk
  have X : Cx p s m args c RX12 cX12_cells 1 D cA ad A := X
  unfold f_X12_cells
  refine so_pick (L' := [(0, .ref this)]) X [0] rfl ?_
  refine so_aload_n (i := 0) X 0 (dkX12_cells (0, .aload_n 0, 1) (pgm 0 rfl)) rfl rfl ?_
  refine sf_getR X ff_12_0 lk_1702 hk (dkX12_cells (1, .getfield 9, 3) (pgm 1 rfl)) ?_
  refine so_iconst (v := (1 : Int32)) X (dkX12_cells (4, .iconst 1, 1) (pgm 2 rfl)) ic_1 ?_
  refine so_iald X (rk_12_0 this hk) (dkX12_cells (5, .iaload, 1) (pgm 3 rfl)) (fun x1 => ?_)
  refine so_aload_n (i := 0) X 0 (dkX12_cells (6, .aload_n 0, 1) (pgm 4 rfl)) rfl rfl ?_
  refine sf_getR X ff_12_0 lk_1702 hk (dkX12_cells (7, .getfield 9, 3) (pgm 5 rfl)) ?_
  refine so_iconst (v := (2 : Int32)) X (dkX12_cells (10, .iconst 2, 1) (pgm 6 rfl)) ic_2 ?_
  refine so_iald X (rk_12_0 this hk) (dkX12_cells (11, .iaload, 1) (pgm 7 rfl)) (fun x2 => ?_)
  refine so_imul X (dkX12_cells (12, .imul, 1) (pgm 8 rfl)) ?_
  exact so_iret X hr hlk (dkX12_cells (13, .ireturn, 1) (pgm 9 rfl))
def pgX12_everywhere : List (Nat × Instr × Nat) := [(0, .iconst 1, 1), (1, .aload_n 0, 1), (2, .invokevirtual 249, 3), (5, .ishl, 1), (6, .iconst 1, 1), (7, .isub, 1), (8, .ireturn, 1)]
theorem dkX12_everywhere : ∀ q ∈ pgX12_everywhere, decode cX12_everywhere q.1 = .ok q.2 := by decide +kernel
def f_X12_everywhere (this : Nat) (h0 : PH) : Option (Int32 × PH) :=
  cb (f_X12_cells this h0) (fun (r1 : Int32) (h2 : PH) => some ((((1 : Int32) <<< (r1 &&& 31)) - (1 : Int32)), h2))
set_option maxRecDepth 100000 in
set_option maxHeartbeats 4000000 in
theorem ct_X12_everywhere (l : Launch) (this : Nat) (h0 : PH) (hk : (kd this).1 = 12) : CT mkI l yX12_everywhere cX12_everywhere 1 (some .int) (rmd 1) [.ref this] h0 (f_X12_everywhere this h0) := by
  refine ct_of (by decide) (Nat.le_of_ble_eq_true rfl) ?_
  intro p e s m args below meth c D cA ad A X hr hlk
  have X : Cx p s m args c RX12 cX12_everywhere 1 D cA ad A := X
  unfold f_X12_everywhere
  refine so_pick (L' := [(0, .ref this)]) X [0] rfl ?_
  refine so_iconst (v := (1 : Int32)) X (dkX12_everywhere (0, .iconst 1, 1) (pgm 0 rfl)) ic_1 ?_
  refine so_aload_n (i := 0) X 0 (dkX12_everywhere (1, .aload_n 0, 1) (pgm 1 rfl)) rfl rfl ?_
  refine so_callV (n := 0) (As := []) X (ct_X12_cells l this h0 hk) hk (by decide) rfl lk_1668 lk_1670 lk_57 lk_134 lk_1671 (by decide +kernel) rfl rfl rfl (rm_ok (by omega) (by decide)) ⟨Nat.zero_le _, Nat.zero_le _⟩ (Nat.le_of_ble_eq_true rfl) (dkX12_everywhere (2, .invokevirtual 249, 3) (pgm 2 rfl)) (fun r1 h2 => ?_) rfl
  refine so_ishl X (dkX12_everywhere (5, .ishl, 1) (pgm 3 rfl)) ?_
  refine so_iconst (v := (1 : Int32)) X (dkX12_everywhere (6, .iconst 1, 1) (pgm 4 rfl)) ic_1 ?_
  refine so_isub X (dkX12_everywhere (7, .isub, 1) (pgm 5 rfl)) ?_
  exact so_iret X hr hlk (dkX12_everywhere (8, .ireturn, 1) (pgm 6 rfl))
def pgX12_isSky : List (Nat × Instr × Nat) := [(0, .lload_n 1, 1), (1, .lconst 0, 1), (2, .aload_n 0, 1), (3, .invokevirtual 252, 3), (6, .i2l, 1), (7, .invokestatic 156, 3), (10, .ireturn, 1)]
theorem dkX12_isSky : ∀ q ∈ pgX12_isSky, decode cX12_isSky q.1 = .ok q.2 := by decide +kernel
def f_X12_isSky (this : Nat) (a1 : Int64) (h0 : PH) : Option (Int32 × PH) :=
  cb (f_X12_everywhere this h0) (fun (r1 : Int32) (h2 : PH) => cb (f_X12_within a1 (0 : Int64) r1.toInt64 h2) (fun (r3 : Int32) (h4 : PH) => zr r3 h4))
set_option maxRecDepth 100000 in
set_option maxHeartbeats 4000000 in
theorem ct_X12_isSky (l : Launch) (this : Nat) (a1 : Int64) (h0 : PH) (hk : (kd this).1 = 12) : CT mkI l yX12_isSky cX12_isSky 3 (some .boolean) (rmd 2) [.ref this, .long a1] h0 (f_X12_isSky this a1 h0) := by
  refine ct_of (by decide) (Nat.le_of_ble_eq_true rfl) ?_
  intro p e s m args below meth c D cA ad A X hr hlk
  have X : Cx p s m args c RX12 cX12_isSky 3 D cA ad A := X
  unfold f_X12_isSky
  refine so_pick (L' := [(0, .ref this), (1, .long a1)]) X [0, 1] rfl ?_
  refine so_lload_n (i := 1) X 1 (dkX12_isSky (0, .lload_n 1, 1) (pgm 0 rfl)) rfl rfl ?_
  refine so_lconst (v := (0 : Int64)) X (dkX12_isSky (1, .lconst 0, 1) (pgm 1 rfl)) lc_0 ?_
  refine so_aload_n (i := 0) X 0 (dkX12_isSky (2, .aload_n 0, 1) (pgm 2 rfl)) rfl rfl ?_
  refine so_callV (n := 0) (As := []) X (ct_X12_everywhere l this h0 hk) hk (by decide) rfl lk_1664 lk_1666 lk_56 lk_134 lk_1667 (by decide +kernel) rfl rfl rfl (rm_ok (by omega) (by decide)) ⟨Nat.zero_le _, Nat.zero_le _⟩ (Nat.le_of_ble_eq_true rfl) (dkX12_isSky (3, .invokevirtual 252, 3) (pgm 3 rfl)) (fun r1 h2 => ?_) rfl
  refine so_i2l X (dkX12_isSky (6, .i2l, 1) (pgm 4 rfl)) ?_
  refine so_callS (n := 3) (As := [.long a1, .long (0 : Int64), .long r1.toInt64]) X (ct_X12_within l a1 (0 : Int64) r1.toInt64 h2 ) lk_1832 lk_1833 lk_134 lk_1834 (by decide +kernel) rfl rfl rfl (rm_ok (by omega) (by decide)) ⟨Nat.zero_le _, Nat.zero_le _⟩ (Nat.le_of_ble_eq_true rfl) (dkX12_isSky (7, .invokestatic 156, 3) (pgm 5 rfl)) (fun r3 h4 => ?_) rfl
  exact so_zret X hr hlk (dkX12_isSky (10, .ireturn, 1) (pgm 6 rfl))
def pgX12_bound : List (Nat × Instr × Nat) := [(0, .ldc2_w 255, 3), (3, .ldc2_w 257, 3), (6, .lload_n 0, 1), (7, .invokestatic 259, 3), (10, .invokestatic 262, 3), (13, .l2i, 1), (14, .ireturn, 1)]
theorem dkX12_bound : ∀ q ∈ pgX12_bound, decode cX12_bound q.1 = .ok q.2 := by decide +kernel
def f_X12_bound (a1 : Int64) (h0 : PH) : Option (Int32 × PH) :=
  some ((if (if a1 < (1000000 : Int64) then a1 else (1000000 : Int64)) < (-1000000 : Int64) then (-1000000 : Int64) else (if a1 < (1000000 : Int64) then a1 else (1000000 : Int64))).toInt32, h0)
set_option maxRecDepth 100000 in
set_option maxHeartbeats 4000000 in
theorem ct_X12_bound (l : Launch) (a1 : Int64) (h0 : PH)  : CT mkI l yX12_bound cX12_bound 2 (some .int) (rmd 1) [.long a1] h0 (f_X12_bound a1 h0) := by
  refine ct_of (by decide) (Nat.le_of_ble_eq_true rfl) ?_
  intro p e s m args below meth c D cA ad A X hr hlk
  have X : Cx p s m args c RX12 cX12_bound 2 D cA ad A := X
  unfold f_X12_bound
  refine so_pick (L' := [(0, .long a1)]) X [0] rfl ?_
  refine so_ldc2 X lk_1696 (dkX12_bound (0, .ldc2_w 255, 3) (pgm 0 rfl)) ?_
  refine so_ldc2 X lk_1697 (dkX12_bound (3, .ldc2_w 257, 3) (pgm 1 rfl)) ?_
  refine so_lload_n (i := 0) X 0 (dkX12_bound (6, .lload_n 0, 1) (pgm 2 rfl)) rfl rfl ?_
  refine so_mminl X lk_1698 lk_1699 lk_135 lk_1700 (Nat.le_of_ble_eq_true rfl) (Nat.le_of_ble_eq_true rfl) ⟨Nat.zero_le _, Nat.zero_le _⟩ (dkX12_bound (7, .invokestatic 259, 3) (pgm 3 rfl)) ?_
  refine so_mmaxl X lk_1701 lk_1561 lk_135 lk_1562 (Nat.le_of_ble_eq_true rfl) (Nat.le_of_ble_eq_true rfl) ⟨Nat.zero_le _, Nat.zero_le _⟩ (dkX12_bound (10, .invokestatic 262, 3) (pgm 4 rfl)) ?_
  refine so_l2i X (dkX12_bound (13, .l2i, 1) (pgm 5 rfl)) ?_
  exact so_iret X hr hlk (dkX12_bound (14, .ireturn, 1) (pgm 6 rfl))
def pgX12_done : List (Nat × Instr × Nat) := [(0, .iload_n 0, 1), (1, .tableswitch 114 10 16 #[43, 50, 57, 64, 76, 88, 100], 43), (44, .lload_n 1, 1), (45, .lload_n 3, 1), (46, .ladd, 1), (47, .invokestatic 265, 3), (50, .ireturn, 1), (51, .lload_n 1, 1), (52, .lload_n 3, 1), (53, .lsub, 1), (54, .invokestatic 265, 3), (57, .ireturn, 1), (58, .lload_n 1, 1), (59, .lload_n 3, 1), (60, .lmul, 1), (61, .invokestatic 265, 3), (64, .ireturn, 1), (65, .lload_n 1, 1), (66, .lload_n 3, 1), (67, .lcmp, 1), (68, .ifCond .ne 7, 3), (71, .iconst 1, 1), (72, .goto 4, 3), (75, .iconst 0, 1), (76, .ireturn, 1), (77, .lload_n 1, 1), (78, .lload_n 3, 1), (79, .lcmp, 1), (80, .ifCond .ge 7, 3), (83, .iconst 1, 1), (84, .goto 4, 3), (87, .iconst 0, 1), (88, .ireturn, 1), (89, .lload_n 1, 1), (90, .lload_n 3, 1), (91, .lcmp, 1), (92, .ifCond .le 7, 3), (95, .iconst 1, 1), (96, .goto 4, 3), (99, .iconst 0, 1), (100, .ireturn, 1), (101, .lload_n 1, 1), (102, .lload_n 3, 1), (103, .ladd, 1), (104, .lconst 1, 1), (105, .lcmp, 1), (106, .ifCond .le 7, 3), (109, .iconst 1, 1), (110, .goto 4, 3), (113, .iconst 0, 1), (114, .ireturn, 1), (115, .lload_n 1, 1), (116, .lload_n 3, 1), (117, .ladd, 1), (118, .lconst 0, 1), (119, .lcmp, 1), (120, .ifCond .le 7, 3), (123, .iconst 1, 1), (124, .goto 4, 3), (127, .iconst 0, 1), (128, .ireturn, 1)]
theorem dkX12_done : ∀ q ∈ pgX12_done, decode cX12_done q.1 = .ok q.2 := by decide +kernel
def f_X12_done (a1 : Int32) (a2 : Int64) (a3 : Int64) (h0 : PH) : Option (Int32 × PH) :=
  if a1.toInt < 10 ∨ 16 < a1.toInt then (lt (fun (t1 : Int32) (h2 : PH) => some (t1, h2)) (fun (j128 : Int32 → PH → Option (Int32 × PH)) => if (lg_cmp (a2 + a3) (0 : Int64)) ≤ 0 then (j128 (0 : Int32) h0) else (j128 (1 : Int32) h0))) else ([cb (f_X12_bound (a2 + a3) h0) (fun (r3 : Int32) (h4 : PH) => some (r3, h4)), cb (f_X12_bound (a2 - a3) h0) (fun (r5 : Int32) (h6 : PH) => some (r5, h6)), cb (f_X12_bound (a2 * a3) h0) (fun (r7 : Int32) (h8 : PH) => some (r7, h8)), lt (fun (t9 : Int32) (h10 : PH) => some (t9, h10)) (fun (j76 : Int32 → PH → Option (Int32 × PH)) => if (lg_cmp a2 a3) = 0 then (j76 (1 : Int32) h0) else (j76 (0 : Int32) h0)), lt (fun (t11 : Int32) (h12 : PH) => some (t11, h12)) (fun (j88 : Int32 → PH → Option (Int32 × PH)) => if 0 ≤ (lg_cmp a2 a3) then (j88 (0 : Int32) h0) else (j88 (1 : Int32) h0)), lt (fun (t13 : Int32) (h14 : PH) => some (t13, h14)) (fun (j100 : Int32 → PH → Option (Int32 × PH)) => if (lg_cmp a2 a3) ≤ 0 then (j100 (0 : Int32) h0) else (j100 (1 : Int32) h0)), lt (fun (t15 : Int32) (h16 : PH) => some (t15, h16)) (fun (j114 : Int32 → PH → Option (Int32 × PH)) => if (lg_cmp (a2 + a3) (1 : Int64)) ≤ 0 then (j114 (0 : Int32) h0) else (j114 (1 : Int32) h0))] : List (Option (Int32 × PH))).getD (a1.toInt - 10).toNat none
set_option maxRecDepth 100000 in
set_option maxHeartbeats 4000000 in
theorem ct_X12_done (l : Launch) (a1 : Int32) (a2 : Int64) (a3 : Int64) (h0 : PH)  : CT mkI l yX12_done cX12_done 5 (some .int) (rmd 2) [.int a1, .long a2, .long a3] h0 (f_X12_done a1 a2 a3 h0) := by
  refine ct_of (by decide) (Nat.le_of_ble_eq_true rfl) ?_
  intro p e s m args below meth c D cA ad A X hr hlk
  have X : Cx p s m args c RX12 cX12_done 5 D cA ad A := X
  unfold f_X12_done
  refine so_pick (L' := [(0, .int a1), (1, .long a2), (3, .long a3)]) X [0, 1, 2] rfl ?_
  refine so_iload_n (i := 0) X 0 (dkX12_done (0, .iload_n 0, 1) (pgm 0 rfl)) rfl rfl ?_
  refine so_tsw (tgt := 115) (os := [cb (f_X12_bound (a2 + a3) h0) (fun (r3 : Int32) (h4 : PH) => some (r3, h4)), cb (f_X12_bound (a2 - a3) h0) (fun (r5 : Int32) (h6 : PH) => some (r5, h6)), cb (f_X12_bound (a2 * a3) h0) (fun (r7 : Int32) (h8 : PH) => some (r7, h8)), lt (fun (t9 : Int32) (h10 : PH) => some (t9, h10)) (fun (j76 : Int32 → PH → Option (Int32 × PH)) => if (lg_cmp a2 a3) = 0 then (j76 (1 : Int32) h0) else (j76 (0 : Int32) h0)), lt (fun (t11 : Int32) (h12 : PH) => some (t11, h12)) (fun (j88 : Int32 → PH → Option (Int32 × PH)) => if 0 ≤ (lg_cmp a2 a3) then (j88 (0 : Int32) h0) else (j88 (1 : Int32) h0)), lt (fun (t13 : Int32) (h14 : PH) => some (t13, h14)) (fun (j100 : Int32 → PH → Option (Int32 × PH)) => if (lg_cmp a2 a3) ≤ 0 then (j100 (0 : Int32) h0) else (j100 (1 : Int32) h0)), lt (fun (t15 : Int32) (h16 : PH) => some (t15, h16)) (fun (j114 : Int32 → PH → Option (Int32 × PH)) => if (lg_cmp (a2 + a3) (1 : Int64)) ≤ 0 then (j114 (0 : Int32) h0) else (j114 (1 : Int32) h0))]) X (dkX12_done (1, .tableswitch 114 10 16 #[43, 50, 57, 64, 76, 88, 100], 43) (pgm 1 rfl)) rfl ?_ ?_ rfl
  · refine so_lload_n (i := 1) X 1 (dkX12_done (115, .lload_n 1, 1) (pgm 51 rfl)) rfl rfl ?_
    refine so_lload_n (i := 3) X 2 (dkX12_done (116, .lload_n 3, 1) (pgm 52 rfl)) rfl rfl ?_
    refine so_ladd X (dkX12_done (117, .ladd, 1) (pgm 53 rfl)) ?_
    refine so_lconst (v := (0 : Int64)) X (dkX12_done (118, .lconst 0, 1) (pgm 54 rfl)) lc_0 ?_
    refine so_lcmp X (dkX12_done (119, .lcmp, 1) (pgm 55 rfl)) ?_
    refine so_join (jf := fun (t1 : Int32) (h2 : PH) => some (t1, h2)) (fun (j : Int32 → PH → Option (Int32 × PH)) => ∀ (t1 : Int32) (h2 : PH), SWo (QM mkI below args s D cA ad A) p l e (rmd 2) s m args below meth c 0 0 5 D cA ad A 128 [] [.int t1] h2 (j t1 h2)) ?_ (fun j128 hj128 => ?_)
    · intro t1 h2
      exact so_iret X hr hlk (dkX12_done (128, .ireturn, 1) (pgm 60 rfl))
    refine so_if_le (tgt := 127) X (dkX12_done (120, .ifCond .le 7, 3) (pgm 56 rfl)) rfl (fun _ => ?_) (fun _ => ?_)
    · refine so_iconst (v := (0 : Int32)) X (dkX12_done (127, .iconst 0, 1) (pgm 59 rfl)) ic_0 ?_
      exact so_pick X [] rfl (hj128 (0 : Int32) h0)
    · refine so_iconst (v := (1 : Int32)) X (dkX12_done (123, .iconst 1, 1) (pgm 57 rfl)) ic_1 ?_
      refine so_goto (tgt := 128) X (dkX12_done (124, .goto 4, 3) (pgm 58 rfl)) rfl ?_
      exact so_pick X [] rfl (hj128 (1 : Int32) h0)
  · intro kq ok hkq
    match kq, hkq with
    | 0, hkq =>
      obtain rfl := Option.some.inj hkq
      refine ⟨43, 44, rfl, rfl, ?_⟩
      refine so_lload_n (i := 1) X 1 (dkX12_done (44, .lload_n 1, 1) (pgm 2 rfl)) rfl rfl ?_
      refine so_lload_n (i := 3) X 2 (dkX12_done (45, .lload_n 3, 1) (pgm 3 rfl)) rfl rfl ?_
      refine so_ladd X (dkX12_done (46, .ladd, 1) (pgm 4 rfl)) ?_
      refine so_callS (n := 1) (As := [.long (a2 + a3)]) X (ct_X12_bound l (a2 + a3) h0 ) lk_1693 lk_1694 lk_134 lk_1695 (by decide +kernel) rfl rfl rfl (rm_ok (by omega) (by decide)) ⟨Nat.zero_le _, Nat.zero_le _⟩ (Nat.le_of_ble_eq_true rfl) (dkX12_done (47, .invokestatic 265, 3) (pgm 5 rfl)) (fun r3 h4 => ?_) rfl
      exact so_iret X hr hlk (dkX12_done (50, .ireturn, 1) (pgm 6 rfl))
    | 1, hkq =>
      obtain rfl := Option.some.inj hkq
      refine ⟨50, 51, rfl, rfl, ?_⟩
      refine so_lload_n (i := 1) X 1 (dkX12_done (51, .lload_n 1, 1) (pgm 7 rfl)) rfl rfl ?_
      refine so_lload_n (i := 3) X 2 (dkX12_done (52, .lload_n 3, 1) (pgm 8 rfl)) rfl rfl ?_
      refine so_lsub X (dkX12_done (53, .lsub, 1) (pgm 9 rfl)) ?_
      refine so_callS (n := 1) (As := [.long (a2 - a3)]) X (ct_X12_bound l (a2 - a3) h0 ) lk_1693 lk_1694 lk_134 lk_1695 (by decide +kernel) rfl rfl rfl (rm_ok (by omega) (by decide)) ⟨Nat.zero_le _, Nat.zero_le _⟩ (Nat.le_of_ble_eq_true rfl) (dkX12_done (54, .invokestatic 265, 3) (pgm 10 rfl)) (fun r5 h6 => ?_) rfl
      exact so_iret X hr hlk (dkX12_done (57, .ireturn, 1) (pgm 11 rfl))
    | 2, hkq =>
      obtain rfl := Option.some.inj hkq
      refine ⟨57, 58, rfl, rfl, ?_⟩
      refine so_lload_n (i := 1) X 1 (dkX12_done (58, .lload_n 1, 1) (pgm 12 rfl)) rfl rfl ?_
      refine so_lload_n (i := 3) X 2 (dkX12_done (59, .lload_n 3, 1) (pgm 13 rfl)) rfl rfl ?_
      refine so_lmul X (dkX12_done (60, .lmul, 1) (pgm 14 rfl)) ?_
      refine so_callS (n := 1) (As := [.long (a2 * a3)]) X (ct_X12_bound l (a2 * a3) h0 ) lk_1693 lk_1694 lk_134 lk_1695 (by decide +kernel) rfl rfl rfl (rm_ok (by omega) (by decide)) ⟨Nat.zero_le _, Nat.zero_le _⟩ (Nat.le_of_ble_eq_true rfl) (dkX12_done (61, .invokestatic 265, 3) (pgm 15 rfl)) (fun r7 h8 => ?_) rfl
      exact so_iret X hr hlk (dkX12_done (64, .ireturn, 1) (pgm 16 rfl))
    | 3, hkq =>
      obtain rfl := Option.some.inj hkq
      refine ⟨64, 65, rfl, rfl, ?_⟩
      refine so_lload_n (i := 1) X 1 (dkX12_done (65, .lload_n 1, 1) (pgm 17 rfl)) rfl rfl ?_
      refine so_lload_n (i := 3) X 2 (dkX12_done (66, .lload_n 3, 1) (pgm 18 rfl)) rfl rfl ?_
      refine so_lcmp X (dkX12_done (67, .lcmp, 1) (pgm 19 rfl)) ?_
      refine so_join (jf := fun (t9 : Int32) (h10 : PH) => some (t9, h10)) (fun (j : Int32 → PH → Option (Int32 × PH)) => ∀ (t9 : Int32) (h10 : PH), SWo (QM mkI below args s D cA ad A) p l e (rmd 2) s m args below meth c 0 0 5 D cA ad A 76 [] [.int t9] h10 (j t9 h10)) ?_ (fun j76 hj76 => ?_)
      · intro t9 h10
        exact so_iret X hr hlk (dkX12_done (76, .ireturn, 1) (pgm 24 rfl))
      refine so_if_ne (tgt := 75) X (dkX12_done (68, .ifCond .ne 7, 3) (pgm 20 rfl)) rfl (fun _ => ?_) (fun _ => ?_)
      · refine so_iconst (v := (0 : Int32)) X (dkX12_done (75, .iconst 0, 1) (pgm 23 rfl)) ic_0 ?_
        exact so_pick X [] rfl (hj76 (0 : Int32) h0)
      · refine so_iconst (v := (1 : Int32)) X (dkX12_done (71, .iconst 1, 1) (pgm 21 rfl)) ic_1 ?_
        refine so_goto (tgt := 76) X (dkX12_done (72, .goto 4, 3) (pgm 22 rfl)) rfl ?_
        exact so_pick X [] rfl (hj76 (1 : Int32) h0)
    | 4, hkq =>
      obtain rfl := Option.some.inj hkq
      refine ⟨76, 77, rfl, rfl, ?_⟩
      refine so_lload_n (i := 1) X 1 (dkX12_done (77, .lload_n 1, 1) (pgm 25 rfl)) rfl rfl ?_
      refine so_lload_n (i := 3) X 2 (dkX12_done (78, .lload_n 3, 1) (pgm 26 rfl)) rfl rfl ?_
      refine so_lcmp X (dkX12_done (79, .lcmp, 1) (pgm 27 rfl)) ?_
      refine so_join (jf := fun (t11 : Int32) (h12 : PH) => some (t11, h12)) (fun (j : Int32 → PH → Option (Int32 × PH)) => ∀ (t11 : Int32) (h12 : PH), SWo (QM mkI below args s D cA ad A) p l e (rmd 2) s m args below meth c 0 0 5 D cA ad A 88 [] [.int t11] h12 (j t11 h12)) ?_ (fun j88 hj88 => ?_)
      · intro t11 h12
        exact so_iret X hr hlk (dkX12_done (88, .ireturn, 1) (pgm 32 rfl))
      refine so_if_ge (tgt := 87) X (dkX12_done (80, .ifCond .ge 7, 3) (pgm 28 rfl)) rfl (fun _ => ?_) (fun _ => ?_)
      · refine so_iconst (v := (0 : Int32)) X (dkX12_done (87, .iconst 0, 1) (pgm 31 rfl)) ic_0 ?_
        exact so_pick X [] rfl (hj88 (0 : Int32) h0)
      · refine so_iconst (v := (1 : Int32)) X (dkX12_done (83, .iconst 1, 1) (pgm 29 rfl)) ic_1 ?_
        refine so_goto (tgt := 88) X (dkX12_done (84, .goto 4, 3) (pgm 30 rfl)) rfl ?_
        exact so_pick X [] rfl (hj88 (1 : Int32) h0)
    | 5, hkq =>
      obtain rfl := Option.some.inj hkq
      refine ⟨88, 89, rfl, rfl, ?_⟩
      refine so_lload_n (i := 1) X 1 (dkX12_done (89, .lload_n 1, 1) (pgm 33 rfl)) rfl rfl ?_
      refine so_lload_n (i := 3) X 2 (dkX12_done (90, .lload_n 3, 1) (pgm 34 rfl)) rfl rfl ?_
      refine so_lcmp X (dkX12_done (91, .lcmp, 1) (pgm 35 rfl)) ?_
      refine so_join (jf := fun (t13 : Int32) (h14 : PH) => some (t13, h14)) (fun (j : Int32 → PH → Option (Int32 × PH)) => ∀ (t13 : Int32) (h14 : PH), SWo (QM mkI below args s D cA ad A) p l e (rmd 2) s m args below meth c 0 0 5 D cA ad A 100 [] [.int t13] h14 (j t13 h14)) ?_ (fun j100 hj100 => ?_)
      · intro t13 h14
        exact so_iret X hr hlk (dkX12_done (100, .ireturn, 1) (pgm 40 rfl))
      refine so_if_le (tgt := 99) X (dkX12_done (92, .ifCond .le 7, 3) (pgm 36 rfl)) rfl (fun _ => ?_) (fun _ => ?_)
      · refine so_iconst (v := (0 : Int32)) X (dkX12_done (99, .iconst 0, 1) (pgm 39 rfl)) ic_0 ?_
        exact so_pick X [] rfl (hj100 (0 : Int32) h0)
      · refine so_iconst (v := (1 : Int32)) X (dkX12_done (95, .iconst 1, 1) (pgm 37 rfl)) ic_1 ?_
        refine so_goto (tgt := 100) X (dkX12_done (96, .goto 4, 3) (pgm 38 rfl)) rfl ?_
        exact so_pick X [] rfl (hj100 (1 : Int32) h0)
    | 6, hkq =>
      obtain rfl := Option.some.inj hkq
      refine ⟨100, 101, rfl, rfl, ?_⟩
      refine so_lload_n (i := 1) X 1 (dkX12_done (101, .lload_n 1, 1) (pgm 41 rfl)) rfl rfl ?_
      refine so_lload_n (i := 3) X 2 (dkX12_done (102, .lload_n 3, 1) (pgm 42 rfl)) rfl rfl ?_
      refine so_ladd X (dkX12_done (103, .ladd, 1) (pgm 43 rfl)) ?_
      refine so_lconst (v := (1 : Int64)) X (dkX12_done (104, .lconst 1, 1) (pgm 44 rfl)) lc_1 ?_
      refine so_lcmp X (dkX12_done (105, .lcmp, 1) (pgm 45 rfl)) ?_
      refine so_join (jf := fun (t15 : Int32) (h16 : PH) => some (t15, h16)) (fun (j : Int32 → PH → Option (Int32 × PH)) => ∀ (t15 : Int32) (h16 : PH), SWo (QM mkI below args s D cA ad A) p l e (rmd 2) s m args below meth c 0 0 5 D cA ad A 114 [] [.int t15] h16 (j t15 h16)) ?_ (fun j114 hj114 => ?_)
      · intro t15 h16
        exact so_iret X hr hlk (dkX12_done (114, .ireturn, 1) (pgm 50 rfl))
      refine so_if_le (tgt := 113) X (dkX12_done (106, .ifCond .le 7, 3) (pgm 46 rfl)) rfl (fun _ => ?_) (fun _ => ?_)
      · refine so_iconst (v := (0 : Int32)) X (dkX12_done (113, .iconst 0, 1) (pgm 49 rfl)) ic_0 ?_
        exact so_pick X [] rfl (hj114 (0 : Int32) h0)
      · refine so_iconst (v := (1 : Int32)) X (dkX12_done (109, .iconst 1, 1) (pgm 47 rfl)) ic_1 ?_
        refine so_goto (tgt := 114) X (dkX12_done (110, .goto 4, 3) (pgm 48 rfl)) rfl ?_
        exact so_pick X [] rfl (hj114 (1 : Int32) h0)
    | kq + 7, hkq => simp at hkq
def pgX12_plain : List (Nat × Instr × Nat) := [(0, .iload_n 1, 1), (1, .sipush 1000, 3), (4, .if_icmp .lt 9, 3), (7, .iload_n 1, 1), (8, .sipush 1000, 3), (11, .isub, 1), (12, .ireturn, 1), (13, .iload_n 1, 1), (14, .sipush 400, 3), (17, .if_icmp .ne 8, 3), (20, .iload_n 2, 1), (21, .invokestatic 269, 3), (24, .ireturn, 1), (25, .aload_n 0, 1), (26, .getfield 9, 3), (29, .iconst 2, 1), (30, .iaload, 1), (31, .istore_n 3, 1), (32, .iload_n 1, 1), (33, .sipush 200, 3), (36, .if_icmp .ge 12, 3), (39, .iload_n 2, 1), (40, .iload_n 1, 1), (41, .bipush 100, 2), (43, .isub, 1), (44, .ishr, 1), (45, .iconst 1, 1), (46, .iand, 1), (47, .ireturn, 1), (48, .iconst 0, 1), (49, .istore 4, 2), (51, .iload_n 1, 1), (52, .sipush 300, 3), (55, .if_icmp .ge 40, 3), (58, .iconst 0, 1), (59, .istore 5, 2), (61, .iload 5, 2), (63, .iload_n 3, 1), (64, .if_icmp .ge 28, 3), (67, .iload 4, 2), (69, .iload_n 2, 1), (70, .iload_n 3, 1), (71, .iload_n 1, 1), (72, .sipush 200, 3), (75, .isub, 1), (76, .imul, 1), (77, .iload 5, 2), (79, .iadd, 1), (80, .ishr, 1), (81, .iconst 1, 1), (82, .iand, 1), (83, .iadd, 1), (84, .istore 4, 2), (86, .iinc 5 1, 3), (89, .goto (-28), 3), (92, .goto 42, 3), (95, .iconst 0, 1), (96, .istore 5, 2), (98, .iload 5, 2), (100, .aload_n 0, 1), (101, .getfield 9, 3), (104, .iconst 1, 1), (105, .iaload, 1), (106, .if_icmp .ge 28, 3), (109, .iload 4, 2), (111, .iload_n 2, 1), (112, .iload_n 3, 1), (113, .iload 5, 2), (115, .imul, 1), (116, .iload_n 1, 1), (117, .iadd, 1), (118, .sipush 300, 3), (121, .isub, 1), (122, .ishr, 1), (123, .iconst 1, 1), (124, .iand, 1), (125, .iadd, 1), (126, .istore 4, 2), (128, .iinc 5 1, 3), (131, .goto (-33), 3), (134, .iload 4, 2), (136, .ireturn, 1)]
theorem dkX12_plain : ∀ q ∈ pgX12_plain, decode cX12_plain q.1 = .ok q.2 := by decide +kernel
def b_X12_plain_98 (this : Nat) (a1 : Int32) (a2 : Int32) (x2 : Int32) (j134 : Int32 → PH → Option (Int32 × PH)) (rec98 : (Int32 × Int32) → PH → Option (Int32 × PH)) (s98 : Int32 × Int32) (hh98 : PH) : Option (Int32 × PH) :=
  ldI hh98 (rt this 0) 1200 (1 : Int32) (fun (x7 : Int32) => if x7 ≤ s98.2 then (j134 s98.1 hh98) else (lt (s98.1 + ((a2 >>> ((((x2 * s98.2) + a1) - (300 : Int32)) &&& 31)) &&& (1 : Int32))) (fun (x8 : Int32) => lt (s98.2 + Int32.ofInt 1) (fun (x9 : Int32) => rec98 (x8, x9) hh98))))
def b_X12_plain_61 (a1 : Int32) (a2 : Int32) (x2 : Int32) (j92 : Int32 → PH → Option (Int32 × PH)) (rec61 : (Int32 × Int32) → PH → Option (Int32 × PH)) (s61 : Int32 × Int32) (hh61 : PH) : Option (Int32 × PH) :=
  if x2 ≤ s61.2 then (j92 s61.1 hh61) else (lt (s61.1 + ((a2 >>> (((x2 * (a1 - (200 : Int32))) + s61.2) &&& 31)) &&& (1 : Int32))) (fun (x13 : Int32) => lt (s61.2 + Int32.ofInt 1) (fun (x14 : Int32) => rec61 (x13, x14) hh61)))
def f_X12_plain (this : Nat) (a1 : Int32) (a2 : Int32) (h0 : PH) : Option (Int32 × PH) :=
  if a1 < (1000 : Int32) then (if a1 = (400 : Int32) then (cb (f_X12_size a2 h0) (fun (r15 : Int32) (h16 : PH) => some (r15, h16))) else (ldI h0 (rt this 0) 1200 (2 : Int32) (fun (x1 : Int32) => lt x1 (fun (x2 : Int32) => if (200 : Int32) ≤ a1 then (lt (0 : Int32) (fun (x3 : Int32) => lt (fun (y4 : Int32) (h5 : PH) => some (y4, h5)) (fun (j134 : Int32 → PH → Option (Int32 × PH)) => if (300 : Int32) ≤ a1 then (lt (0 : Int32) (fun (x6 : Int32) => lp (b_X12_plain_98 this a1 a2 x2 j134) FU (x3, x6) h0)) else (lt (0 : Int32) (fun (x10 : Int32) => lt (fun (y11 : Int32) (h12 : PH) => j134 y11 h12) (fun (j92 : Int32 → PH → Option (Int32 × PH)) => lp (b_X12_plain_61 a1 a2 x2 j92) FU (x3, x10) h0)))))) else (some (((a2 >>> ((a1 - (100 : Int32)) &&& 31)) &&& (1 : Int32)), h0)))))) else (some ((a1 - (1000 : Int32)), h0))
set_option maxRecDepth 100000 in
set_option maxHeartbeats 4000000 in
theorem ct_X12_plain (l : Launch) (this : Nat) (a1 : Int32) (a2 : Int32) (h0 : PH) (hk : (kd this).1 = 12) : CT mkI l yX12_plain cX12_plain 6 (some .int) (rmd 1) [.ref this, .int a1, .int a2] h0 (f_X12_plain this a1 a2 h0) := by
  refine ct_of (by decide) (Nat.le_of_ble_eq_true rfl) ?_
  intro p e s m args below meth c D cA ad A X hr hlk
  have X : Cx p s m args c RX12 cX12_plain 6 D cA ad A := X
  unfold f_X12_plain
  refine so_pick (L' := [(0, .ref this), (1, .int a1), (2, .int a2)]) X [0, 1, 2] rfl ?_
  refine so_iload_n (i := 1) X 1 (dkX12_plain (0, .iload_n 1, 1) (pgm 0 rfl)) rfl rfl ?_
  refine so_sipush (v := (1000 : Int32)) X (dkX12_plain (1, .sipush 1000, 3) (pgm 1 rfl)) sp_1000 ?_
  refine so_icmp_lt (tgt := 13) X (dkX12_plain (4, .if_icmp .lt 9, 3) (pgm 2 rfl)) rfl (fun _ => ?_) (fun _ => ?_)
  · refine so_iload_n (i := 1) X 1 (dkX12_plain (13, .iload_n 1, 1) (pgm 7 rfl)) rfl rfl ?_
    refine so_sipush (v := (400 : Int32)) X (dkX12_plain (14, .sipush 400, 3) (pgm 8 rfl)) sp_400 ?_
    refine so_icmp_ne (tgt := 25) X (dkX12_plain (17, .if_icmp .ne 8, 3) (pgm 9 rfl)) rfl (fun _ => ?_) (fun _ => ?_)
    · refine so_aload_n (i := 0) X 0 (dkX12_plain (25, .aload_n 0, 1) (pgm 13 rfl)) rfl rfl ?_
      refine sf_getR X ff_12_0 lk_1702 hk (dkX12_plain (26, .getfield 9, 3) (pgm 14 rfl)) ?_
      refine so_iconst (v := (2 : Int32)) X (dkX12_plain (29, .iconst 2, 1) (pgm 15 rfl)) ic_2 ?_
      refine so_iald X (rk_12_0 this hk) (dkX12_plain (30, .iaload, 1) (pgm 16 rfl)) (fun x1 => ?_)
      refine so_istore_n (i := 3) X (dkX12_plain (31, .istore_n 3, 1) (pgm 17 rfl)) rfl (by decide) (Lf := fun x2 => [(3, .int x2), (0, .ref this), (1, .int a1), (2, .int a2)]) (fun _ => rfl) (fun x2 => ?_)
      refine so_iload_n (i := 1) X 2 (dkX12_plain (32, .iload_n 1, 1) (pgm 18 rfl)) rfl rfl ?_
      refine so_sipush (v := (200 : Int32)) X (dkX12_plain (33, .sipush 200, 3) (pgm 19 rfl)) sp_200 ?_
      refine so_icmp_ge (tgt := 48) X (dkX12_plain (36, .if_icmp .ge 12, 3) (pgm 20 rfl)) rfl (fun _ => ?_) (fun _ => ?_)
      · refine so_iconst (v := (0 : Int32)) X (dkX12_plain (48, .iconst 0, 1) (pgm 29 rfl)) ic_0 ?_
        refine so_istore (i := 4) X (dkX12_plain (49, .istore 4, 2) (pgm 30 rfl)) (by decide) (Lf := fun x3 => [(4, .int x3), (3, .int x2), (0, .ref this), (1, .int a1), (2, .int a2)]) (fun _ => rfl) (fun x3 => ?_)
        refine so_iload_n (i := 1) X 3 (dkX12_plain (51, .iload_n 1, 1) (pgm 31 rfl)) rfl rfl ?_
        refine so_sipush (v := (300 : Int32)) X (dkX12_plain (52, .sipush 300, 3) (pgm 32 rfl)) sp_300 ?_
        refine so_join (jf := fun (y4 : Int32) (h5 : PH) => some (y4, h5)) (fun (j : Int32 → PH → Option (Int32 × PH)) => ∀ (y4 : Int32) (h5 : PH), SWo (QM mkI below args s D cA ad A) p l e (rmd 1) s m args below meth c 0 0 6 D cA ad A 134 [(4, .int y4)] [] h5 (j y4 h5)) ?_ (fun j134 hj134 => ?_)
        · intro y4 h5
          refine so_iload (i := 4) X 0 (dkX12_plain (134, .iload 4, 2) (pgm 80 rfl)) rfl ?_
          exact so_iret X hr hlk (dkX12_plain (136, .ireturn, 1) (pgm 81 rfl))
        refine so_icmp_ge (tgt := 95) X (dkX12_plain (55, .if_icmp .ge 40, 3) (pgm 33 rfl)) rfl (fun _ => ?_) (fun _ => ?_)
        · refine so_iconst (v := (0 : Int32)) X (dkX12_plain (95, .iconst 0, 1) (pgm 56 rfl)) ic_0 ?_
          refine so_istore (i := 5) X (dkX12_plain (96, .istore 5, 2) (pgm 57 rfl)) (by decide) (Lf := fun x6 => [(5, .int x6), (4, .int x3), (3, .int x2), (0, .ref this), (1, .int a1), (2, .int a2)]) (fun _ => rfl) (fun x6 => ?_)
          refine so_pick (L' := [(0, .ref this), (1, .int a1), (2, .int a2), (3, .int x2), (4, .int x3), (5, .int x6)]) X [3, 4, 5, 2, 1, 0] rfl ?_
          refine so_loop (body := b_X12_plain_98 this a1 a2 x2 j134) (fun (s98 : Int32 × Int32) => [(0, .ref this), (1, .int a1), (2, .int a2), (3, .int x2), (4, .int s98.1), (5, .int s98.2)]) (fun rec98 hrec98 s98 hh98 => ?_) FU (x3, x6) h0
          unfold b_X12_plain_98
          refine so_iload (i := 5) X 5 (dkX12_plain (98, .iload 5, 2) (pgm 58 rfl)) rfl ?_
          refine so_aload_n (i := 0) X 0 (dkX12_plain (100, .aload_n 0, 1) (pgm 59 rfl)) rfl rfl ?_
          refine sf_getR X ff_12_0 lk_1702 hk (dkX12_plain (101, .getfield 9, 3) (pgm 60 rfl)) ?_
          refine so_iconst (v := (1 : Int32)) X (dkX12_plain (104, .iconst 1, 1) (pgm 61 rfl)) ic_1 ?_
          refine so_iald X (rk_12_0 this hk) (dkX12_plain (105, .iaload, 1) (pgm 62 rfl)) (fun x7 => ?_)
          refine so_icmp_ge (tgt := 134) X (dkX12_plain (106, .if_icmp .ge 28, 3) (pgm 63 rfl)) rfl (fun _ => ?_) (fun _ => ?_)
          · exact so_pick X [4] rfl (hj134 s98.1 hh98)
          · refine so_iload (i := 4) X 4 (dkX12_plain (109, .iload 4, 2) (pgm 64 rfl)) rfl ?_
            refine so_iload_n (i := 2) X 2 (dkX12_plain (111, .iload_n 2, 1) (pgm 65 rfl)) rfl rfl ?_
            refine so_iload_n (i := 3) X 3 (dkX12_plain (112, .iload_n 3, 1) (pgm 66 rfl)) rfl rfl ?_
            refine so_iload (i := 5) X 5 (dkX12_plain (113, .iload 5, 2) (pgm 67 rfl)) rfl ?_
            refine so_imul X (dkX12_plain (115, .imul, 1) (pgm 68 rfl)) ?_
            refine so_iload_n (i := 1) X 1 (dkX12_plain (116, .iload_n 1, 1) (pgm 69 rfl)) rfl rfl ?_
            refine so_iadd X (dkX12_plain (117, .iadd, 1) (pgm 70 rfl)) ?_
            refine so_sipush (v := (300 : Int32)) X (dkX12_plain (118, .sipush 300, 3) (pgm 71 rfl)) sp_300 ?_
            refine so_isub X (dkX12_plain (121, .isub, 1) (pgm 72 rfl)) ?_
            refine so_ishr X (dkX12_plain (122, .ishr, 1) (pgm 73 rfl)) ?_
            refine so_iconst (v := (1 : Int32)) X (dkX12_plain (123, .iconst 1, 1) (pgm 74 rfl)) ic_1 ?_
            refine so_iand X (dkX12_plain (124, .iand, 1) (pgm 75 rfl)) ?_
            refine so_iadd X (dkX12_plain (125, .iadd, 1) (pgm 76 rfl)) ?_
            refine so_istore (i := 4) X (dkX12_plain (126, .istore 4, 2) (pgm 77 rfl)) (by decide) (Lf := fun x8 => [(4, .int x8), (0, .ref this), (1, .int a1), (2, .int a2), (3, .int x2), (5, .int s98.2)]) (fun _ => rfl) (fun x8 => ?_)
            refine so_iinc (i := 5) X 5 (dkX12_plain (128, .iinc 5 1, 3) (pgm 78 rfl)) rfl rfl (by decide) (Lf := fun x9 => [(5, .int x9), (4, .int x8), (0, .ref this), (1, .int a1), (2, .int a2), (3, .int x2)]) (fun _ => rfl) (fun x9 => ?_)
            refine so_goto (tgt := 98) X (dkX12_plain (131, .goto (-33), 3) (pgm 79 rfl)) rfl ?_
            exact so_pick X [2, 3, 4, 5, 1, 0] rfl (hrec98 (x8, x9) hh98)
        · refine so_iconst (v := (0 : Int32)) X (dkX12_plain (58, .iconst 0, 1) (pgm 34 rfl)) ic_0 ?_
          refine so_istore (i := 5) X (dkX12_plain (59, .istore 5, 2) (pgm 35 rfl)) (by decide) (Lf := fun x10 => [(5, .int x10), (4, .int x3), (3, .int x2), (0, .ref this), (1, .int a1), (2, .int a2)]) (fun _ => rfl) (fun x10 => ?_)
          refine so_join (jf := fun (y11 : Int32) (h12 : PH) => j134 y11 h12) (fun (j : Int32 → PH → Option (Int32 × PH)) => ∀ (y11 : Int32) (h12 : PH), SWo (QM mkI below args s D cA ad A) p l e (rmd 1) s m args below meth c 0 0 6 D cA ad A 92 [(4, .int y11)] [] h12 (j y11 h12)) ?_ (fun j92 hj92 => ?_)
          · intro y11 h12
            refine so_goto (tgt := 134) X (dkX12_plain (92, .goto 42, 3) (pgm 55 rfl)) rfl ?_
            exact so_pick X [0] rfl (hj134 y11 h12)
          refine so_pick (L' := [(1, .int a1), (2, .int a2), (3, .int x2), (4, .int x3), (5, .int x10)]) X [4, 5, 2, 1, 0] rfl ?_
          refine so_loop (body := b_X12_plain_61 a1 a2 x2 j92) (fun (s61 : Int32 × Int32) => [(1, .int a1), (2, .int a2), (3, .int x2), (4, .int s61.1), (5, .int s61.2)]) (fun rec61 hrec61 s61 hh61 => ?_) FU (x3, x10) h0
          unfold b_X12_plain_61
          refine so_iload (i := 5) X 4 (dkX12_plain (61, .iload 5, 2) (pgm 36 rfl)) rfl ?_
          refine so_iload_n (i := 3) X 2 (dkX12_plain (63, .iload_n 3, 1) (pgm 37 rfl)) rfl rfl ?_
          refine so_icmp_ge (tgt := 92) X (dkX12_plain (64, .if_icmp .ge 28, 3) (pgm 38 rfl)) rfl (fun _ => ?_) (fun _ => ?_)
          · exact so_pick X [3] rfl (hj92 s61.1 hh61)
          · refine so_iload (i := 4) X 3 (dkX12_plain (67, .iload 4, 2) (pgm 39 rfl)) rfl ?_
            refine so_iload_n (i := 2) X 1 (dkX12_plain (69, .iload_n 2, 1) (pgm 40 rfl)) rfl rfl ?_
            refine so_iload_n (i := 3) X 2 (dkX12_plain (70, .iload_n 3, 1) (pgm 41 rfl)) rfl rfl ?_
            refine so_iload_n (i := 1) X 0 (dkX12_plain (71, .iload_n 1, 1) (pgm 42 rfl)) rfl rfl ?_
            refine so_sipush (v := (200 : Int32)) X (dkX12_plain (72, .sipush 200, 3) (pgm 43 rfl)) sp_200 ?_
            refine so_isub X (dkX12_plain (75, .isub, 1) (pgm 44 rfl)) ?_
            refine so_imul X (dkX12_plain (76, .imul, 1) (pgm 45 rfl)) ?_
            refine so_iload (i := 5) X 4 (dkX12_plain (77, .iload 5, 2) (pgm 46 rfl)) rfl ?_
            refine so_iadd X (dkX12_plain (79, .iadd, 1) (pgm 47 rfl)) ?_
            refine so_ishr X (dkX12_plain (80, .ishr, 1) (pgm 48 rfl)) ?_
            refine so_iconst (v := (1 : Int32)) X (dkX12_plain (81, .iconst 1, 1) (pgm 49 rfl)) ic_1 ?_
            refine so_iand X (dkX12_plain (82, .iand, 1) (pgm 50 rfl)) ?_
            refine so_iadd X (dkX12_plain (83, .iadd, 1) (pgm 51 rfl)) ?_
            refine so_istore (i := 4) X (dkX12_plain (84, .istore 4, 2) (pgm 52 rfl)) (by decide) (Lf := fun x13 => [(4, .int x13), (1, .int a1), (2, .int a2), (3, .int x2), (5, .int s61.2)]) (fun _ => rfl) (fun x13 => ?_)
            refine so_iinc (i := 5) X 4 (dkX12_plain (86, .iinc 5 1, 3) (pgm 53 rfl)) rfl rfl (by decide) (Lf := fun x14 => [(5, .int x14), (4, .int x13), (1, .int a1), (2, .int a2), (3, .int x2)]) (fun _ => rfl) (fun x14 => ?_)
            refine so_goto (tgt := 61) X (dkX12_plain (89, .goto (-28), 3) (pgm 54 rfl)) rfl ?_
            exact so_pick X [2, 3, 4, 1, 0] rfl (hrec61 (x13, x14) hh61)
      · refine so_iload_n (i := 2) X 3 (dkX12_plain (39, .iload_n 2, 1) (pgm 21 rfl)) rfl rfl ?_
        refine so_iload_n (i := 1) X 2 (dkX12_plain (40, .iload_n 1, 1) (pgm 22 rfl)) rfl rfl ?_
        refine so_bipush (v := (100 : Int32)) X (dkX12_plain (41, .bipush 100, 2) (pgm 23 rfl)) bp_100 ?_
        refine so_isub X (dkX12_plain (43, .isub, 1) (pgm 24 rfl)) ?_
        refine so_ishr X (dkX12_plain (44, .ishr, 1) (pgm 25 rfl)) ?_
        refine so_iconst (v := (1 : Int32)) X (dkX12_plain (45, .iconst 1, 1) (pgm 26 rfl)) ic_1 ?_
        refine so_iand X (dkX12_plain (46, .iand, 1) (pgm 27 rfl)) ?_
        exact so_iret X hr hlk (dkX12_plain (47, .ireturn, 1) (pgm 28 rfl))
    · refine so_iload_n (i := 2) X 2 (dkX12_plain (20, .iload_n 2, 1) (pgm 10 rfl)) rfl rfl ?_
      refine so_callS (n := 1) (As := [.int a2]) X (ct_X12_size l a2 h0 ) lk_1687 lk_1688 lk_134 lk_1689 (by decide +kernel) rfl rfl rfl (rm_ok (by omega) (by decide)) ⟨Nat.zero_le _, Nat.zero_le _⟩ (Nat.le_of_ble_eq_true rfl) (dkX12_plain (21, .invokestatic 269, 3) (pgm 11 rfl)) (fun r15 h16 => ?_) rfl
      exact so_iret X hr hlk (dkX12_plain (24, .ireturn, 1) (pgm 12 rfl))
  · refine so_iload_n (i := 1) X 1 (dkX12_plain (7, .iload_n 1, 1) (pgm 3 rfl)) rfl rfl ?_
    refine so_sipush (v := (1000 : Int32)) X (dkX12_plain (8, .sipush 1000, 3) (pgm 4 rfl)) sp_1000 ?_
    refine so_isub X (dkX12_plain (11, .isub, 1) (pgm 5 rfl)) ?_
    exact so_iret X hr hlk (dkX12_plain (12, .ireturn, 1) (pgm 6 rfl))
def pgX12_worksOut : List (Nat × Instr × Nat) := [(0, .iconst 0, 1), (1, .istore_n 3, 1), (2, .aload_n 0, 1), (3, .getfield 9, 3), (6, .bipush 54, 2), (8, .iload_n 1, 1), (9, .iadd, 1), (10, .iaload, 1), (11, .istore 4, 2), (13, .iload 4, 2), (15, .aload_n 0, 1), (16, .getfield 9, 3), (19, .bipush 54, 2), (21, .iload_n 1, 1), (22, .iadd, 1), (23, .iconst 1, 1), (24, .iadd, 1), (25, .iaload, 1), (26, .if_icmp .ge 108, 3), (29, .aload_n 0, 1), (30, .getfield 9, 3), (33, .sipush 236, 3), (36, .iload 4, 2), (38, .iadd, 1), (39, .iaload, 1), (40, .istore 5, 2), (42, .iload 5, 2), (44, .bipush 100, 2), (46, .if_icmp .lt 22, 3), (49, .aload_n 0, 1), (50, .getfield 40, 3), (53, .iload_n 3, 1), (54, .aload_n 0, 1), (55, .iload 5, 2), (57, .iload_n 2, 1), (58, .invokevirtual 272, 3), (61, .iastore, 1), (62, .iinc 3 1, 3), (65, .goto 63, 3), (68, .iload 5, 2), (70, .bipush 18, 2), (72, .if_icmp .ne 24, 3), (75, .aload_n 0, 1), (76, .getfield 40, 3), (79, .iload_n 3, 1), (80, .iconst 1, 1), (81, .isub, 1), (82, .iconst 1, 1), (83, .aload_n 0, 1), (84, .getfield 40, 3), (87, .iload_n 3, 1), (88, .iconst 1, 1), (89, .isub, 1), (90, .iaload, 1), (91, .isub, 1), (92, .iastore, 1), (93, .goto 35, 3), (96, .iinc 3 (-1), 3), (99, .aload_n 0, 1), (100, .getfield 40, 3), (103, .iload_n 3, 1), (104, .iconst 1, 1), (105, .isub, 1), (106, .iload 5, 2), (108, .aload_n 0, 1), (109, .getfield 40, 3), (112, .iload_n 3, 1), (113, .iconst 1, 1), (114, .isub, 1), (115, .iaload, 1), (116, .i2l, 1), (117, .aload_n 0, 1), (118, .getfield 40, 3), (121, .iload_n 3, 1), (122, .iaload, 1), (123, .i2l, 1), (124, .invokestatic 275, 3), (127, .iastore, 1), (128, .iinc 4 1, 3), (131, .goto (-118), 3), (134, .aload_n 0, 1), (135, .getfield 40, 3), (138, .iconst 0, 1), (139, .iaload, 1), (140, .iconst 1, 1), (141, .if_icmp .ne 7, 3), (144, .iconst 1, 1), (145, .goto 4, 3), (148, .iconst 0, 1), (149, .ireturn, 1)]
theorem dkX12_worksOut : ∀ q ∈ pgX12_worksOut, decode cX12_worksOut q.1 = .ok q.2 := by decide +kernel
def b_X12_worksOut_13 (this : Nat) (a1 : Int32) (a2 : Int32) (j134 : PH → Option (Int32 × PH)) (rec13 : (Int32 × Int32) → PH → Option (Int32 × PH)) (s13 : Int32 × Int32) (hh13 : PH) : Option (Int32 × PH) :=
  ldI hh13 (rt this 0) 1200 (((54 : Int32) + a1) + (1 : Int32)) (fun (x8 : Int32) => if x8 ≤ s13.2 then (j134 hh13) else (ldI hh13 (rt this 0) 1200 ((236 : Int32) + s13.2) (fun (x9 : Int32) => lt x9 (fun (x10 : Int32) => lt (fun (y11 : Int32) (h12 : PH) => lt (s13.2 + Int32.ofInt 1) (fun (x13 : Int32) => rec13 (y11, x13) h12)) (fun (j128 : Int32 → PH → Option (Int32 × PH)) => if x10 < (100 : Int32) then (if x10 = (18 : Int32) then (ldI hh13 (rt this 20) 64 (s13.1 - (1 : Int32)) (fun (x20 : Int32) => stI hh13 (rt this 20) 64 (s13.1 - (1 : Int32)) ((1 : Int32) - x20) (fun (h21 : PH) => j128 s13.1 h21))) else (lt (s13.1 + Int32.ofInt (-1)) (fun (x14 : Int32) => ldI hh13 (rt this 20) 64 (x14 - (1 : Int32)) (fun (x15 : Int32) => ldI hh13 (rt this 20) 64 x14 (fun (x16 : Int32) => cb (f_X12_done x10 x15.toInt64 x16.toInt64 hh13) (fun (r17 : Int32) (h18 : PH) => stI h18 (rt this 20) 64 (x14 - (1 : Int32)) r17 (fun (h19 : PH) => j128 x14 h19))))))) else (cb (f_X12_plain this x10 a2 hh13) (fun (r22 : Int32) (h23 : PH) => stI h23 (rt this 20) 64 s13.1 r22 (fun (h24 : PH) => lt (s13.1 + Int32.ofInt 1) (fun (x25 : Int32) => j128 x25 h24)))))))))
def f_X12_worksOut (this : Nat) (a1 : Int32) (a2 : Int32) (h0 : PH) : Option (Int32 × PH) :=
  lt (0 : Int32) (fun (x1 : Int32) => ldI h0 (rt this 0) 1200 ((54 : Int32) + a1) (fun (x2 : Int32) => lt x2 (fun (x3 : Int32) => lt (fun (h4 : PH) => ldI h4 (rt this 20) 64 (0 : Int32) (fun (x5 : Int32) => lt (fun (t6 : Int32) (h7 : PH) => zr t6 h7) (fun (j149 : Int32 → PH → Option (Int32 × PH)) => if x5 = (1 : Int32) then (j149 (1 : Int32) h4) else (j149 (0 : Int32) h4)))) (fun (j134 : PH → Option (Int32 × PH)) => lp (b_X12_worksOut_13 this a1 a2 j134) FU (x1, x3) h0))))
set_option maxRecDepth 100000 in
set_option maxHeartbeats 4000000 in
theorem ct_X12_worksOut (l : Launch) (this : Nat) (a1 : Int32) (a2 : Int32) (h0 : PH) (hk : (kd this).1 = 12) : CT mkI l yX12_worksOut cX12_worksOut 6 (some .boolean) (rmd 3) [.ref this, .int a1, .int a2] h0 (f_X12_worksOut this a1 a2 h0) := by
  refine ct_of (by decide) (Nat.le_of_ble_eq_true rfl) ?_
  intro p e s m args below meth c D cA ad A X hr hlk
  have X : Cx p s m args c RX12 cX12_worksOut 6 D cA ad A := X
  unfold f_X12_worksOut
  refine so_pick (L' := [(0, .ref this), (1, .int a1), (2, .int a2)]) X [0, 1, 2] rfl ?_
  refine so_iconst (v := (0 : Int32)) X (dkX12_worksOut (0, .iconst 0, 1) (pgm 0 rfl)) ic_0 ?_
  refine so_istore_n (i := 3) X (dkX12_worksOut (1, .istore_n 3, 1) (pgm 1 rfl)) rfl (by decide) (Lf := fun x1 => [(3, .int x1), (0, .ref this), (1, .int a1), (2, .int a2)]) (fun _ => rfl) (fun x1 => ?_)
  refine so_aload_n (i := 0) X 1 (dkX12_worksOut (2, .aload_n 0, 1) (pgm 2 rfl)) rfl rfl ?_
  refine sf_getR X ff_12_0 lk_1702 hk (dkX12_worksOut (3, .getfield 9, 3) (pgm 3 rfl)) ?_
  refine so_bipush (v := (54 : Int32)) X (dkX12_worksOut (6, .bipush 54, 2) (pgm 4 rfl)) bp_54 ?_
  refine so_iload_n (i := 1) X 2 (dkX12_worksOut (8, .iload_n 1, 1) (pgm 5 rfl)) rfl rfl ?_
  refine so_iadd X (dkX12_worksOut (9, .iadd, 1) (pgm 6 rfl)) ?_
  refine so_iald X (rk_12_0 this hk) (dkX12_worksOut (10, .iaload, 1) (pgm 7 rfl)) (fun x2 => ?_)
  refine so_istore (i := 4) X (dkX12_worksOut (11, .istore 4, 2) (pgm 8 rfl)) (by decide) (Lf := fun x3 => [(4, .int x3), (3, .int x1), (0, .ref this), (1, .int a1), (2, .int a2)]) (fun _ => rfl) (fun x3 => ?_)
  refine so_join (jf := fun (h4 : PH) => ldI h4 (rt this 20) 64 (0 : Int32) (fun (x5 : Int32) => lt (fun (t6 : Int32) (h7 : PH) => zr t6 h7) (fun (j149 : Int32 → PH → Option (Int32 × PH)) => if x5 = (1 : Int32) then (j149 (1 : Int32) h4) else (j149 (0 : Int32) h4)))) (fun (j : PH → Option (Int32 × PH)) => ∀  (h4 : PH), SWo (QM mkI below args s D cA ad A) p l e (rmd 3) s m args below meth c 0 0 6 D cA ad A 134 [(0, .ref this)] [] h4 (j h4)) ?_ (fun j134 hj134 => ?_)
  · intro h4
    refine so_aload_n (i := 0) X 0 (dkX12_worksOut (134, .aload_n 0, 1) (pgm 80 rfl)) rfl rfl ?_
    refine sf_getR X ff_12_20 lk_1722 hk (dkX12_worksOut (135, .getfield 40, 3) (pgm 81 rfl)) ?_
    refine so_iconst (v := (0 : Int32)) X (dkX12_worksOut (138, .iconst 0, 1) (pgm 82 rfl)) ic_0 ?_
    refine so_iald X (rk_12_20 this hk) (dkX12_worksOut (139, .iaload, 1) (pgm 83 rfl)) (fun x5 => ?_)
    refine so_iconst (v := (1 : Int32)) X (dkX12_worksOut (140, .iconst 1, 1) (pgm 84 rfl)) ic_1 ?_
    refine so_join (jf := fun (t6 : Int32) (h7 : PH) => zr t6 h7) (fun (j : Int32 → PH → Option (Int32 × PH)) => ∀ (t6 : Int32) (h7 : PH), SWo (QM mkI below args s D cA ad A) p l e (rmd 3) s m args below meth c 0 0 6 D cA ad A 149 [] [.int t6] h7 (j t6 h7)) ?_ (fun j149 hj149 => ?_)
    · intro t6 h7
      exact so_zret X hr hlk (dkX12_worksOut (149, .ireturn, 1) (pgm 89 rfl))
    refine so_icmp_ne (tgt := 148) X (dkX12_worksOut (141, .if_icmp .ne 7, 3) (pgm 85 rfl)) rfl (fun _ => ?_) (fun _ => ?_)
    · refine so_iconst (v := (0 : Int32)) X (dkX12_worksOut (148, .iconst 0, 1) (pgm 88 rfl)) ic_0 ?_
      exact so_pick X [] rfl (hj149 (0 : Int32) h4)
    · refine so_iconst (v := (1 : Int32)) X (dkX12_worksOut (144, .iconst 1, 1) (pgm 86 rfl)) ic_1 ?_
      refine so_goto (tgt := 149) X (dkX12_worksOut (145, .goto 4, 3) (pgm 87 rfl)) rfl ?_
      exact so_pick X [] rfl (hj149 (1 : Int32) h4)
  refine so_pick (L' := [(0, .ref this), (1, .int a1), (2, .int a2), (3, .int x1), (4, .int x3)]) X [2, 3, 4, 1, 0] rfl ?_
  refine so_loop (body := b_X12_worksOut_13 this a1 a2 j134) (fun (s13 : Int32 × Int32) => [(0, .ref this), (1, .int a1), (2, .int a2), (3, .int s13.1), (4, .int s13.2)]) (fun rec13 hrec13 s13 hh13 => ?_) FU (x1, x3) h0
  unfold b_X12_worksOut_13
  refine so_iload (i := 4) X 4 (dkX12_worksOut (13, .iload 4, 2) (pgm 9 rfl)) rfl ?_
  refine so_aload_n (i := 0) X 0 (dkX12_worksOut (15, .aload_n 0, 1) (pgm 10 rfl)) rfl rfl ?_
  refine sf_getR X ff_12_0 lk_1702 hk (dkX12_worksOut (16, .getfield 9, 3) (pgm 11 rfl)) ?_
  refine so_bipush (v := (54 : Int32)) X (dkX12_worksOut (19, .bipush 54, 2) (pgm 12 rfl)) bp_54 ?_
  refine so_iload_n (i := 1) X 1 (dkX12_worksOut (21, .iload_n 1, 1) (pgm 13 rfl)) rfl rfl ?_
  refine so_iadd X (dkX12_worksOut (22, .iadd, 1) (pgm 14 rfl)) ?_
  refine so_iconst (v := (1 : Int32)) X (dkX12_worksOut (23, .iconst 1, 1) (pgm 15 rfl)) ic_1 ?_
  refine so_iadd X (dkX12_worksOut (24, .iadd, 1) (pgm 16 rfl)) ?_
  refine so_iald X (rk_12_0 this hk) (dkX12_worksOut (25, .iaload, 1) (pgm 17 rfl)) (fun x8 => ?_)
  refine so_icmp_ge (tgt := 134) X (dkX12_worksOut (26, .if_icmp .ge 108, 3) (pgm 18 rfl)) rfl (fun _ => ?_) (fun _ => ?_)
  · exact so_pick X [0] rfl (hj134 hh13)
  · refine so_aload_n (i := 0) X 0 (dkX12_worksOut (29, .aload_n 0, 1) (pgm 19 rfl)) rfl rfl ?_
    refine sf_getR X ff_12_0 lk_1702 hk (dkX12_worksOut (30, .getfield 9, 3) (pgm 20 rfl)) ?_
    refine so_sipush (v := (236 : Int32)) X (dkX12_worksOut (33, .sipush 236, 3) (pgm 21 rfl)) sp_236 ?_
    refine so_iload (i := 4) X 4 (dkX12_worksOut (36, .iload 4, 2) (pgm 22 rfl)) rfl ?_
    refine so_iadd X (dkX12_worksOut (38, .iadd, 1) (pgm 23 rfl)) ?_
    refine so_iald X (rk_12_0 this hk) (dkX12_worksOut (39, .iaload, 1) (pgm 24 rfl)) (fun x9 => ?_)
    refine so_istore (i := 5) X (dkX12_worksOut (40, .istore 5, 2) (pgm 25 rfl)) (by decide) (Lf := fun x10 => [(5, .int x10), (0, .ref this), (1, .int a1), (2, .int a2), (3, .int s13.1), (4, .int s13.2)]) (fun _ => rfl) (fun x10 => ?_)
    refine so_iload (i := 5) X 0 (dkX12_worksOut (42, .iload 5, 2) (pgm 26 rfl)) rfl ?_
    refine so_bipush (v := (100 : Int32)) X (dkX12_worksOut (44, .bipush 100, 2) (pgm 27 rfl)) bp_100 ?_
    refine so_join (jf := fun (y11 : Int32) (h12 : PH) => lt (s13.2 + Int32.ofInt 1) (fun (x13 : Int32) => rec13 (y11, x13) h12)) (fun (j : Int32 → PH → Option (Int32 × PH)) => ∀ (y11 : Int32) (h12 : PH), SWo (QM mkI below args s D cA ad A) p l e (rmd 3) s m args below meth c 0 0 6 D cA ad A 128 [(0, .ref this), (1, .int a1), (2, .int a2), (3, .int y11), (4, .int s13.2)] [] h12 (j y11 h12)) ?_ (fun j128 hj128 => ?_)
    · intro y11 h12
      refine so_iinc (i := 4) X 4 (dkX12_worksOut (128, .iinc 4 1, 3) (pgm 78 rfl)) rfl rfl (by decide) (Lf := fun x13 => [(4, .int x13), (0, .ref this), (1, .int a1), (2, .int a2), (3, .int y11)]) (fun _ => rfl) (fun x13 => ?_)
      refine so_goto (tgt := 13) X (dkX12_worksOut (131, .goto (-118), 3) (pgm 79 rfl)) rfl ?_
      exact so_pick X [1, 2, 3, 4, 0] rfl (hrec13 (y11, x13) h12)
    refine so_icmp_lt (tgt := 68) X (dkX12_worksOut (46, .if_icmp .lt 22, 3) (pgm 28 rfl)) rfl (fun _ => ?_) (fun _ => ?_)
    · refine so_iload (i := 5) X 0 (dkX12_worksOut (68, .iload 5, 2) (pgm 39 rfl)) rfl ?_
      refine so_bipush (v := (18 : Int32)) X (dkX12_worksOut (70, .bipush 18, 2) (pgm 40 rfl)) bp_18 ?_
      refine so_icmp_ne (tgt := 96) X (dkX12_worksOut (72, .if_icmp .ne 24, 3) (pgm 41 rfl)) rfl (fun _ => ?_) (fun _ => ?_)
      · refine so_iinc (i := 3) X 4 (dkX12_worksOut (96, .iinc 3 (-1), 3) (pgm 57 rfl)) rfl rfl (by decide) (Lf := fun x14 => [(3, .int x14), (5, .int x10), (0, .ref this), (1, .int a1), (2, .int a2), (4, .int s13.2)]) (fun _ => rfl) (fun x14 => ?_)
        refine so_aload_n (i := 0) X 2 (dkX12_worksOut (99, .aload_n 0, 1) (pgm 58 rfl)) rfl rfl ?_
        refine sf_getR X ff_12_20 lk_1722 hk (dkX12_worksOut (100, .getfield 40, 3) (pgm 59 rfl)) ?_
        refine so_iload_n (i := 3) X 0 (dkX12_worksOut (103, .iload_n 3, 1) (pgm 60 rfl)) rfl rfl ?_
        refine so_iconst (v := (1 : Int32)) X (dkX12_worksOut (104, .iconst 1, 1) (pgm 61 rfl)) ic_1 ?_
        refine so_isub X (dkX12_worksOut (105, .isub, 1) (pgm 62 rfl)) ?_
        refine so_iload (i := 5) X 1 (dkX12_worksOut (106, .iload 5, 2) (pgm 63 rfl)) rfl ?_
        refine so_aload_n (i := 0) X 2 (dkX12_worksOut (108, .aload_n 0, 1) (pgm 64 rfl)) rfl rfl ?_
        refine sf_getR X ff_12_20 lk_1722 hk (dkX12_worksOut (109, .getfield 40, 3) (pgm 65 rfl)) ?_
        refine so_iload_n (i := 3) X 0 (dkX12_worksOut (112, .iload_n 3, 1) (pgm 66 rfl)) rfl rfl ?_
        refine so_iconst (v := (1 : Int32)) X (dkX12_worksOut (113, .iconst 1, 1) (pgm 67 rfl)) ic_1 ?_
        refine so_isub X (dkX12_worksOut (114, .isub, 1) (pgm 68 rfl)) ?_
        refine so_iald X (rk_12_20 this hk) (dkX12_worksOut (115, .iaload, 1) (pgm 69 rfl)) (fun x15 => ?_)
        refine so_i2l X (dkX12_worksOut (116, .i2l, 1) (pgm 70 rfl)) ?_
        refine so_aload_n (i := 0) X 2 (dkX12_worksOut (117, .aload_n 0, 1) (pgm 71 rfl)) rfl rfl ?_
        refine sf_getR X ff_12_20 lk_1722 hk (dkX12_worksOut (118, .getfield 40, 3) (pgm 72 rfl)) ?_
        refine so_iload_n (i := 3) X 0 (dkX12_worksOut (121, .iload_n 3, 1) (pgm 73 rfl)) rfl rfl ?_
        refine so_iald X (rk_12_20 this hk) (dkX12_worksOut (122, .iaload, 1) (pgm 74 rfl)) (fun x16 => ?_)
        refine so_i2l X (dkX12_worksOut (123, .i2l, 1) (pgm 75 rfl)) ?_
        refine so_callS (n := 3) (As := [.int x10, .long x15.toInt64, .long x16.toInt64]) X (ct_X12_done l x10 x15.toInt64 x16.toInt64 hh13 ) lk_1690 lk_1691 lk_134 lk_1692 (by decide +kernel) rfl rfl rfl (rm_ok (by omega) (by decide)) ⟨Nat.zero_le _, Nat.zero_le _⟩ (Nat.le_of_ble_eq_true rfl) (dkX12_worksOut (124, .invokestatic 275, 3) (pgm 76 rfl)) (fun r17 h18 => ?_) rfl
        refine so_iast X (rk_12_20 this hk) (dkX12_worksOut (127, .iastore, 1) (pgm 77 rfl)) (fun h19 => ?_)
        exact so_pick X [2, 3, 4, 0, 5] rfl (hj128 x14 h19)
      · refine so_aload_n (i := 0) X 1 (dkX12_worksOut (75, .aload_n 0, 1) (pgm 42 rfl)) rfl rfl ?_
        refine sf_getR X ff_12_20 lk_1722 hk (dkX12_worksOut (76, .getfield 40, 3) (pgm 43 rfl)) ?_
        refine so_iload_n (i := 3) X 4 (dkX12_worksOut (79, .iload_n 3, 1) (pgm 44 rfl)) rfl rfl ?_
        refine so_iconst (v := (1 : Int32)) X (dkX12_worksOut (80, .iconst 1, 1) (pgm 45 rfl)) ic_1 ?_
        refine so_isub X (dkX12_worksOut (81, .isub, 1) (pgm 46 rfl)) ?_
        refine so_iconst (v := (1 : Int32)) X (dkX12_worksOut (82, .iconst 1, 1) (pgm 47 rfl)) ic_1 ?_
        refine so_aload_n (i := 0) X 1 (dkX12_worksOut (83, .aload_n 0, 1) (pgm 48 rfl)) rfl rfl ?_
        refine sf_getR X ff_12_20 lk_1722 hk (dkX12_worksOut (84, .getfield 40, 3) (pgm 49 rfl)) ?_
        refine so_iload_n (i := 3) X 4 (dkX12_worksOut (87, .iload_n 3, 1) (pgm 50 rfl)) rfl rfl ?_
        refine so_iconst (v := (1 : Int32)) X (dkX12_worksOut (88, .iconst 1, 1) (pgm 51 rfl)) ic_1 ?_
        refine so_isub X (dkX12_worksOut (89, .isub, 1) (pgm 52 rfl)) ?_
        refine so_iald X (rk_12_20 this hk) (dkX12_worksOut (90, .iaload, 1) (pgm 53 rfl)) (fun x20 => ?_)
        refine so_isub X (dkX12_worksOut (91, .isub, 1) (pgm 54 rfl)) ?_
        refine so_iast X (rk_12_20 this hk) (dkX12_worksOut (92, .iastore, 1) (pgm 55 rfl)) (fun h21 => ?_)
        refine so_goto (tgt := 128) X (dkX12_worksOut (93, .goto 35, 3) (pgm 56 rfl)) rfl ?_
        exact so_pick X [1, 2, 3, 4, 5] rfl (hj128 s13.1 h21)
    · refine so_aload_n (i := 0) X 1 (dkX12_worksOut (49, .aload_n 0, 1) (pgm 29 rfl)) rfl rfl ?_
      refine sf_getR X ff_12_20 lk_1722 hk (dkX12_worksOut (50, .getfield 40, 3) (pgm 30 rfl)) ?_
      refine so_iload_n (i := 3) X 4 (dkX12_worksOut (53, .iload_n 3, 1) (pgm 31 rfl)) rfl rfl ?_
      refine so_aload_n (i := 0) X 1 (dkX12_worksOut (54, .aload_n 0, 1) (pgm 32 rfl)) rfl rfl ?_
      refine so_iload (i := 5) X 0 (dkX12_worksOut (55, .iload 5, 2) (pgm 33 rfl)) rfl ?_
      refine so_iload_n (i := 2) X 3 (dkX12_worksOut (57, .iload_n 2, 1) (pgm 34 rfl)) rfl rfl ?_
      refine so_callV (n := 2) (As := [.int x10, .int a2]) X (ct_X12_plain l this x10 a2 hh13 hk) hk (by decide) rfl lk_1683 lk_1685 lk_60 lk_134 lk_1686 (by decide +kernel) rfl rfl rfl (rm_ok (by omega) (by decide)) ⟨Nat.zero_le _, Nat.zero_le _⟩ (Nat.le_of_ble_eq_true rfl) (dkX12_worksOut (58, .invokevirtual 272, 3) (pgm 35 rfl)) (fun r22 h23 => ?_) rfl
      refine so_iast X (rk_12_20 this hk) (dkX12_worksOut (61, .iastore, 1) (pgm 36 rfl)) (fun h24 => ?_)
      refine so_iinc (i := 3) X 4 (dkX12_worksOut (62, .iinc 3 1, 3) (pgm 37 rfl)) rfl rfl (by decide) (Lf := fun x25 => [(3, .int x25), (5, .int x10), (0, .ref this), (1, .int a1), (2, .int a2), (4, .int s13.2)]) (fun _ => rfl) (fun x25 => ?_)
      refine so_goto (tgt := 128) X (dkX12_worksOut (65, .goto 63, 3) (pgm 38 rfl)) rfl ?_
      exact so_pick X [2, 3, 4, 0, 5] rfl (hj128 x25 h24)
def pgX12_blown : List (Nat × Instr × Nat) := [(0, .iload_n 1, 1), (1, .istore_n 2, 1), (2, .aload_n 0, 1), (3, .getfield 9, 3), (6, .iconst 2, 1), (7, .iaload, 1), (8, .istore_n 3, 1), (9, .iconst 0, 1), (10, .istore 4, 2), (12, .iload 4, 2), (14, .aload_n 0, 1), (15, .invokevirtual 249, 3), (18, .if_icmp .ge 77, 3), (21, .aload_n 0, 1), (22, .getfield 9, 3), (25, .iconst 4, 1), (26, .iaload, 1), (27, .ifCond .le 68, 3), (30, .iload 4, 2), (32, .iload_n 3, 1), (33, .idiv, 1), (34, .aload_n 0, 1), (35, .getfield 9, 3), (38, .iconst 4, 1), (39, .iaload, 1), (40, .iadd, 1), (41, .istore 5, 2), (43, .iload 4, 2), (45, .iload_n 3, 1), (46, .irem, 1), (47, .iconst 1, 1), (48, .iadd, 1), (49, .istore 6, 2), (51, .iload_n 1, 1), (52, .iload 4, 2), (54, .invokestatic 279, 3), (57, .ifCond .eq 32, 3), (60, .iload 5, 2), (62, .aload_n 0, 1), (63, .getfield 9, 3), (66, .iconst 1, 1), (67, .iaload, 1), (68, .if_icmp .ge 21, 3), (71, .iload 6, 2), (73, .iload_n 3, 1), (74, .if_icmp .ge 15, 3), (77, .iload_n 2, 1), (78, .iconst 1, 1), (79, .iload_n 3, 1), (80, .iload 5, 2), (82, .imul, 1), (83, .iload 6, 2), (85, .iadd, 1), (86, .ishl, 1), (87, .ior, 1), (88, .istore_n 2, 1), (89, .iinc 4 1, 3), (92, .goto (-80), 3), (95, .iload_n 2, 1), (96, .ireturn, 1)]
theorem dkX12_blown : ∀ q ∈ pgX12_blown, decode cX12_blown q.1 = .ok q.2 := by decide +kernel
def b_X12_blown_12 (this : Nat) (a1 : Int32) (x3 : Int32) (j95 : Int32 → PH → Option (Int32 × PH)) (rec12 : (Int32 × Int32) → PH → Option (Int32 × PH)) (s12 : Int32 × Int32) (hh12 : PH) : Option (Int32 × PH) :=
  cb (f_X12_cells this hh12) (fun (r7 : Int32) (h8 : PH) => if r7 ≤ s12.2 then (j95 s12.1 h8) else (ldI h8 (rt this 0) 1200 (4 : Int32) (fun (x9 : Int32) => if x9 ≤ 0 then (j95 s12.1 h8) else (nz x3 (ldI h8 (rt this 0) 1200 (4 : Int32) (fun (x10 : Int32) => lt ((s12.2 / x3) + x10) (fun (x11 : Int32) => nz x3 (lt ((s12.2 - s12.2 / x3 * x3) + (1 : Int32)) (fun (x12 : Int32) => cb (f_X12_has a1 s12.2 h8) (fun (r13 : Int32) (h14 : PH) => lt (fun (y15 : Int32) (h16 : PH) => lt (s12.2 + Int32.ofInt 1) (fun (x17 : Int32) => rec12 (y15, x17) h16)) (fun (j89 : Int32 → PH → Option (Int32 × PH)) => if r13 = 0 then (j89 s12.1 h14) else (ldI h14 (rt this 0) 1200 (1 : Int32) (fun (x18 : Int32) => if x18 ≤ x11 then (j89 s12.1 h14) else (if x3 ≤ x12 then (j89 s12.1 h14) else (lt (s12.1 ||| ((1 : Int32) <<< (((x3 * x11) + x12) &&& 31))) (fun (x19 : Int32) => j89 x19 h14))))))))))))))))
def f_X12_blown (this : Nat) (a1 : Int32) (h0 : PH) : Option (Int32 × PH) :=
  lt a1 (fun (x1 : Int32) => ldI h0 (rt this 0) 1200 (2 : Int32) (fun (x2 : Int32) => lt x2 (fun (x3 : Int32) => lt (0 : Int32) (fun (x4 : Int32) => lt (fun (y5 : Int32) (h6 : PH) => some (y5, h6)) (fun (j95 : Int32 → PH → Option (Int32 × PH)) => lp (b_X12_blown_12 this a1 x3 j95) FU (x1, x4) h0)))))
set_option maxRecDepth 100000 in
set_option maxHeartbeats 4000000 in
theorem ct_X12_blown (l : Launch) (this : Nat) (a1 : Int32) (h0 : PH) (hk : (kd this).1 = 12) : CT mkI l yX12_blown cX12_blown 7 (some .int) (rmd 1) [.ref this, .int a1] h0 (f_X12_blown this a1 h0) := by
  refine ct_of (by decide) (Nat.le_of_ble_eq_true rfl) ?_
  intro p e s m args below meth c D cA ad A X hr hlk
  have X : Cx p s m args c RX12 cX12_blown 7 D cA ad A := X
  unfold f_X12_blown
  refine so_pick (L' := [(0, .ref this), (1, .int a1)]) X [0, 1] rfl ?_
  refine so_iload_n (i := 1) X 1 (dkX12_blown (0, .iload_n 1, 1) (pgm 0 rfl)) rfl rfl ?_
  refine so_istore_n (i := 2) X (dkX12_blown (1, .istore_n 2, 1) (pgm 1 rfl)) rfl (by decide) (Lf := fun x1 => [(2, .int x1), (0, .ref this), (1, .int a1)]) (fun _ => rfl) (fun x1 => ?_)
  refine so_aload_n (i := 0) X 1 (dkX12_blown (2, .aload_n 0, 1) (pgm 2 rfl)) rfl rfl ?_
  refine sf_getR X ff_12_0 lk_1702 hk (dkX12_blown (3, .getfield 9, 3) (pgm 3 rfl)) ?_
  refine so_iconst (v := (2 : Int32)) X (dkX12_blown (6, .iconst 2, 1) (pgm 4 rfl)) ic_2 ?_
  refine so_iald X (rk_12_0 this hk) (dkX12_blown (7, .iaload, 1) (pgm 5 rfl)) (fun x2 => ?_)
  refine so_istore_n (i := 3) X (dkX12_blown (8, .istore_n 3, 1) (pgm 6 rfl)) rfl (by decide) (Lf := fun x3 => [(3, .int x3), (2, .int x1), (0, .ref this), (1, .int a1)]) (fun _ => rfl) (fun x3 => ?_)
  refine so_iconst (v := (0 : Int32)) X (dkX12_blown (9, .iconst 0, 1) (pgm 7 rfl)) ic_0 ?_
  refine so_istore (i := 4) X (dkX12_blown (10, .istore 4, 2) (pgm 8 rfl)) (by decide) (Lf := fun x4 => [(4, .int x4), (3, .int x3), (2, .int x1), (0, .ref this), (1, .int a1)]) (fun _ => rfl) (fun x4 => ?_)
  refine so_join (jf := fun (y5 : Int32) (h6 : PH) => some (y5, h6)) (fun (j : Int32 → PH → Option (Int32 × PH)) => ∀ (y5 : Int32) (h6 : PH), SWo (QM mkI below args s D cA ad A) p l e (rmd 1) s m args below meth c 0 0 7 D cA ad A 95 [(2, .int y5)] [] h6 (j y5 h6)) ?_ (fun j95 hj95 => ?_)
  · intro y5 h6
    refine so_iload_n (i := 2) X 0 (dkX12_blown (95, .iload_n 2, 1) (pgm 58 rfl)) rfl rfl ?_
    exact so_iret X hr hlk (dkX12_blown (96, .ireturn, 1) (pgm 59 rfl))
  refine so_pick (L' := [(0, .ref this), (1, .int a1), (2, .int x1), (3, .int x3), (4, .int x4)]) X [3, 4, 2, 1, 0] rfl ?_
  refine so_loop (body := b_X12_blown_12 this a1 x3 j95) (fun (s12 : Int32 × Int32) => [(0, .ref this), (1, .int a1), (2, .int s12.1), (3, .int x3), (4, .int s12.2)]) (fun rec12 hrec12 s12 hh12 => ?_) FU (x1, x4) h0
  unfold b_X12_blown_12
  refine so_iload (i := 4) X 4 (dkX12_blown (12, .iload 4, 2) (pgm 9 rfl)) rfl ?_
  refine so_aload_n (i := 0) X 0 (dkX12_blown (14, .aload_n 0, 1) (pgm 10 rfl)) rfl rfl ?_
  refine so_callV (n := 0) (As := []) X (ct_X12_cells l this hh12 hk) hk (by decide) rfl lk_1668 lk_1670 lk_57 lk_134 lk_1671 (by decide +kernel) rfl rfl rfl (rm_ok (by omega) (by decide)) ⟨Nat.zero_le _, Nat.zero_le _⟩ (Nat.le_of_ble_eq_true rfl) (dkX12_blown (15, .invokevirtual 249, 3) (pgm 11 rfl)) (fun r7 h8 => ?_) rfl
  refine so_icmp_ge (tgt := 95) X (dkX12_blown (18, .if_icmp .ge 77, 3) (pgm 12 rfl)) rfl (fun _ => ?_) (fun _ => ?_)
  · exact so_pick X [2] rfl (hj95 s12.1 h8)
  · refine so_aload_n (i := 0) X 0 (dkX12_blown (21, .aload_n 0, 1) (pgm 13 rfl)) rfl rfl ?_
    refine sf_getR X ff_12_0 lk_1702 hk (dkX12_blown (22, .getfield 9, 3) (pgm 14 rfl)) ?_
    refine so_iconst (v := (4 : Int32)) X (dkX12_blown (25, .iconst 4, 1) (pgm 15 rfl)) ic_4 ?_
    refine so_iald X (rk_12_0 this hk) (dkX12_blown (26, .iaload, 1) (pgm 16 rfl)) (fun x9 => ?_)
    refine so_if_le (tgt := 95) X (dkX12_blown (27, .ifCond .le 68, 3) (pgm 17 rfl)) rfl (fun _ => ?_) (fun _ => ?_)
    · exact so_pick X [2] rfl (hj95 s12.1 h8)
    · refine so_iload (i := 4) X 4 (dkX12_blown (30, .iload 4, 2) (pgm 18 rfl)) rfl ?_
      refine so_iload_n (i := 3) X 3 (dkX12_blown (32, .iload_n 3, 1) (pgm 19 rfl)) rfl rfl ?_
      refine so_idiv X (dkX12_blown (33, .idiv, 1) (pgm 20 rfl)) (fun _ => ?_)
      refine so_aload_n (i := 0) X 0 (dkX12_blown (34, .aload_n 0, 1) (pgm 21 rfl)) rfl rfl ?_
      refine sf_getR X ff_12_0 lk_1702 hk (dkX12_blown (35, .getfield 9, 3) (pgm 22 rfl)) ?_
      refine so_iconst (v := (4 : Int32)) X (dkX12_blown (38, .iconst 4, 1) (pgm 23 rfl)) ic_4 ?_
      refine so_iald X (rk_12_0 this hk) (dkX12_blown (39, .iaload, 1) (pgm 24 rfl)) (fun x10 => ?_)
      refine so_iadd X (dkX12_blown (40, .iadd, 1) (pgm 25 rfl)) ?_
      refine so_istore (i := 5) X (dkX12_blown (41, .istore 5, 2) (pgm 26 rfl)) (by decide) (Lf := fun x11 => [(5, .int x11), (0, .ref this), (1, .int a1), (2, .int s12.1), (3, .int x3), (4, .int s12.2)]) (fun _ => rfl) (fun x11 => ?_)
      refine so_iload (i := 4) X 5 (dkX12_blown (43, .iload 4, 2) (pgm 27 rfl)) rfl ?_
      refine so_iload_n (i := 3) X 4 (dkX12_blown (45, .iload_n 3, 1) (pgm 28 rfl)) rfl rfl ?_
      refine so_irem X (dkX12_blown (46, .irem, 1) (pgm 29 rfl)) (fun _ => ?_)
      refine so_iconst (v := (1 : Int32)) X (dkX12_blown (47, .iconst 1, 1) (pgm 30 rfl)) ic_1 ?_
      refine so_iadd X (dkX12_blown (48, .iadd, 1) (pgm 31 rfl)) ?_
      refine so_istore (i := 6) X (dkX12_blown (49, .istore 6, 2) (pgm 32 rfl)) (by decide) (Lf := fun x12 => [(6, .int x12), (5, .int x11), (0, .ref this), (1, .int a1), (2, .int s12.1), (3, .int x3), (4, .int s12.2)]) (fun _ => rfl) (fun x12 => ?_)
      refine so_iload_n (i := 1) X 3 (dkX12_blown (51, .iload_n 1, 1) (pgm 33 rfl)) rfl rfl ?_
      refine so_iload (i := 4) X 6 (dkX12_blown (52, .iload 4, 2) (pgm 34 rfl)) rfl ?_
      refine so_callS (n := 2) (As := [.int a1, .int s12.2]) X (ct_X12_has l a1 s12.2 h8 ) lk_1676 lk_1677 lk_134 lk_1678 (by decide +kernel) rfl rfl rfl (rm_ok (by omega) (by decide)) ⟨Nat.zero_le _, Nat.zero_le _⟩ (Nat.le_of_ble_eq_true rfl) (dkX12_blown (54, .invokestatic 279, 3) (pgm 35 rfl)) (fun r13 h14 => ?_) rfl
      refine so_join (jf := fun (y15 : Int32) (h16 : PH) => lt (s12.2 + Int32.ofInt 1) (fun (x17 : Int32) => rec12 (y15, x17) h16)) (fun (j : Int32 → PH → Option (Int32 × PH)) => ∀ (y15 : Int32) (h16 : PH), SWo (QM mkI below args s D cA ad A) p l e (rmd 1) s m args below meth c 0 0 7 D cA ad A 89 [(0, .ref this), (1, .int a1), (2, .int y15), (3, .int x3), (4, .int s12.2)] [] h16 (j y15 h16)) ?_ (fun j89 hj89 => ?_)
      · intro y15 h16
        refine so_iinc (i := 4) X 4 (dkX12_blown (89, .iinc 4 1, 3) (pgm 56 rfl)) rfl rfl (by decide) (Lf := fun x17 => [(4, .int x17), (0, .ref this), (1, .int a1), (2, .int y15), (3, .int x3)]) (fun _ => rfl) (fun x17 => ?_)
        refine so_goto (tgt := 12) X (dkX12_blown (92, .goto (-80), 3) (pgm 57 rfl)) rfl ?_
        exact so_pick X [1, 2, 3, 4, 0] rfl (hrec12 (y15, x17) h16)
      refine so_if_eq (tgt := 89) X (dkX12_blown (57, .ifCond .eq 32, 3) (pgm 36 rfl)) rfl (fun _ => ?_) (fun _ => ?_)
      · exact so_pick X [2, 3, 4, 5, 6] rfl (hj89 s12.1 h14)
      · refine so_iload (i := 5) X 1 (dkX12_blown (60, .iload 5, 2) (pgm 37 rfl)) rfl ?_
        refine so_aload_n (i := 0) X 2 (dkX12_blown (62, .aload_n 0, 1) (pgm 38 rfl)) rfl rfl ?_
        refine sf_getR X ff_12_0 lk_1702 hk (dkX12_blown (63, .getfield 9, 3) (pgm 39 rfl)) ?_
        refine so_iconst (v := (1 : Int32)) X (dkX12_blown (66, .iconst 1, 1) (pgm 40 rfl)) ic_1 ?_
        refine so_iald X (rk_12_0 this hk) (dkX12_blown (67, .iaload, 1) (pgm 41 rfl)) (fun x18 => ?_)
        refine so_icmp_ge (tgt := 89) X (dkX12_blown (68, .if_icmp .ge 21, 3) (pgm 42 rfl)) rfl (fun _ => ?_) (fun _ => ?_)
        · exact so_pick X [2, 3, 4, 5, 6] rfl (hj89 s12.1 h14)
        · refine so_iload (i := 6) X 0 (dkX12_blown (71, .iload 6, 2) (pgm 43 rfl)) rfl ?_
          refine so_iload_n (i := 3) X 5 (dkX12_blown (73, .iload_n 3, 1) (pgm 44 rfl)) rfl rfl ?_
          refine so_icmp_ge (tgt := 89) X (dkX12_blown (74, .if_icmp .ge 15, 3) (pgm 45 rfl)) rfl (fun _ => ?_) (fun _ => ?_)
          · exact so_pick X [2, 3, 4, 5, 6] rfl (hj89 s12.1 h14)
          · refine so_iload_n (i := 2) X 4 (dkX12_blown (77, .iload_n 2, 1) (pgm 46 rfl)) rfl rfl ?_
            refine so_iconst (v := (1 : Int32)) X (dkX12_blown (78, .iconst 1, 1) (pgm 47 rfl)) ic_1 ?_
            refine so_iload_n (i := 3) X 5 (dkX12_blown (79, .iload_n 3, 1) (pgm 48 rfl)) rfl rfl ?_
            refine so_iload (i := 5) X 1 (dkX12_blown (80, .iload 5, 2) (pgm 49 rfl)) rfl ?_
            refine so_imul X (dkX12_blown (82, .imul, 1) (pgm 50 rfl)) ?_
            refine so_iload (i := 6) X 0 (dkX12_blown (83, .iload 6, 2) (pgm 51 rfl)) rfl ?_
            refine so_iadd X (dkX12_blown (85, .iadd, 1) (pgm 52 rfl)) ?_
            refine so_ishl X (dkX12_blown (86, .ishl, 1) (pgm 53 rfl)) ?_
            refine so_ior X (dkX12_blown (87, .ior, 1) (pgm 54 rfl)) ?_
            refine so_istore_n (i := 2) X (dkX12_blown (88, .istore_n 2, 1) (pgm 55 rfl)) rfl (by decide) (Lf := fun x19 => [(2, .int x19), (6, .int x12), (5, .int x11), (0, .ref this), (1, .int a1), (3, .int x3), (4, .int s12.2)]) (fun _ => rfl) (fun x19 => ?_)
            exact so_pick X [3, 4, 0, 5, 6] rfl (hj89 x19 h14)
def pgX12_laysTruths : List (Nat × Instr × Nat) := [(0, .iconst 0, 1), (1, .istore_n 1, 1), (2, .iload_n 1, 1), (3, .aload_n 0, 1), (4, .invokevirtual 252, 3), (7, .if_icmp .gt 56, 3), (10, .aload_n 0, 1), (11, .getfield 37, 3), (14, .iload_n 1, 1), (15, .aload_n 0, 1), (16, .iload_n 1, 1), (17, .invokevirtual 283, 3), (20, .iastore, 1), (21, .iconst 0, 1), (22, .istore_n 2, 1), (23, .iload_n 2, 1), (24, .aload_n 0, 1), (25, .getfield 9, 3), (28, .iconst 5, 1), (29, .iaload, 1), (30, .if_icmp .ge 27, 3), (33, .aload_n 0, 1), (34, .getfield 34, 3), (37, .sipush 4096, 3), (40, .iload_n 2, 1), (41, .imul, 1), (42, .iload_n 1, 1), (43, .iadd, 1), (44, .aload_n 0, 1), (45, .iload_n 2, 1), (46, .iload_n 1, 1), (47, .invokevirtual 286, 3), (50, .bastore, 1), (51, .iinc 2 1, 3), (54, .goto (-31), 3), (57, .iinc 1 1, 3), (60, .goto (-58), 3), (63, .return_, 1)]
theorem dkX12_laysTruths : ∀ q ∈ pgX12_laysTruths, decode cX12_laysTruths q.1 = .ok q.2 := by decide +kernel
def b_X12_laysTruths_23 (this : Nat) (s2 : Int32) (j57 : PH → Option (Unit × PH)) (rec23 : (Int32) → PH → Option (Unit × PH)) (s23 : Int32) (hh23 : PH) : Option (Unit × PH) :=
  ldI hh23 (rt this 0) 1200 (5 : Int32) (fun (x10 : Int32) => if x10 ≤ s23 then (j57 hh23) else (cb (f_X12_worksOut this s23 s2 hh23) (fun (r11 : Int32) (h12 : PH) => stI h12 (rt this 18) 40960 (((4096 : Int32) * s23) + s2) (vp_nar .boolean r11) (fun (h13 : PH) => lt (s23 + Int32.ofInt 1) (fun (x14 : Int32) => rec23 x14 h13)))))
def b_X12_laysTruths_2 (this : Nat) (rec2 : (Int32) → PH → Option (Unit × PH)) (s2 : Int32) (hh2 : PH) : Option (Unit × PH) :=
  cb (f_X12_everywhere this hh2) (fun (r2 : Int32) (h3 : PH) => if r2 < s2 then (some ((), h3)) else (cb (f_X12_blown this s2 h3) (fun (r4 : Int32) (h5 : PH) => stI h5 (rt this 19) 4096 s2 r4 (fun (h6 : PH) => lt (0 : Int32) (fun (x7 : Int32) => lt (fun (h8 : PH) => lt (s2 + Int32.ofInt 1) (fun (x9 : Int32) => rec2 x9 h8)) (fun (j57 : PH → Option (Unit × PH)) => lp (b_X12_laysTruths_23 this s2 j57) FU x7 h6))))))
def f_X12_laysTruths (this : Nat) (h0 : PH) : Option (Unit × PH) :=
  lt (0 : Int32) (fun (x1 : Int32) => lp (b_X12_laysTruths_2 this) FU x1 h0)
set_option maxRecDepth 100000 in
set_option maxHeartbeats 4000000 in
theorem ct_X12_laysTruths (l : Launch) (this : Nat) (h0 : PH) (hk : (kd this).1 = 12) : CT mkV l yX12_laysTruths cX12_laysTruths 3 none (rmd 4) [.ref this] h0 (f_X12_laysTruths this h0) := by
  refine ct_of (by decide) (Nat.le_of_ble_eq_true rfl) ?_
  intro p e s m args below meth c D cA ad A X hr hlk
  have X : Cx p s m args c RX12 cX12_laysTruths 3 D cA ad A := X
  unfold f_X12_laysTruths
  refine so_pick (L' := [(0, .ref this)]) X [0] rfl ?_
  refine so_iconst (v := (0 : Int32)) X (dkX12_laysTruths (0, .iconst 0, 1) (pgm 0 rfl)) ic_0 ?_
  refine so_istore_n (i := 1) X (dkX12_laysTruths (1, .istore_n 1, 1) (pgm 1 rfl)) rfl (by decide) (Lf := fun x1 => [(1, .int x1), (0, .ref this)]) (fun _ => rfl) (fun x1 => ?_)
  refine so_pick (L' := [(0, .ref this), (1, .int x1)]) X [1, 0] rfl ?_
  refine so_loop (body := b_X12_laysTruths_2 this) (fun (s2 : Int32) => [(0, .ref this), (1, .int s2)]) (fun rec2 hrec2 s2 hh2 => ?_) FU x1 h0
  unfold b_X12_laysTruths_2
  refine so_iload_n (i := 1) X 1 (dkX12_laysTruths (2, .iload_n 1, 1) (pgm 2 rfl)) rfl rfl ?_
  refine so_aload_n (i := 0) X 0 (dkX12_laysTruths (3, .aload_n 0, 1) (pgm 3 rfl)) rfl rfl ?_
  refine so_callV (n := 0) (As := []) X (ct_X12_everywhere l this hh2 hk) hk (by decide) rfl lk_1664 lk_1666 lk_56 lk_134 lk_1667 (by decide +kernel) rfl rfl rfl (rm_ok (by omega) (by decide)) ⟨Nat.zero_le _, Nat.zero_le _⟩ (Nat.le_of_ble_eq_true rfl) (dkX12_laysTruths (4, .invokevirtual 252, 3) (pgm 4 rfl)) (fun r2 h3 => ?_) rfl
  refine so_icmp_gt (tgt := 63) X (dkX12_laysTruths (7, .if_icmp .gt 56, 3) (pgm 5 rfl)) rfl (fun _ => ?_) (fun _ => ?_)
  · exact so_vret X hr hlk (dkX12_laysTruths (63, .return_, 1) (pgm 37 rfl))
  · refine so_aload_n (i := 0) X 0 (dkX12_laysTruths (10, .aload_n 0, 1) (pgm 6 rfl)) rfl rfl ?_
    refine sf_getR X ff_12_19 lk_1721 hk (dkX12_laysTruths (11, .getfield 37, 3) (pgm 7 rfl)) ?_
    refine so_iload_n (i := 1) X 1 (dkX12_laysTruths (14, .iload_n 1, 1) (pgm 8 rfl)) rfl rfl ?_
    refine so_aload_n (i := 0) X 0 (dkX12_laysTruths (15, .aload_n 0, 1) (pgm 9 rfl)) rfl rfl ?_
    refine so_iload_n (i := 1) X 1 (dkX12_laysTruths (16, .iload_n 1, 1) (pgm 10 rfl)) rfl rfl ?_
    refine so_callV (n := 1) (As := [.int s2]) X (ct_X12_blown l this s2 h3 hk) hk (by decide) rfl lk_1672 lk_1674 lk_58 lk_134 lk_1675 (by decide +kernel) rfl rfl rfl (rm_ok (by omega) (by decide)) ⟨Nat.zero_le _, Nat.zero_le _⟩ (Nat.le_of_ble_eq_true rfl) (dkX12_laysTruths (17, .invokevirtual 283, 3) (pgm 11 rfl)) (fun r4 h5 => ?_) rfl
    refine so_iast X (rk_12_19 this hk) (dkX12_laysTruths (20, .iastore, 1) (pgm 12 rfl)) (fun h6 => ?_)
    refine so_iconst (v := (0 : Int32)) X (dkX12_laysTruths (21, .iconst 0, 1) (pgm 13 rfl)) ic_0 ?_
    refine so_istore_n (i := 2) X (dkX12_laysTruths (22, .istore_n 2, 1) (pgm 14 rfl)) rfl (by decide) (Lf := fun x7 => [(2, .int x7), (0, .ref this), (1, .int s2)]) (fun _ => rfl) (fun x7 => ?_)
    refine so_join (jf := fun (h8 : PH) => lt (s2 + Int32.ofInt 1) (fun (x9 : Int32) => rec2 x9 h8)) (fun (j : PH → Option (Unit × PH)) => ∀  (h8 : PH), SWo (QM mkV below args s D cA ad A) p l e (rmd 4) s m args below meth c 0 0 3 D cA ad A 57 [(0, .ref this), (1, .int s2)] [] h8 (j h8)) ?_ (fun j57 hj57 => ?_)
    · intro h8
      refine so_iinc (i := 1) X 1 (dkX12_laysTruths (57, .iinc 1 1, 3) (pgm 35 rfl)) rfl rfl (by decide) (Lf := fun x9 => [(1, .int x9), (0, .ref this)]) (fun _ => rfl) (fun x9 => ?_)
      refine so_goto (tgt := 2) X (dkX12_laysTruths (60, .goto (-58), 3) (pgm 36 rfl)) rfl ?_
      exact so_pick X [1, 0] rfl (hrec2 x9 h8)
    refine so_pick (L' := [(0, .ref this), (1, .int s2), (2, .int x7)]) X [1, 2, 0] rfl ?_
    refine so_loop (body := b_X12_laysTruths_23 this s2 j57) (fun (s23 : Int32) => [(0, .ref this), (1, .int s2), (2, .int s23)]) (fun rec23 hrec23 s23 hh23 => ?_) FU x7 h6
    unfold b_X12_laysTruths_23
    refine so_iload_n (i := 2) X 2 (dkX12_laysTruths (23, .iload_n 2, 1) (pgm 15 rfl)) rfl rfl ?_
    refine so_aload_n (i := 0) X 0 (dkX12_laysTruths (24, .aload_n 0, 1) (pgm 16 rfl)) rfl rfl ?_
    refine sf_getR X ff_12_0 lk_1702 hk (dkX12_laysTruths (25, .getfield 9, 3) (pgm 17 rfl)) ?_
    refine so_iconst (v := (5 : Int32)) X (dkX12_laysTruths (28, .iconst 5, 1) (pgm 18 rfl)) ic_5 ?_
    refine so_iald X (rk_12_0 this hk) (dkX12_laysTruths (29, .iaload, 1) (pgm 19 rfl)) (fun x10 => ?_)
    refine so_icmp_ge (tgt := 57) X (dkX12_laysTruths (30, .if_icmp .ge 27, 3) (pgm 20 rfl)) rfl (fun _ => ?_) (fun _ => ?_)
    · exact so_pick X [0, 1] rfl (hj57 hh23)
    · refine so_aload_n (i := 0) X 0 (dkX12_laysTruths (33, .aload_n 0, 1) (pgm 21 rfl)) rfl rfl ?_
      refine sf_getR X ff_12_18 lk_1720 hk (dkX12_laysTruths (34, .getfield 34, 3) (pgm 22 rfl)) ?_
      refine so_sipush (v := (4096 : Int32)) X (dkX12_laysTruths (37, .sipush 4096, 3) (pgm 23 rfl)) sp_4096 ?_
      refine so_iload_n (i := 2) X 2 (dkX12_laysTruths (40, .iload_n 2, 1) (pgm 24 rfl)) rfl rfl ?_
      refine so_imul X (dkX12_laysTruths (41, .imul, 1) (pgm 25 rfl)) ?_
      refine so_iload_n (i := 1) X 1 (dkX12_laysTruths (42, .iload_n 1, 1) (pgm 26 rfl)) rfl rfl ?_
      refine so_iadd X (dkX12_laysTruths (43, .iadd, 1) (pgm 27 rfl)) ?_
      refine so_aload_n (i := 0) X 0 (dkX12_laysTruths (44, .aload_n 0, 1) (pgm 28 rfl)) rfl rfl ?_
      refine so_iload_n (i := 2) X 2 (dkX12_laysTruths (45, .iload_n 2, 1) (pgm 29 rfl)) rfl rfl ?_
      refine so_iload_n (i := 1) X 1 (dkX12_laysTruths (46, .iload_n 1, 1) (pgm 30 rfl)) rfl rfl ?_
      refine so_callV (n := 2) (As := [.int s23, .int s2]) X (ct_X12_worksOut l this s23 s2 hh23 hk) hk (by decide) rfl lk_1679 lk_1681 lk_59 lk_134 lk_1682 (by decide +kernel) rfl rfl rfl (rm_ok (by omega) (by decide)) ⟨Nat.zero_le _, Nat.zero_le _⟩ (Nat.le_of_ble_eq_true rfl) (dkX12_laysTruths (47, .invokevirtual 286, 3) (pgm 31 rfl)) (fun r11 h12 => ?_) rfl
      refine so_zast X (rk_12_18 this hk) (dkX12_laysTruths (50, .bastore, 1) (pgm 32 rfl)) (fun h13 => ?_)
      refine so_iinc (i := 2) X 2 (dkX12_laysTruths (51, .iinc 2 1, 3) (pgm 33 rfl)) rfl rfl (by decide) (Lf := fun x14 => [(2, .int x14), (0, .ref this), (1, .int s2)]) (fun _ => rfl) (fun x14 => ?_)
      refine so_goto (tgt := 23) X (dkX12_laysTruths (54, .goto (-31), 3) (pgm 34 rfl)) rfl ?_
      exact so_pick X [1, 2, 0] rfl (hrec23 x14 h13)
def pgX12_doesHold : List (Nat × Instr × Nat) := [(0, .aload_n 0, 1), (1, .getfield 34, 3), (4, .sipush 4096, 3), (7, .iload_n 1, 1), (8, .imul, 1), (9, .iload_n 2, 1), (10, .iadd, 1), (11, .baload, 1), (12, .ireturn, 1)]
theorem dkX12_doesHold : ∀ q ∈ pgX12_doesHold, decode cX12_doesHold q.1 = .ok q.2 := by decide +kernel
def f_X12_doesHold (this : Nat) (a1 : Int32) (a2 : Int32) (h0 : PH) : Option (Int32 × PH) :=
  ldI h0 (rt this 18) 40960 (((4096 : Int32) * a1) + a2) (fun (x1 : Int32) => zr x1 h0)
set_option maxRecDepth 100000 in
set_option maxHeartbeats 4000000 in
theorem ct_X12_doesHold (l : Launch) (this : Nat) (a1 : Int32) (a2 : Int32) (h0 : PH) (hk : (kd this).1 = 12) : CT mkI l yX12_doesHold cX12_doesHold 3 (some .boolean) (rmd 0) [.ref this, .int a1, .int a2] h0 (f_X12_doesHold this a1 a2 h0) := by
  refine ct_of (by decide) (Nat.le_of_ble_eq_true rfl) ?_
  intro p e s m args below meth c D cA ad A X hr hlk
  have X : Cx p s m args c RX12 cX12_doesHold 3 D cA ad A := X
  unfold f_X12_doesHold
  refine so_pick (L' := [(0, .ref this), (1, .int a1), (2, .int a2)]) X [0, 1, 2] rfl ?_
  refine so_aload_n (i := 0) X 0 (dkX12_doesHold (0, .aload_n 0, 1) (pgm 0 rfl)) rfl rfl ?_
  refine sf_getR X ff_12_18 lk_1720 hk (dkX12_doesHold (1, .getfield 34, 3) (pgm 1 rfl)) ?_
  refine so_sipush (v := (4096 : Int32)) X (dkX12_doesHold (4, .sipush 4096, 3) (pgm 2 rfl)) sp_4096 ?_
  refine so_iload_n (i := 1) X 1 (dkX12_doesHold (7, .iload_n 1, 1) (pgm 3 rfl)) rfl rfl ?_
  refine so_imul X (dkX12_doesHold (8, .imul, 1) (pgm 4 rfl)) ?_
  refine so_iload_n (i := 2) X 2 (dkX12_doesHold (9, .iload_n 2, 1) (pgm 5 rfl)) rfl rfl ?_
  refine so_iadd X (dkX12_doesHold (10, .iadd, 1) (pgm 6 rfl)) ?_
  refine so_zald X (rk_12_18 this hk) (dkX12_doesHold (11, .baload, 1) (pgm 7 rfl)) (fun x1 => ?_)
  exact so_zret X hr hlk (dkX12_doesHold (12, .ireturn, 1) (pgm 8 rfl))
def pgX12_isWish : List (Nat × Instr × Nat) := [(0, .iload_n 1, 1), (1, .i2l, 1), (2, .lconst 0, 1), (3, .aload_n 0, 1), (4, .getfield 9, 3), (7, .iconst 5, 1), (8, .iaload, 1), (9, .iconst 1, 1), (10, .isub, 1), (11, .i2l, 1), (12, .invokestatic 156, 3), (15, .ireturn, 1)]
theorem dkX12_isWish : ∀ q ∈ pgX12_isWish, decode cX12_isWish q.1 = .ok q.2 := by decide +kernel
def f_X12_isWish (this : Nat) (a1 : Int32) (h0 : PH) : Option (Int32 × PH) :=
  ldI h0 (rt this 0) 1200 (5 : Int32) (fun (x1 : Int32) => cb (f_X12_within a1.toInt64 (0 : Int64) ((x1 - (1 : Int32)).toInt64) h0) (fun (r2 : Int32) (h3 : PH) => zr r2 h3))
set_option maxRecDepth 100000 in
set_option maxHeartbeats 4000000 in
theorem ct_X12_isWish (l : Launch) (this : Nat) (a1 : Int32) (h0 : PH) (hk : (kd this).1 = 12) : CT mkI l yX12_isWish cX12_isWish 2 (some .boolean) (rmd 1) [.ref this, .int a1] h0 (f_X12_isWish this a1 h0) := by
  refine ct_of (by decide) (Nat.le_of_ble_eq_true rfl) ?_
  intro p e s m args below meth c D cA ad A X hr hlk
  have X : Cx p s m args c RX12 cX12_isWish 2 D cA ad A := X
  unfold f_X12_isWish
  refine so_pick (L' := [(0, .ref this), (1, .int a1)]) X [0, 1] rfl ?_
  refine so_iload_n (i := 1) X 1 (dkX12_isWish (0, .iload_n 1, 1) (pgm 0 rfl)) rfl rfl ?_
  refine so_i2l X (dkX12_isWish (1, .i2l, 1) (pgm 1 rfl)) ?_
  refine so_lconst (v := (0 : Int64)) X (dkX12_isWish (2, .lconst 0, 1) (pgm 2 rfl)) lc_0 ?_
  refine so_aload_n (i := 0) X 0 (dkX12_isWish (3, .aload_n 0, 1) (pgm 3 rfl)) rfl rfl ?_
  refine sf_getR X ff_12_0 lk_1702 hk (dkX12_isWish (4, .getfield 9, 3) (pgm 4 rfl)) ?_
  refine so_iconst (v := (5 : Int32)) X (dkX12_isWish (7, .iconst 5, 1) (pgm 5 rfl)) ic_5 ?_
  refine so_iald X (rk_12_0 this hk) (dkX12_isWish (8, .iaload, 1) (pgm 6 rfl)) (fun x1 => ?_)
  refine so_iconst (v := (1 : Int32)) X (dkX12_isWish (9, .iconst 1, 1) (pgm 7 rfl)) ic_1 ?_
  refine so_isub X (dkX12_isWish (10, .isub, 1) (pgm 8 rfl)) ?_
  refine so_i2l X (dkX12_isWish (11, .i2l, 1) (pgm 9 rfl)) ?_
  refine so_callS (n := 3) (As := [.long a1.toInt64, .long (0 : Int64), .long ((x1 - (1 : Int32)).toInt64)]) X (ct_X12_within l a1.toInt64 (0 : Int64) ((x1 - (1 : Int32)).toInt64) h0 ) lk_1832 lk_1833 lk_134 lk_1834 (by decide +kernel) rfl rfl rfl (rm_ok (by omega) (by decide)) ⟨Nat.zero_le _, Nat.zero_le _⟩ (Nat.le_of_ble_eq_true rfl) (dkX12_isWish (12, .invokestatic 156, 3) (pgm 10 rfl)) (fun r2 h3 => ?_) rfl
  exact so_zret X hr hlk (dkX12_isWish (15, .ireturn, 1) (pgm 11 rfl))
def pgX12_isOpen : List (Nat × Instr × Nat) := [(0, .aload_n 0, 1), (1, .getfield 9, 3), (4, .bipush 7, 2), (6, .iaload, 1), (7, .iload_n 1, 1), (8, .invokestatic 279, 3), (11, .ireturn, 1)]
theorem dkX12_isOpen : ∀ q ∈ pgX12_isOpen, decode cX12_isOpen q.1 = .ok q.2 := by decide +kernel
def f_X12_isOpen (this : Nat) (a1 : Int32) (h0 : PH) : Option (Int32 × PH) :=
  ldI h0 (rt this 0) 1200 (7 : Int32) (fun (x1 : Int32) => cb (f_X12_has x1 a1 h0) (fun (r2 : Int32) (h3 : PH) => zr r2 h3))
set_option maxRecDepth 100000 in
set_option maxHeartbeats 4000000 in
theorem ct_X12_isOpen (l : Launch) (this : Nat) (a1 : Int32) (h0 : PH) (hk : (kd this).1 = 12) : CT mkI l yX12_isOpen cX12_isOpen 2 (some .boolean) (rmd 1) [.ref this, .int a1] h0 (f_X12_isOpen this a1 h0) := by
  refine ct_of (by decide) (Nat.le_of_ble_eq_true rfl) ?_
  intro p e s m args below meth c D cA ad A X hr hlk
  have X : Cx p s m args c RX12 cX12_isOpen 2 D cA ad A := X
  unfold f_X12_isOpen
  refine so_pick (L' := [(0, .ref this), (1, .int a1)]) X [0, 1] rfl ?_
  refine so_aload_n (i := 0) X 0 (dkX12_isOpen (0, .aload_n 0, 1) (pgm 0 rfl)) rfl rfl ?_
  refine sf_getR X ff_12_0 lk_1702 hk (dkX12_isOpen (1, .getfield 9, 3) (pgm 1 rfl)) ?_
  refine so_bipush (v := (7 : Int32)) X (dkX12_isOpen (4, .bipush 7, 2) (pgm 2 rfl)) bp_7 ?_
  refine so_iald X (rk_12_0 this hk) (dkX12_isOpen (6, .iaload, 1) (pgm 3 rfl)) (fun x1 => ?_)
  refine so_iload_n (i := 1) X 1 (dkX12_isOpen (7, .iload_n 1, 1) (pgm 4 rfl)) rfl rfl ?_
  refine so_callS (n := 2) (As := [.int x1, .int a1]) X (ct_X12_has l x1 a1 h0 ) lk_1676 lk_1677 lk_134 lk_1678 (by decide +kernel) rfl rfl rfl (rm_ok (by omega) (by decide)) ⟨Nat.zero_le _, Nat.zero_le _⟩ (Nat.le_of_ble_eq_true rfl) (dkX12_isOpen (8, .invokestatic 279, 3) (pgm 5 rfl)) (fun r2 h3 => ?_) rfl
  exact so_zret X hr hlk (dkX12_isOpen (11, .ireturn, 1) (pgm 6 rfl))
def pgX12_weight : List (Nat × Instr × Nat) := [(0, .iconst 0, 1), (1, .istore_n 2, 1), (2, .iconst 0, 1), (3, .istore_n 3, 1), (4, .iload_n 3, 1), (5, .aload_n 0, 1), (6, .getfield 9, 3), (9, .iconst 5, 1), (10, .iaload, 1), (11, .if_icmp .ge 33, 3), (14, .iload_n 2, 1), (15, .iload_n 1, 1), (16, .iload_n 3, 1), (17, .invokestatic 279, 3), (20, .ifCond .eq 15, 3), (23, .aload_n 0, 1), (24, .getfield 9, 3), (27, .bipush 34, 2), (29, .iload_n 3, 1), (30, .iadd, 1), (31, .iaload, 1), (32, .goto 4, 3), (35, .iconst 0, 1), (36, .iadd, 1), (37, .istore_n 2, 1), (38, .iinc 3 1, 3), (41, .goto (-37), 3), (44, .iload_n 2, 1), (45, .ireturn, 1)]
theorem dkX12_weight : ∀ q ∈ pgX12_weight, decode cX12_weight q.1 = .ok q.2 := by decide +kernel
def b_X12_weight_4 (this : Nat) (a1 : Int32) (rec4 : (Int32 × Int32) → PH → Option (Int32 × PH)) (s4 : Int32 × Int32) (hh4 : PH) : Option (Int32 × PH) :=
  ldI hh4 (rt this 0) 1200 (5 : Int32) (fun (x3 : Int32) => if x3 ≤ s4.2 then (some (s4.1, hh4)) else (cb (f_X12_has a1 s4.2 hh4) (fun (r4 : Int32) (h5 : PH) => lt (fun (t6 : Int32) (h7 : PH) => lt (s4.1 + t6) (fun (x8 : Int32) => lt (s4.2 + Int32.ofInt 1) (fun (x9 : Int32) => rec4 (x8, x9) h7))) (fun (j36 : Int32 → PH → Option (Int32 × PH)) => if r4 = 0 then (j36 (0 : Int32) h5) else (ldI h5 (rt this 0) 1200 ((34 : Int32) + s4.2) (fun (x10 : Int32) => j36 x10 h5))))))
def f_X12_weight (this : Nat) (a1 : Int32) (h0 : PH) : Option (Int32 × PH) :=
  lt (0 : Int32) (fun (x1 : Int32) => lt (0 : Int32) (fun (x2 : Int32) => lp (b_X12_weight_4 this a1) FU (x1, x2) h0))
set_option maxRecDepth 100000 in
set_option maxHeartbeats 4000000 in
theorem ct_X12_weight (l : Launch) (this : Nat) (a1 : Int32) (h0 : PH) (hk : (kd this).1 = 12) : CT mkI l yX12_weight cX12_weight 4 (some .int) (rmd 1) [.ref this, .int a1] h0 (f_X12_weight this a1 h0) := by
  refine ct_of (by decide) (Nat.le_of_ble_eq_true rfl) ?_
  intro p e s m args below meth c D cA ad A X hr hlk
  have X : Cx p s m args c RX12 cX12_weight 4 D cA ad A := X
  unfold f_X12_weight
  refine so_pick (L' := [(0, .ref this), (1, .int a1)]) X [0, 1] rfl ?_
  refine so_iconst (v := (0 : Int32)) X (dkX12_weight (0, .iconst 0, 1) (pgm 0 rfl)) ic_0 ?_
  refine so_istore_n (i := 2) X (dkX12_weight (1, .istore_n 2, 1) (pgm 1 rfl)) rfl (by decide) (Lf := fun x1 => [(2, .int x1), (0, .ref this), (1, .int a1)]) (fun _ => rfl) (fun x1 => ?_)
  refine so_iconst (v := (0 : Int32)) X (dkX12_weight (2, .iconst 0, 1) (pgm 2 rfl)) ic_0 ?_
  refine so_istore_n (i := 3) X (dkX12_weight (3, .istore_n 3, 1) (pgm 3 rfl)) rfl (by decide) (Lf := fun x2 => [(3, .int x2), (2, .int x1), (0, .ref this), (1, .int a1)]) (fun _ => rfl) (fun x2 => ?_)
  refine so_pick (L' := [(0, .ref this), (1, .int a1), (2, .int x1), (3, .int x2)]) X [2, 3, 1, 0] rfl ?_
  refine so_loop (body := b_X12_weight_4 this a1) (fun (s4 : Int32 × Int32) => [(0, .ref this), (1, .int a1), (2, .int s4.1), (3, .int s4.2)]) (fun rec4 hrec4 s4 hh4 => ?_) FU (x1, x2) h0
  unfold b_X12_weight_4
  refine so_iload_n (i := 3) X 3 (dkX12_weight (4, .iload_n 3, 1) (pgm 4 rfl)) rfl rfl ?_
  refine so_aload_n (i := 0) X 0 (dkX12_weight (5, .aload_n 0, 1) (pgm 5 rfl)) rfl rfl ?_
  refine sf_getR X ff_12_0 lk_1702 hk (dkX12_weight (6, .getfield 9, 3) (pgm 6 rfl)) ?_
  refine so_iconst (v := (5 : Int32)) X (dkX12_weight (9, .iconst 5, 1) (pgm 7 rfl)) ic_5 ?_
  refine so_iald X (rk_12_0 this hk) (dkX12_weight (10, .iaload, 1) (pgm 8 rfl)) (fun x3 => ?_)
  refine so_icmp_ge (tgt := 44) X (dkX12_weight (11, .if_icmp .ge 33, 3) (pgm 9 rfl)) rfl (fun _ => ?_) (fun _ => ?_)
  · refine so_iload_n (i := 2) X 2 (dkX12_weight (44, .iload_n 2, 1) (pgm 27 rfl)) rfl rfl ?_
    exact so_iret X hr hlk (dkX12_weight (45, .ireturn, 1) (pgm 28 rfl))
  · refine so_iload_n (i := 2) X 2 (dkX12_weight (14, .iload_n 2, 1) (pgm 10 rfl)) rfl rfl ?_
    refine so_iload_n (i := 1) X 1 (dkX12_weight (15, .iload_n 1, 1) (pgm 11 rfl)) rfl rfl ?_
    refine so_iload_n (i := 3) X 3 (dkX12_weight (16, .iload_n 3, 1) (pgm 12 rfl)) rfl rfl ?_
    refine so_callS (n := 2) (As := [.int a1, .int s4.2]) X (ct_X12_has l a1 s4.2 hh4 ) lk_1676 lk_1677 lk_134 lk_1678 (by decide +kernel) rfl rfl rfl (rm_ok (by omega) (by decide)) ⟨Nat.zero_le _, Nat.zero_le _⟩ (Nat.le_of_ble_eq_true rfl) (dkX12_weight (17, .invokestatic 279, 3) (pgm 13 rfl)) (fun r4 h5 => ?_) rfl
    refine so_join (jf := fun (t6 : Int32) (h7 : PH) => lt (s4.1 + t6) (fun (x8 : Int32) => lt (s4.2 + Int32.ofInt 1) (fun (x9 : Int32) => rec4 (x8, x9) h7))) (fun (j : Int32 → PH → Option (Int32 × PH)) => ∀ (t6 : Int32) (h7 : PH), SWo (QM mkI below args s D cA ad A) p l e (rmd 1) s m args below meth c 0 0 4 D cA ad A 36 [(0, .ref this), (1, .int a1), (3, .int s4.2)] [.int t6, .int s4.1] h7 (j t6 h7)) ?_ (fun j36 hj36 => ?_)
    · intro t6 h7
      refine so_iadd X (dkX12_weight (36, .iadd, 1) (pgm 23 rfl)) ?_
      refine so_istore_n (i := 2) X (dkX12_weight (37, .istore_n 2, 1) (pgm 24 rfl)) rfl (by decide) (Lf := fun x8 => [(2, .int x8), (0, .ref this), (1, .int a1), (3, .int s4.2)]) (fun _ => rfl) (fun x8 => ?_)
      refine so_iinc (i := 3) X 3 (dkX12_weight (38, .iinc 3 1, 3) (pgm 25 rfl)) rfl rfl (by decide) (Lf := fun x9 => [(3, .int x9), (2, .int x8), (0, .ref this), (1, .int a1)]) (fun _ => rfl) (fun x9 => ?_)
      refine so_goto (tgt := 4) X (dkX12_weight (41, .goto (-37), 3) (pgm 26 rfl)) rfl ?_
      exact so_pick X [2, 3, 1, 0] rfl (hrec4 (x8, x9) h7)
    refine so_if_eq (tgt := 35) X (dkX12_weight (20, .ifCond .eq 15, 3) (pgm 14 rfl)) rfl (fun _ => ?_) (fun _ => ?_)
    · refine so_iconst (v := (0 : Int32)) X (dkX12_weight (35, .iconst 0, 1) (pgm 22 rfl)) ic_0 ?_
      exact so_pick X [0, 1, 3] rfl (hj36 (0 : Int32) h5)
    · refine so_aload_n (i := 0) X 0 (dkX12_weight (23, .aload_n 0, 1) (pgm 15 rfl)) rfl rfl ?_
      refine sf_getR X ff_12_0 lk_1702 hk (dkX12_weight (24, .getfield 9, 3) (pgm 16 rfl)) ?_
      refine so_bipush (v := (34 : Int32)) X (dkX12_weight (27, .bipush 34, 2) (pgm 17 rfl)) bp_34 ?_
      refine so_iload_n (i := 3) X 3 (dkX12_weight (29, .iload_n 3, 1) (pgm 18 rfl)) rfl rfl ?_
      refine so_iadd X (dkX12_weight (30, .iadd, 1) (pgm 19 rfl)) ?_
      refine so_iald X (rk_12_0 this hk) (dkX12_weight (31, .iaload, 1) (pgm 20 rfl)) (fun x10 => ?_)
      refine so_goto (tgt := 36) X (dkX12_weight (32, .goto 4, 3) (pgm 21 rfl)) rfl ?_
      exact so_pick X [0, 1, 3] rfl (hj36 x10 h5)
def pgX12_grantedIn : List (Nat × Instr × Nat) := [(0, .iconst 0, 1), (1, .istore_n 2, 1), (2, .iconst 0, 1), (3, .istore_n 3, 1), (4, .iload_n 3, 1), (5, .aload_n 0, 1), (6, .getfield 9, 3), (9, .iconst 5, 1), (10, .iaload, 1), (11, .if_icmp .ge 36, 3), (14, .iload_n 2, 1), (15, .aload_n 0, 1), (16, .iload_n 3, 1), (17, .invokevirtual 289, 3), (20, .ifCond .eq 18, 3), (23, .aload_n 0, 1), (24, .iload_n 3, 1), (25, .iload_n 1, 1), (26, .invokevirtual 292, 3), (29, .ifCond .eq 9, 3), (32, .iconst 1, 1), (33, .iload_n 3, 1), (34, .ishl, 1), (35, .goto 4, 3), (38, .iconst 0, 1), (39, .ior, 1), (40, .istore_n 2, 1), (41, .iinc 3 1, 3), (44, .goto (-40), 3), (47, .iload_n 2, 1), (48, .ireturn, 1)]
theorem dkX12_grantedIn : ∀ q ∈ pgX12_grantedIn, decode cX12_grantedIn q.1 = .ok q.2 := by decide +kernel
def b_X12_grantedIn_4 (this : Nat) (a1 : Int32) (rec4 : (Int32 × Int32) → PH → Option (Int32 × PH)) (s4 : Int32 × Int32) (hh4 : PH) : Option (Int32 × PH) :=
  ldI hh4 (rt this 0) 1200 (5 : Int32) (fun (x3 : Int32) => if x3 ≤ s4.2 then (some (s4.1, hh4)) else (cb (f_X12_isOpen this s4.2 hh4) (fun (r4 : Int32) (h5 : PH) => lt (fun (t6 : Int32) (h7 : PH) => lt (s4.1 ||| t6) (fun (x8 : Int32) => lt (s4.2 + Int32.ofInt 1) (fun (x9 : Int32) => rec4 (x8, x9) h7))) (fun (j39 : Int32 → PH → Option (Int32 × PH)) => lt (fun (h10 : PH) => j39 (0 : Int32) h10) (fun (j38 : PH → Option (Int32 × PH)) => if r4 = 0 then (j38 h5) else (cb (f_X12_doesHold this s4.2 a1 h5) (fun (r11 : Int32) (h12 : PH) => if r11 = 0 then (j38 h12) else (j39 ((1 : Int32) <<< (s4.2 &&& 31)) h12))))))))
def f_X12_grantedIn (this : Nat) (a1 : Int32) (h0 : PH) : Option (Int32 × PH) :=
  lt (0 : Int32) (fun (x1 : Int32) => lt (0 : Int32) (fun (x2 : Int32) => lp (b_X12_grantedIn_4 this a1) FU (x1, x2) h0))
set_option maxRecDepth 100000 in
set_option maxHeartbeats 4000000 in
theorem ct_X12_grantedIn (l : Launch) (this : Nat) (a1 : Int32) (h0 : PH) (hk : (kd this).1 = 12) : CT mkI l yX12_grantedIn cX12_grantedIn 4 (some .int) (rmd 2) [.ref this, .int a1] h0 (f_X12_grantedIn this a1 h0) := by
  refine ct_of (by decide) (Nat.le_of_ble_eq_true rfl) ?_
  intro p e s m args below meth c D cA ad A X hr hlk
  have X : Cx p s m args c RX12 cX12_grantedIn 4 D cA ad A := X
  unfold f_X12_grantedIn
  refine so_pick (L' := [(0, .ref this), (1, .int a1)]) X [0, 1] rfl ?_
  refine so_iconst (v := (0 : Int32)) X (dkX12_grantedIn (0, .iconst 0, 1) (pgm 0 rfl)) ic_0 ?_
  refine so_istore_n (i := 2) X (dkX12_grantedIn (1, .istore_n 2, 1) (pgm 1 rfl)) rfl (by decide) (Lf := fun x1 => [(2, .int x1), (0, .ref this), (1, .int a1)]) (fun _ => rfl) (fun x1 => ?_)
  refine so_iconst (v := (0 : Int32)) X (dkX12_grantedIn (2, .iconst 0, 1) (pgm 2 rfl)) ic_0 ?_
  refine so_istore_n (i := 3) X (dkX12_grantedIn (3, .istore_n 3, 1) (pgm 3 rfl)) rfl (by decide) (Lf := fun x2 => [(3, .int x2), (2, .int x1), (0, .ref this), (1, .int a1)]) (fun _ => rfl) (fun x2 => ?_)
  refine so_pick (L' := [(0, .ref this), (1, .int a1), (2, .int x1), (3, .int x2)]) X [2, 3, 1, 0] rfl ?_
  refine so_loop (body := b_X12_grantedIn_4 this a1) (fun (s4 : Int32 × Int32) => [(0, .ref this), (1, .int a1), (2, .int s4.1), (3, .int s4.2)]) (fun rec4 hrec4 s4 hh4 => ?_) FU (x1, x2) h0
  unfold b_X12_grantedIn_4
  refine so_iload_n (i := 3) X 3 (dkX12_grantedIn (4, .iload_n 3, 1) (pgm 4 rfl)) rfl rfl ?_
  refine so_aload_n (i := 0) X 0 (dkX12_grantedIn (5, .aload_n 0, 1) (pgm 5 rfl)) rfl rfl ?_
  refine sf_getR X ff_12_0 lk_1702 hk (dkX12_grantedIn (6, .getfield 9, 3) (pgm 6 rfl)) ?_
  refine so_iconst (v := (5 : Int32)) X (dkX12_grantedIn (9, .iconst 5, 1) (pgm 7 rfl)) ic_5 ?_
  refine so_iald X (rk_12_0 this hk) (dkX12_grantedIn (10, .iaload, 1) (pgm 8 rfl)) (fun x3 => ?_)
  refine so_icmp_ge (tgt := 47) X (dkX12_grantedIn (11, .if_icmp .ge 36, 3) (pgm 9 rfl)) rfl (fun _ => ?_) (fun _ => ?_)
  · refine so_iload_n (i := 2) X 2 (dkX12_grantedIn (47, .iload_n 2, 1) (pgm 29 rfl)) rfl rfl ?_
    exact so_iret X hr hlk (dkX12_grantedIn (48, .ireturn, 1) (pgm 30 rfl))
  · refine so_iload_n (i := 2) X 2 (dkX12_grantedIn (14, .iload_n 2, 1) (pgm 10 rfl)) rfl rfl ?_
    refine so_aload_n (i := 0) X 0 (dkX12_grantedIn (15, .aload_n 0, 1) (pgm 11 rfl)) rfl rfl ?_
    refine so_iload_n (i := 3) X 3 (dkX12_grantedIn (16, .iload_n 3, 1) (pgm 12 rfl)) rfl rfl ?_
    refine so_callV (n := 1) (As := [.int s4.2]) X (ct_X12_isOpen l this s4.2 hh4 hk) hk (by decide) rfl lk_1962 lk_1964 lk_84 lk_134 lk_1965 (by decide +kernel) rfl rfl rfl (rm_ok (by omega) (by decide)) ⟨Nat.zero_le _, Nat.zero_le _⟩ (Nat.le_of_ble_eq_true rfl) (dkX12_grantedIn (17, .invokevirtual 289, 3) (pgm 13 rfl)) (fun r4 h5 => ?_) rfl
    refine so_join (jf := fun (t6 : Int32) (h7 : PH) => lt (s4.1 ||| t6) (fun (x8 : Int32) => lt (s4.2 + Int32.ofInt 1) (fun (x9 : Int32) => rec4 (x8, x9) h7))) (fun (j : Int32 → PH → Option (Int32 × PH)) => ∀ (t6 : Int32) (h7 : PH), SWo (QM mkI below args s D cA ad A) p l e (rmd 2) s m args below meth c 0 0 4 D cA ad A 39 [(0, .ref this), (1, .int a1), (3, .int s4.2)] [.int t6, .int s4.1] h7 (j t6 h7)) ?_ (fun j39 hj39 => ?_)
    · intro t6 h7
      refine so_ior X (dkX12_grantedIn (39, .ior, 1) (pgm 25 rfl)) ?_
      refine so_istore_n (i := 2) X (dkX12_grantedIn (40, .istore_n 2, 1) (pgm 26 rfl)) rfl (by decide) (Lf := fun x8 => [(2, .int x8), (0, .ref this), (1, .int a1), (3, .int s4.2)]) (fun _ => rfl) (fun x8 => ?_)
      refine so_iinc (i := 3) X 3 (dkX12_grantedIn (41, .iinc 3 1, 3) (pgm 27 rfl)) rfl rfl (by decide) (Lf := fun x9 => [(3, .int x9), (2, .int x8), (0, .ref this), (1, .int a1)]) (fun _ => rfl) (fun x9 => ?_)
      refine so_goto (tgt := 4) X (dkX12_grantedIn (44, .goto (-40), 3) (pgm 28 rfl)) rfl ?_
      exact so_pick X [2, 3, 1, 0] rfl (hrec4 (x8, x9) h7)
    refine so_join (jf := fun (h10 : PH) => j39 (0 : Int32) h10) (fun (j : PH → Option (Int32 × PH)) => ∀  (h10 : PH), SWo (QM mkI below args s D cA ad A) p l e (rmd 2) s m args below meth c 0 0 4 D cA ad A 38 [(0, .ref this), (1, .int a1), (3, .int s4.2)] [.int s4.1] h10 (j h10)) ?_ (fun j38 hj38 => ?_)
    · intro h10
      refine so_iconst (v := (0 : Int32)) X (dkX12_grantedIn (38, .iconst 0, 1) (pgm 24 rfl)) ic_0 ?_
      exact so_pick X [0, 1, 2] rfl (hj39 (0 : Int32) h10)
    refine so_if_eq (tgt := 38) X (dkX12_grantedIn (20, .ifCond .eq 18, 3) (pgm 14 rfl)) rfl (fun _ => ?_) (fun _ => ?_)
    · exact so_pick X [0, 1, 3] rfl (hj38 h5)
    · refine so_aload_n (i := 0) X 0 (dkX12_grantedIn (23, .aload_n 0, 1) (pgm 15 rfl)) rfl rfl ?_
      refine so_iload_n (i := 3) X 3 (dkX12_grantedIn (24, .iload_n 3, 1) (pgm 16 rfl)) rfl rfl ?_
      refine so_iload_n (i := 1) X 1 (dkX12_grantedIn (25, .iload_n 1, 1) (pgm 17 rfl)) rfl rfl ?_
      refine so_callV (n := 2) (As := [.int s4.2, .int a1]) X (ct_X12_doesHold l this s4.2 a1 h5 hk) hk (by decide) rfl lk_1958 lk_1960 lk_83 lk_134 lk_1961 (by decide +kernel) rfl rfl rfl (rm_ok (by omega) (by decide)) ⟨Nat.zero_le _, Nat.zero_le _⟩ (Nat.le_of_ble_eq_true rfl) (dkX12_grantedIn (26, .invokevirtual 292, 3) (pgm 18 rfl)) (fun r11 h12 => ?_) rfl
      refine so_if_eq (tgt := 38) X (dkX12_grantedIn (29, .ifCond .eq 9, 3) (pgm 19 rfl)) rfl (fun _ => ?_) (fun _ => ?_)
      · exact so_pick X [0, 1, 3] rfl (hj38 h12)
      · refine so_iconst (v := (1 : Int32)) X (dkX12_grantedIn (32, .iconst 1, 1) (pgm 20 rfl)) ic_1 ?_
        refine so_iload_n (i := 3) X 3 (dkX12_grantedIn (33, .iload_n 3, 1) (pgm 21 rfl)) rfl rfl ?_
        refine so_ishl X (dkX12_grantedIn (34, .ishl, 1) (pgm 22 rfl)) ?_
        refine so_goto (tgt := 39) X (dkX12_grantedIn (35, .goto 4, 3) (pgm 23 rfl)) rfl ?_
        exact so_pick X [0, 1, 3] rfl (hj39 ((1 : Int32) <<< (s4.2 &&& 31)) h12)
def pgX12_musts : List (Nat × Instr × Nat) := [(0, .iconst 0, 1), (1, .istore_n 1, 1), (2, .iconst 0, 1), (3, .istore_n 2, 1), (4, .iload_n 2, 1), (5, .aload_n 0, 1), (6, .getfield 9, 3), (9, .iconst 5, 1), (10, .iaload, 1), (11, .if_icmp .ge 40, 3), (14, .iload_n 1, 1), (15, .aload_n 0, 1), (16, .iload_n 2, 1), (17, .invokevirtual 289, 3), (20, .ifCond .eq 22, 3), (23, .aload_n 0, 1), (24, .getfield 9, 3), (27, .bipush 44, 2), (29, .iload_n 2, 1), (30, .iadd, 1), (31, .iaload, 1), (32, .iconst 1, 1), (33, .if_icmp .ne 9, 3), (36, .iconst 1, 1), (37, .iload_n 2, 1), (38, .ishl, 1), (39, .goto 4, 3), (42, .iconst 0, 1), (43, .ior, 1), (44, .istore_n 1, 1), (45, .iinc 2 1, 3), (48, .goto (-44), 3), (51, .iload_n 1, 1), (52, .ireturn, 1)]
theorem dkX12_musts : ∀ q ∈ pgX12_musts, decode cX12_musts q.1 = .ok q.2 := by decide +kernel
def b_X12_musts_4 (this : Nat) (rec4 : (Int32 × Int32) → PH → Option (Int32 × PH)) (s4 : Int32 × Int32) (hh4 : PH) : Option (Int32 × PH) :=
  ldI hh4 (rt this 0) 1200 (5 : Int32) (fun (x3 : Int32) => if x3 ≤ s4.2 then (some (s4.1, hh4)) else (cb (f_X12_isOpen this s4.2 hh4) (fun (r4 : Int32) (h5 : PH) => lt (fun (t6 : Int32) (h7 : PH) => lt (s4.1 ||| t6) (fun (x8 : Int32) => lt (s4.2 + Int32.ofInt 1) (fun (x9 : Int32) => rec4 (x8, x9) h7))) (fun (j43 : Int32 → PH → Option (Int32 × PH)) => lt (fun (h10 : PH) => j43 (0 : Int32) h10) (fun (j42 : PH → Option (Int32 × PH)) => if r4 = 0 then (j42 h5) else (ldI h5 (rt this 0) 1200 ((44 : Int32) + s4.2) (fun (x11 : Int32) => if x11 = (1 : Int32) then (j43 ((1 : Int32) <<< (s4.2 &&& 31)) h5) else (j42 h5))))))))
def f_X12_musts (this : Nat) (h0 : PH) : Option (Int32 × PH) :=
  lt (0 : Int32) (fun (x1 : Int32) => lt (0 : Int32) (fun (x2 : Int32) => lp (b_X12_musts_4 this) FU (x1, x2) h0))
set_option maxRecDepth 100000 in
set_option maxHeartbeats 4000000 in
theorem ct_X12_musts (l : Launch) (this : Nat) (h0 : PH) (hk : (kd this).1 = 12) : CT mkI l yX12_musts cX12_musts 3 (some .int) (rmd 2) [.ref this] h0 (f_X12_musts this h0) := by
  refine ct_of (by decide) (Nat.le_of_ble_eq_true rfl) ?_
  intro p e s m args below meth c D cA ad A X hr hlk
  have X : Cx p s m args c RX12 cX12_musts 3 D cA ad A := X
  unfold f_X12_musts
  refine so_pick (L' := [(0, .ref this)]) X [0] rfl ?_
  refine so_iconst (v := (0 : Int32)) X (dkX12_musts (0, .iconst 0, 1) (pgm 0 rfl)) ic_0 ?_
  refine so_istore_n (i := 1) X (dkX12_musts (1, .istore_n 1, 1) (pgm 1 rfl)) rfl (by decide) (Lf := fun x1 => [(1, .int x1), (0, .ref this)]) (fun _ => rfl) (fun x1 => ?_)
  refine so_iconst (v := (0 : Int32)) X (dkX12_musts (2, .iconst 0, 1) (pgm 2 rfl)) ic_0 ?_
  refine so_istore_n (i := 2) X (dkX12_musts (3, .istore_n 2, 1) (pgm 3 rfl)) rfl (by decide) (Lf := fun x2 => [(2, .int x2), (1, .int x1), (0, .ref this)]) (fun _ => rfl) (fun x2 => ?_)
  refine so_pick (L' := [(0, .ref this), (1, .int x1), (2, .int x2)]) X [2, 1, 0] rfl ?_
  refine so_loop (body := b_X12_musts_4 this) (fun (s4 : Int32 × Int32) => [(0, .ref this), (1, .int s4.1), (2, .int s4.2)]) (fun rec4 hrec4 s4 hh4 => ?_) FU (x1, x2) h0
  unfold b_X12_musts_4
  refine so_iload_n (i := 2) X 2 (dkX12_musts (4, .iload_n 2, 1) (pgm 4 rfl)) rfl rfl ?_
  refine so_aload_n (i := 0) X 0 (dkX12_musts (5, .aload_n 0, 1) (pgm 5 rfl)) rfl rfl ?_
  refine sf_getR X ff_12_0 lk_1702 hk (dkX12_musts (6, .getfield 9, 3) (pgm 6 rfl)) ?_
  refine so_iconst (v := (5 : Int32)) X (dkX12_musts (9, .iconst 5, 1) (pgm 7 rfl)) ic_5 ?_
  refine so_iald X (rk_12_0 this hk) (dkX12_musts (10, .iaload, 1) (pgm 8 rfl)) (fun x3 => ?_)
  refine so_icmp_ge (tgt := 51) X (dkX12_musts (11, .if_icmp .ge 40, 3) (pgm 9 rfl)) rfl (fun _ => ?_) (fun _ => ?_)
  · refine so_iload_n (i := 1) X 1 (dkX12_musts (51, .iload_n 1, 1) (pgm 32 rfl)) rfl rfl ?_
    exact so_iret X hr hlk (dkX12_musts (52, .ireturn, 1) (pgm 33 rfl))
  · refine so_iload_n (i := 1) X 1 (dkX12_musts (14, .iload_n 1, 1) (pgm 10 rfl)) rfl rfl ?_
    refine so_aload_n (i := 0) X 0 (dkX12_musts (15, .aload_n 0, 1) (pgm 11 rfl)) rfl rfl ?_
    refine so_iload_n (i := 2) X 2 (dkX12_musts (16, .iload_n 2, 1) (pgm 12 rfl)) rfl rfl ?_
    refine so_callV (n := 1) (As := [.int s4.2]) X (ct_X12_isOpen l this s4.2 hh4 hk) hk (by decide) rfl lk_1962 lk_1964 lk_84 lk_134 lk_1965 (by decide +kernel) rfl rfl rfl (rm_ok (by omega) (by decide)) ⟨Nat.zero_le _, Nat.zero_le _⟩ (Nat.le_of_ble_eq_true rfl) (dkX12_musts (17, .invokevirtual 289, 3) (pgm 13 rfl)) (fun r4 h5 => ?_) rfl
    refine so_join (jf := fun (t6 : Int32) (h7 : PH) => lt (s4.1 ||| t6) (fun (x8 : Int32) => lt (s4.2 + Int32.ofInt 1) (fun (x9 : Int32) => rec4 (x8, x9) h7))) (fun (j : Int32 → PH → Option (Int32 × PH)) => ∀ (t6 : Int32) (h7 : PH), SWo (QM mkI below args s D cA ad A) p l e (rmd 2) s m args below meth c 0 0 3 D cA ad A 43 [(0, .ref this), (2, .int s4.2)] [.int t6, .int s4.1] h7 (j t6 h7)) ?_ (fun j43 hj43 => ?_)
    · intro t6 h7
      refine so_ior X (dkX12_musts (43, .ior, 1) (pgm 28 rfl)) ?_
      refine so_istore_n (i := 1) X (dkX12_musts (44, .istore_n 1, 1) (pgm 29 rfl)) rfl (by decide) (Lf := fun x8 => [(1, .int x8), (0, .ref this), (2, .int s4.2)]) (fun _ => rfl) (fun x8 => ?_)
      refine so_iinc (i := 2) X 2 (dkX12_musts (45, .iinc 2 1, 3) (pgm 30 rfl)) rfl rfl (by decide) (Lf := fun x9 => [(2, .int x9), (1, .int x8), (0, .ref this)]) (fun _ => rfl) (fun x9 => ?_)
      refine so_goto (tgt := 4) X (dkX12_musts (48, .goto (-44), 3) (pgm 31 rfl)) rfl ?_
      exact so_pick X [2, 1, 0] rfl (hrec4 (x8, x9) h7)
    refine so_join (jf := fun (h10 : PH) => j43 (0 : Int32) h10) (fun (j : PH → Option (Int32 × PH)) => ∀  (h10 : PH), SWo (QM mkI below args s D cA ad A) p l e (rmd 2) s m args below meth c 0 0 3 D cA ad A 42 [(0, .ref this), (2, .int s4.2)] [.int s4.1] h10 (j h10)) ?_ (fun j42 hj42 => ?_)
    · intro h10
      refine so_iconst (v := (0 : Int32)) X (dkX12_musts (42, .iconst 0, 1) (pgm 27 rfl)) ic_0 ?_
      exact so_pick X [0, 1] rfl (hj43 (0 : Int32) h10)
    refine so_if_eq (tgt := 42) X (dkX12_musts (20, .ifCond .eq 22, 3) (pgm 14 rfl)) rfl (fun _ => ?_) (fun _ => ?_)
    · exact so_pick X [0, 2] rfl (hj42 h5)
    · refine so_aload_n (i := 0) X 0 (dkX12_musts (23, .aload_n 0, 1) (pgm 15 rfl)) rfl rfl ?_
      refine sf_getR X ff_12_0 lk_1702 hk (dkX12_musts (24, .getfield 9, 3) (pgm 16 rfl)) ?_
      refine so_bipush (v := (44 : Int32)) X (dkX12_musts (27, .bipush 44, 2) (pgm 17 rfl)) bp_44 ?_
      refine so_iload_n (i := 2) X 2 (dkX12_musts (29, .iload_n 2, 1) (pgm 18 rfl)) rfl rfl ?_
      refine so_iadd X (dkX12_musts (30, .iadd, 1) (pgm 19 rfl)) ?_
      refine so_iald X (rk_12_0 this hk) (dkX12_musts (31, .iaload, 1) (pgm 20 rfl)) (fun x11 => ?_)
      refine so_iconst (v := (1 : Int32)) X (dkX12_musts (32, .iconst 1, 1) (pgm 21 rfl)) ic_1 ?_
      refine so_icmp_ne (tgt := 42) X (dkX12_musts (33, .if_icmp .ne 9, 3) (pgm 22 rfl)) rfl (fun _ => ?_) (fun _ => ?_)
      · exact so_pick X [0, 2] rfl (hj42 h5)
      · refine so_iconst (v := (1 : Int32)) X (dkX12_musts (36, .iconst 1, 1) (pgm 23 rfl)) ic_1 ?_
        refine so_iload_n (i := 2) X 2 (dkX12_musts (37, .iload_n 2, 1) (pgm 24 rfl)) rfl rfl ?_
        refine so_ishl X (dkX12_musts (38, .ishl, 1) (pgm 25 rfl)) ?_
        refine so_goto (tgt := 43) X (dkX12_musts (39, .goto 4, 3) (pgm 26 rfl)) rfl ?_
        exact so_pick X [0, 2] rfl (hj43 ((1 : Int32) <<< (s4.2 &&& 31)) h5)
def pgX12_whyNot : List (Nat × Instr × Nat) := [(0, .aload_n 0, 1), (1, .lload_n 1, 1), (2, .invokevirtual 295, 3), (5, .ifCond .ne 5, 3), (8, .iconst 1, 1), (9, .ireturn, 1), (10, .lload_n 1, 1), (11, .l2i, 1), (12, .invokestatic 269, 3), (15, .aload_n 0, 1), (16, .getfield 9, 3), (19, .iconst 3, 1), (20, .iaload, 1), (21, .if_icmp .le 5, 3), (24, .iconst 2, 1), (25, .ireturn, 1), (26, .aload_n 0, 1), (27, .invokevirtual 299, 3), (30, .aload_n 0, 1), (31, .aload_n 0, 1), (32, .getfield 37, 3), (35, .lload_n 1, 1), (36, .l2i, 1), (37, .iaload, 1), (38, .invokevirtual 302, 3), (41, .iconst (-1), 1), (42, .ixor, 1), (43, .iand, 1), (44, .ifCond .eq 7, 3), (47, .iconst 3, 1), (48, .goto 4, 3), (51, .iconst 0, 1), (52, .ireturn, 1)]
theorem dkX12_whyNot : ∀ q ∈ pgX12_whyNot, decode cX12_whyNot q.1 = .ok q.2 := by decide +kernel
def f_X12_whyNot (this : Nat) (a1 : Int64) (h0 : PH) : Option (Int32 × PH) :=
  cb (f_X12_isSky this a1 h0) (fun (r1 : Int32) (h2 : PH) => if r1 = 0 then (some ((1 : Int32), h2)) else (cb (f_X12_size a1.toInt32 h2) (fun (r3 : Int32) (h4 : PH) => ldI h4 (rt this 0) 1200 (3 : Int32) (fun (x5 : Int32) => if r3 ≤ x5 then (cb (f_X12_musts this h4) (fun (r6 : Int32) (h7 : PH) => ldI h7 (rt this 19) 4096 a1.toInt32 (fun (x8 : Int32) => cb (f_X12_grantedIn this x8 h7) (fun (r9 : Int32) (h10 : PH) => lt (fun (t11 : Int32) (h12 : PH) => some (t11, h12)) (fun (j52 : Int32 → PH → Option (Int32 × PH)) => if (r6 &&& (r9 ^^^ (-1 : Int32))) = 0 then (j52 (0 : Int32) h10) else (j52 (3 : Int32) h10)))))) else (some ((2 : Int32), h4))))))
set_option maxRecDepth 100000 in
set_option maxHeartbeats 4000000 in
theorem ct_X12_whyNot (l : Launch) (this : Nat) (a1 : Int64) (h0 : PH) (hk : (kd this).1 = 12) : CT mkI l yX12_whyNot cX12_whyNot 3 (some .int) (rmd 3) [.ref this, .long a1] h0 (f_X12_whyNot this a1 h0) := by
  refine ct_of (by decide) (Nat.le_of_ble_eq_true rfl) ?_
  intro p e s m args below meth c D cA ad A X hr hlk
  have X : Cx p s m args c RX12 cX12_whyNot 3 D cA ad A := X
  unfold f_X12_whyNot
  refine so_pick (L' := [(0, .ref this), (1, .long a1)]) X [0, 1] rfl ?_
  refine so_aload_n (i := 0) X 0 (dkX12_whyNot (0, .aload_n 0, 1) (pgm 0 rfl)) rfl rfl ?_
  refine so_lload_n (i := 1) X 1 (dkX12_whyNot (1, .lload_n 1, 1) (pgm 1 rfl)) rfl rfl ?_
  refine so_callV (n := 1) (As := [.long a1]) X (ct_X12_isSky l this a1 h0 hk) hk (by decide) rfl lk_1970 lk_1972 lk_85 lk_134 lk_1973 (by decide +kernel) rfl rfl rfl (rm_ok (by omega) (by decide)) ⟨Nat.zero_le _, Nat.zero_le _⟩ (Nat.le_of_ble_eq_true rfl) (dkX12_whyNot (2, .invokevirtual 295, 3) (pgm 2 rfl)) (fun r1 h2 => ?_) rfl
  refine so_if_ne (tgt := 10) X (dkX12_whyNot (5, .ifCond .ne 5, 3) (pgm 3 rfl)) rfl (fun _ => ?_) (fun _ => ?_)
  · refine so_lload_n (i := 1) X 1 (dkX12_whyNot (10, .lload_n 1, 1) (pgm 6 rfl)) rfl rfl ?_
    refine so_l2i X (dkX12_whyNot (11, .l2i, 1) (pgm 7 rfl)) ?_
    refine so_callS (n := 1) (As := [.int a1.toInt32]) X (ct_X12_size l a1.toInt32 h2 ) lk_1687 lk_1688 lk_134 lk_1689 (by decide +kernel) rfl rfl rfl (rm_ok (by omega) (by decide)) ⟨Nat.zero_le _, Nat.zero_le _⟩ (Nat.le_of_ble_eq_true rfl) (dkX12_whyNot (12, .invokestatic 269, 3) (pgm 8 rfl)) (fun r3 h4 => ?_) rfl
    refine so_aload_n (i := 0) X 0 (dkX12_whyNot (15, .aload_n 0, 1) (pgm 9 rfl)) rfl rfl ?_
    refine sf_getR X ff_12_0 lk_1702 hk (dkX12_whyNot (16, .getfield 9, 3) (pgm 10 rfl)) ?_
    refine so_iconst (v := (3 : Int32)) X (dkX12_whyNot (19, .iconst 3, 1) (pgm 11 rfl)) ic_3 ?_
    refine so_iald X (rk_12_0 this hk) (dkX12_whyNot (20, .iaload, 1) (pgm 12 rfl)) (fun x5 => ?_)
    refine so_icmp_le (tgt := 26) X (dkX12_whyNot (21, .if_icmp .le 5, 3) (pgm 13 rfl)) rfl (fun _ => ?_) (fun _ => ?_)
    · refine so_aload_n (i := 0) X 0 (dkX12_whyNot (26, .aload_n 0, 1) (pgm 16 rfl)) rfl rfl ?_
      refine so_callV (n := 0) (As := []) X (ct_X12_musts l this h4 hk) hk (by decide) rfl lk_1986 lk_1988 lk_87 lk_134 lk_1989 (by decide +kernel) rfl rfl rfl (rm_ok (by omega) (by decide)) ⟨Nat.zero_le _, Nat.zero_le _⟩ (Nat.le_of_ble_eq_true rfl) (dkX12_whyNot (27, .invokevirtual 299, 3) (pgm 17 rfl)) (fun r6 h7 => ?_) rfl
      refine so_aload_n (i := 0) X 0 (dkX12_whyNot (30, .aload_n 0, 1) (pgm 18 rfl)) rfl rfl ?_
      refine so_aload_n (i := 0) X 0 (dkX12_whyNot (31, .aload_n 0, 1) (pgm 19 rfl)) rfl rfl ?_
      refine sf_getR X ff_12_19 lk_1721 hk (dkX12_whyNot (32, .getfield 37, 3) (pgm 20 rfl)) ?_
      refine so_lload_n (i := 1) X 1 (dkX12_whyNot (35, .lload_n 1, 1) (pgm 21 rfl)) rfl rfl ?_
      refine so_l2i X (dkX12_whyNot (36, .l2i, 1) (pgm 22 rfl)) ?_
      refine so_iald X (rk_12_19 this hk) (dkX12_whyNot (37, .iaload, 1) (pgm 23 rfl)) (fun x8 => ?_)
      refine so_callV (n := 1) (As := [.int x8]) X (ct_X12_grantedIn l this x8 h7 hk) hk (by decide) rfl lk_1990 lk_1992 lk_88 lk_134 lk_1993 (by decide +kernel) rfl rfl rfl (rm_ok (by omega) (by decide)) ⟨Nat.zero_le _, Nat.zero_le _⟩ (Nat.le_of_ble_eq_true rfl) (dkX12_whyNot (38, .invokevirtual 302, 3) (pgm 24 rfl)) (fun r9 h10 => ?_) rfl
      refine so_iconst (v := (-1 : Int32)) X (dkX12_whyNot (41, .iconst (-1), 1) (pgm 25 rfl)) ic_m1 ?_
      refine so_ixor X (dkX12_whyNot (42, .ixor, 1) (pgm 26 rfl)) ?_
      refine so_iand X (dkX12_whyNot (43, .iand, 1) (pgm 27 rfl)) ?_
      refine so_join (jf := fun (t11 : Int32) (h12 : PH) => some (t11, h12)) (fun (j : Int32 → PH → Option (Int32 × PH)) => ∀ (t11 : Int32) (h12 : PH), SWo (QM mkI below args s D cA ad A) p l e (rmd 3) s m args below meth c 0 0 3 D cA ad A 52 [] [.int t11] h12 (j t11 h12)) ?_ (fun j52 hj52 => ?_)
      · intro t11 h12
        exact so_iret X hr hlk (dkX12_whyNot (52, .ireturn, 1) (pgm 32 rfl))
      refine so_if_eq (tgt := 51) X (dkX12_whyNot (44, .ifCond .eq 7, 3) (pgm 28 rfl)) rfl (fun _ => ?_) (fun _ => ?_)
      · refine so_iconst (v := (0 : Int32)) X (dkX12_whyNot (51, .iconst 0, 1) (pgm 31 rfl)) ic_0 ?_
        exact so_pick X [] rfl (hj52 (0 : Int32) h10)
      · refine so_iconst (v := (3 : Int32)) X (dkX12_whyNot (47, .iconst 3, 1) (pgm 29 rfl)) ic_3 ?_
        refine so_goto (tgt := 52) X (dkX12_whyNot (48, .goto 4, 3) (pgm 30 rfl)) rfl ?_
        exact so_pick X [] rfl (hj52 (3 : Int32) h10)
    · refine so_iconst (v := (2 : Int32)) X (dkX12_whyNot (24, .iconst 2, 1) (pgm 14 rfl)) ic_2 ?_
      exact so_iret X hr hlk (dkX12_whyNot (25, .ireturn, 1) (pgm 15 rfl))
  · refine so_iconst (v := (1 : Int32)) X (dkX12_whyNot (8, .iconst 1, 1) (pgm 4 rfl)) ic_1 ?_
    exact so_iret X hr hlk (dkX12_whyNot (9, .ireturn, 1) (pgm 5 rfl))
def pgX12_wish : List (Nat × Instr × Nat) := [(0, .aload_n 0, 1), (1, .aload_n 0, 1), (2, .iload_n 1, 1), (3, .invokevirtual 305, 3), (6, .ifCond .ne 7, 3), (9, .iconst 1, 1), (10, .goto 20, 3), (13, .iload_n 2, 1), (14, .i2l, 1), (15, .lconst 0, 1), (16, .ldc2_w 308, 3), (19, .invokestatic 156, 3), (22, .ifCond .eq 7, 3), (25, .iconst 0, 1), (26, .goto 4, 3), (29, .iconst 2, 1), (30, .putfield 92, 3), (33, .aload_n 0, 1), (34, .getfield 92, 3), (37, .ifCond .le 5, 3), (40, .iconst 0, 1), (41, .ireturn, 1), (42, .iconst 0, 1), (43, .istore_n 3, 1), (44, .iconst 0, 1), (45, .istore 4, 2), (47, .iload 4, 2), (49, .aload_n 0, 1), (50, .invokevirtual 252, 3), (53, .if_icmp .gt 27, 3), (56, .iload_n 3, 1), (57, .aload_n 0, 1), (58, .iload_n 1, 1), (59, .iload 4, 2), (61, .invokevirtual 292, 3), (64, .ifCond .eq 7, 3), (67, .iconst 1, 1), (68, .goto 4, 3), (71, .iconst 0, 1), (72, .iadd, 1), (73, .istore_n 3, 1), (74, .iinc 4 1, 3), (77, .goto (-30), 3), (80, .iload_n 2, 1), (81, .tableswitch 89 0 4 #[35, 45, 55, 65, 79], 35), (116, .aload_n 0, 1), (117, .getfield 9, 3), (120, .bipush 24, 2), (122, .iload_n 1, 1), (123, .iadd, 1), (124, .iaload, 1), (125, .ireturn, 1), (126, .aload_n 0, 1), (127, .getfield 9, 3), (130, .bipush 34, 2), (132, .iload_n 1, 1), (133, .iadd, 1), (134, .iaload, 1), (135, .ireturn, 1), (136, .aload_n 0, 1), (137, .getfield 9, 3), (140, .bipush 44, 2), (142, .iload_n 1, 1), (143, .iadd, 1), (144, .iaload, 1), (145, .ireturn, 1), (146, .aload_n 0, 1), (147, .iload_n 1, 1), (148, .invokevirtual 289, 3), (151, .ifCond .eq 7, 3), (154, .iconst 1, 1), (155, .goto 4, 3), (158, .iconst 0, 1), (159, .ireturn, 1), (160, .aload_n 0, 1), (161, .getfield 9, 3), (164, .bipush 8, 2), (166, .iload_n 1, 1), (167, .iadd, 1), (168, .iaload, 1), (169, .ireturn, 1), (170, .iload_n 3, 1), (171, .ireturn, 1)]
theorem dkX12_wish : ∀ q ∈ pgX12_wish, decode cX12_wish q.1 = .ok q.2 := by decide +kernel
def b_X12_wish_47 (this : Nat) (a1 : Int32) (j80 : Int32 → PH → Option (Int32 × PH)) (rec47 : (Int32 × Int32) → PH → Option (Int32 × PH)) (s47 : Int32 × Int32) (hh47 : PH) : Option (Int32 × PH) :=
  cb (f_X12_everywhere this hh47) (fun (r18 : Int32) (h19 : PH) => if r18 < s47.2 then (j80 s47.1 h19) else (cb (f_X12_doesHold this a1 s47.2 h19) (fun (r20 : Int32) (h21 : PH) => lt (fun (t22 : Int32) (h23 : PH) => lt (s47.1 + t22) (fun (x24 : Int32) => lt (s47.2 + Int32.ofInt 1) (fun (x25 : Int32) => rec47 (x24, x25) h23))) (fun (j72 : Int32 → PH → Option (Int32 × PH)) => if r20 = 0 then (j72 (0 : Int32) h21) else (j72 (1 : Int32) h21)))))
def f_X12_wish (this : Nat) (a1 : Int32) (a2 : Int32) (h0 : PH) : Option (Int32 × PH) :=
  cb (f_X12_isWish this a1 h0) (fun (r1 : Int32) (h2 : PH) => lt (fun (t3 : Int32) (h4 : PH) => lt (pI h4 this 5 t3) (fun (h5 : PH) => if (h5.1 this 5) ≤ 0 then (lt (0 : Int32) (fun (x6 : Int32) => lt (0 : Int32) (fun (x7 : Int32) => lt (fun (y8 : Int32) (h9 : PH) => if a2.toInt < 0 ∨ 4 < a2.toInt then (some (y8, h9)) else ([ldI h9 (rt this 0) 1200 ((24 : Int32) + a1) (fun (x10 : Int32) => some (x10, h9)), ldI h9 (rt this 0) 1200 ((34 : Int32) + a1) (fun (x11 : Int32) => some (x11, h9)), ldI h9 (rt this 0) 1200 ((44 : Int32) + a1) (fun (x12 : Int32) => some (x12, h9)), cb (f_X12_isOpen this a1 h9) (fun (r13 : Int32) (h14 : PH) => lt (fun (t15 : Int32) (h16 : PH) => some (t15, h16)) (fun (j159 : Int32 → PH → Option (Int32 × PH)) => if r13 = 0 then (j159 (0 : Int32) h14) else (j159 (1 : Int32) h14))), ldI h9 (rt this 0) 1200 ((8 : Int32) + a1) (fun (x17 : Int32) => some (x17, h9))] : List (Option (Int32 × PH))).getD (a2.toInt - 0).toNat none) (fun (j80 : Int32 → PH → Option (Int32 × PH)) => lp (b_X12_wish_47 this a1 j80) FU (x6, x7) h5)))) else (some ((0 : Int32), h5)))) (fun (j30 : Int32 → PH → Option (Int32 × PH)) => if r1 = 0 then (j30 (1 : Int32) h2) else (cb (f_X12_within a2.toInt64 (0 : Int64) (5 : Int64) h2) (fun (r26 : Int32) (h27 : PH) => if r26 = 0 then (j30 (2 : Int32) h27) else (j30 (0 : Int32) h27)))))
set_option maxRecDepth 100000 in
set_option maxHeartbeats 4000000 in
theorem ct_X12_wish (l : Launch) (this : Nat) (a1 : Int32) (a2 : Int32) (h0 : PH) (hk : (kd this).1 = 12) : CT mkI l yX12_wish cX12_wish 5 (some .int) (rmd 2) [.ref this, .int a1, .int a2] h0 (f_X12_wish this a1 a2 h0) := by
  refine ct_of (by decide) (Nat.le_of_ble_eq_true rfl) ?_
  intro p e s m args below meth c D cA ad A X hr hlk
  have X : Cx p s m args c RX12 cX12_wish 5 D cA ad A := X
  unfold f_X12_wish
  refine so_pick (L' := [(0, .ref this), (1, .int a1), (2, .int a2)]) X [0, 1, 2] rfl ?_
  refine so_aload_n (i := 0) X 0 (dkX12_wish (0, .aload_n 0, 1) (pgm 0 rfl)) rfl rfl ?_
  refine so_aload_n (i := 0) X 0 (dkX12_wish (1, .aload_n 0, 1) (pgm 1 rfl)) rfl rfl ?_
  refine so_iload_n (i := 1) X 1 (dkX12_wish (2, .iload_n 1, 1) (pgm 2 rfl)) rfl rfl ?_
  refine so_callV (n := 1) (As := [.int a1]) X (ct_X12_isWish l this a1 h0 hk) hk (by decide) rfl lk_1953 lk_1955 lk_82 lk_134 lk_1956 (by decide +kernel) rfl rfl rfl (rm_ok (by omega) (by decide)) ⟨Nat.zero_le _, Nat.zero_le _⟩ (Nat.le_of_ble_eq_true rfl) (dkX12_wish (3, .invokevirtual 305, 3) (pgm 3 rfl)) (fun r1 h2 => ?_) rfl
  refine so_join (jf := fun (t3 : Int32) (h4 : PH) => lt (pI h4 this 5 t3) (fun (h5 : PH) => if (h5.1 this 5) ≤ 0 then (lt (0 : Int32) (fun (x6 : Int32) => lt (0 : Int32) (fun (x7 : Int32) => lt (fun (y8 : Int32) (h9 : PH) => if a2.toInt < 0 ∨ 4 < a2.toInt then (some (y8, h9)) else ([ldI h9 (rt this 0) 1200 ((24 : Int32) + a1) (fun (x10 : Int32) => some (x10, h9)), ldI h9 (rt this 0) 1200 ((34 : Int32) + a1) (fun (x11 : Int32) => some (x11, h9)), ldI h9 (rt this 0) 1200 ((44 : Int32) + a1) (fun (x12 : Int32) => some (x12, h9)), cb (f_X12_isOpen this a1 h9) (fun (r13 : Int32) (h14 : PH) => lt (fun (t15 : Int32) (h16 : PH) => some (t15, h16)) (fun (j159 : Int32 → PH → Option (Int32 × PH)) => if r13 = 0 then (j159 (0 : Int32) h14) else (j159 (1 : Int32) h14))), ldI h9 (rt this 0) 1200 ((8 : Int32) + a1) (fun (x17 : Int32) => some (x17, h9))] : List (Option (Int32 × PH))).getD (a2.toInt - 0).toNat none) (fun (j80 : Int32 → PH → Option (Int32 × PH)) => lp (b_X12_wish_47 this a1 j80) FU (x6, x7) h5)))) else (some ((0 : Int32), h5)))) (fun (j : Int32 → PH → Option (Int32 × PH)) => ∀ (t3 : Int32) (h4 : PH), SWo (QM mkI below args s D cA ad A) p l e (rmd 2) s m args below meth c 0 0 5 D cA ad A 30 [(0, .ref this), (1, .int a1), (2, .int a2)] [.int t3, .ref this] h4 (j t3 h4)) ?_ (fun j30 hj30 => ?_)
  · intro t3 h4
    refine sf_putI X ff_12_5 ft_12 rfl lk_1707 hk rfl rfl (dkX12_wish (30, .putfield 92, 3) (pgm 16 rfl)) (fun h5 => ?_)
    refine so_aload_n (i := 0) X 0 (dkX12_wish (33, .aload_n 0, 1) (pgm 17 rfl)) rfl rfl ?_
    refine sf_getI X ff_12_5 lk_1707 hk (dkX12_wish (34, .getfield 92, 3) (pgm 18 rfl)) ?_
    refine so_if_le (tgt := 42) X (dkX12_wish (37, .ifCond .le 5, 3) (pgm 19 rfl)) rfl (fun _ => ?_) (fun _ => ?_)
    · refine so_iconst (v := (0 : Int32)) X (dkX12_wish (42, .iconst 0, 1) (pgm 22 rfl)) ic_0 ?_
      refine so_istore_n (i := 3) X (dkX12_wish (43, .istore_n 3, 1) (pgm 23 rfl)) rfl (by decide) (Lf := fun x6 => [(3, .int x6), (0, .ref this), (1, .int a1), (2, .int a2)]) (fun _ => rfl) (fun x6 => ?_)
      refine so_iconst (v := (0 : Int32)) X (dkX12_wish (44, .iconst 0, 1) (pgm 24 rfl)) ic_0 ?_
      refine so_istore (i := 4) X (dkX12_wish (45, .istore 4, 2) (pgm 25 rfl)) (by decide) (Lf := fun x7 => [(4, .int x7), (3, .int x6), (0, .ref this), (1, .int a1), (2, .int a2)]) (fun _ => rfl) (fun x7 => ?_)
      refine so_join (jf := fun (y8 : Int32) (h9 : PH) => if a2.toInt < 0 ∨ 4 < a2.toInt then (some (y8, h9)) else ([ldI h9 (rt this 0) 1200 ((24 : Int32) + a1) (fun (x10 : Int32) => some (x10, h9)), ldI h9 (rt this 0) 1200 ((34 : Int32) + a1) (fun (x11 : Int32) => some (x11, h9)), ldI h9 (rt this 0) 1200 ((44 : Int32) + a1) (fun (x12 : Int32) => some (x12, h9)), cb (f_X12_isOpen this a1 h9) (fun (r13 : Int32) (h14 : PH) => lt (fun (t15 : Int32) (h16 : PH) => some (t15, h16)) (fun (j159 : Int32 → PH → Option (Int32 × PH)) => if r13 = 0 then (j159 (0 : Int32) h14) else (j159 (1 : Int32) h14))), ldI h9 (rt this 0) 1200 ((8 : Int32) + a1) (fun (x17 : Int32) => some (x17, h9))] : List (Option (Int32 × PH))).getD (a2.toInt - 0).toNat none) (fun (j : Int32 → PH → Option (Int32 × PH)) => ∀ (y8 : Int32) (h9 : PH), SWo (QM mkI below args s D cA ad A) p l e (rmd 2) s m args below meth c 0 0 5 D cA ad A 80 [(0, .ref this), (1, .int a1), (2, .int a2), (3, .int y8)] [] h9 (j y8 h9)) ?_ (fun j80 hj80 => ?_)
      · intro y8 h9
        refine so_iload_n (i := 2) X 2 (dkX12_wish (80, .iload_n 2, 1) (pgm 43 rfl)) rfl rfl ?_
        refine so_tsw (tgt := 170) (os := [ldI h9 (rt this 0) 1200 ((24 : Int32) + a1) (fun (x10 : Int32) => some (x10, h9)), ldI h9 (rt this 0) 1200 ((34 : Int32) + a1) (fun (x11 : Int32) => some (x11, h9)), ldI h9 (rt this 0) 1200 ((44 : Int32) + a1) (fun (x12 : Int32) => some (x12, h9)), cb (f_X12_isOpen this a1 h9) (fun (r13 : Int32) (h14 : PH) => lt (fun (t15 : Int32) (h16 : PH) => some (t15, h16)) (fun (j159 : Int32 → PH → Option (Int32 × PH)) => if r13 = 0 then (j159 (0 : Int32) h14) else (j159 (1 : Int32) h14))), ldI h9 (rt this 0) 1200 ((8 : Int32) + a1) (fun (x17 : Int32) => some (x17, h9))]) X (dkX12_wish (81, .tableswitch 89 0 4 #[35, 45, 55, 65, 79], 35) (pgm 44 rfl)) rfl ?_ ?_ rfl
        · refine so_iload_n (i := 3) X 3 (dkX12_wish (170, .iload_n 3, 1) (pgm 81 rfl)) rfl rfl ?_
          exact so_iret X hr hlk (dkX12_wish (171, .ireturn, 1) (pgm 82 rfl))
        · intro kq ok hkq
          match kq, hkq with
          | 0, hkq =>
            obtain rfl := Option.some.inj hkq
            refine ⟨35, 116, rfl, rfl, ?_⟩
            refine so_aload_n (i := 0) X 0 (dkX12_wish (116, .aload_n 0, 1) (pgm 45 rfl)) rfl rfl ?_
            refine sf_getR X ff_12_0 lk_1702 hk (dkX12_wish (117, .getfield 9, 3) (pgm 46 rfl)) ?_
            refine so_bipush (v := (24 : Int32)) X (dkX12_wish (120, .bipush 24, 2) (pgm 47 rfl)) bp_24 ?_
            refine so_iload_n (i := 1) X 1 (dkX12_wish (122, .iload_n 1, 1) (pgm 48 rfl)) rfl rfl ?_
            refine so_iadd X (dkX12_wish (123, .iadd, 1) (pgm 49 rfl)) ?_
            refine so_iald X (rk_12_0 this hk) (dkX12_wish (124, .iaload, 1) (pgm 50 rfl)) (fun x10 => ?_)
            exact so_iret X hr hlk (dkX12_wish (125, .ireturn, 1) (pgm 51 rfl))
          | 1, hkq =>
            obtain rfl := Option.some.inj hkq
            refine ⟨45, 126, rfl, rfl, ?_⟩
            refine so_aload_n (i := 0) X 0 (dkX12_wish (126, .aload_n 0, 1) (pgm 52 rfl)) rfl rfl ?_
            refine sf_getR X ff_12_0 lk_1702 hk (dkX12_wish (127, .getfield 9, 3) (pgm 53 rfl)) ?_
            refine so_bipush (v := (34 : Int32)) X (dkX12_wish (130, .bipush 34, 2) (pgm 54 rfl)) bp_34 ?_
            refine so_iload_n (i := 1) X 1 (dkX12_wish (132, .iload_n 1, 1) (pgm 55 rfl)) rfl rfl ?_
            refine so_iadd X (dkX12_wish (133, .iadd, 1) (pgm 56 rfl)) ?_
            refine so_iald X (rk_12_0 this hk) (dkX12_wish (134, .iaload, 1) (pgm 57 rfl)) (fun x11 => ?_)
            exact so_iret X hr hlk (dkX12_wish (135, .ireturn, 1) (pgm 58 rfl))
          | 2, hkq =>
            obtain rfl := Option.some.inj hkq
            refine ⟨55, 136, rfl, rfl, ?_⟩
            refine so_aload_n (i := 0) X 0 (dkX12_wish (136, .aload_n 0, 1) (pgm 59 rfl)) rfl rfl ?_
            refine sf_getR X ff_12_0 lk_1702 hk (dkX12_wish (137, .getfield 9, 3) (pgm 60 rfl)) ?_
            refine so_bipush (v := (44 : Int32)) X (dkX12_wish (140, .bipush 44, 2) (pgm 61 rfl)) bp_44 ?_
            refine so_iload_n (i := 1) X 1 (dkX12_wish (142, .iload_n 1, 1) (pgm 62 rfl)) rfl rfl ?_
            refine so_iadd X (dkX12_wish (143, .iadd, 1) (pgm 63 rfl)) ?_
            refine so_iald X (rk_12_0 this hk) (dkX12_wish (144, .iaload, 1) (pgm 64 rfl)) (fun x12 => ?_)
            exact so_iret X hr hlk (dkX12_wish (145, .ireturn, 1) (pgm 65 rfl))
          | 3, hkq =>
            obtain rfl := Option.some.inj hkq
            refine ⟨65, 146, rfl, rfl, ?_⟩
            refine so_aload_n (i := 0) X 0 (dkX12_wish (146, .aload_n 0, 1) (pgm 66 rfl)) rfl rfl ?_
            refine so_iload_n (i := 1) X 1 (dkX12_wish (147, .iload_n 1, 1) (pgm 67 rfl)) rfl rfl ?_
            refine so_callV (n := 1) (As := [.int a1]) X (ct_X12_isOpen l this a1 h9 hk) hk (by decide) rfl lk_1962 lk_1964 lk_84 lk_134 lk_1965 (by decide +kernel) rfl rfl rfl (rm_ok (by omega) (by decide)) ⟨Nat.zero_le _, Nat.zero_le _⟩ (Nat.le_of_ble_eq_true rfl) (dkX12_wish (148, .invokevirtual 289, 3) (pgm 68 rfl)) (fun r13 h14 => ?_) rfl
            refine so_join (jf := fun (t15 : Int32) (h16 : PH) => some (t15, h16)) (fun (j : Int32 → PH → Option (Int32 × PH)) => ∀ (t15 : Int32) (h16 : PH), SWo (QM mkI below args s D cA ad A) p l e (rmd 2) s m args below meth c 0 0 5 D cA ad A 159 [] [.int t15] h16 (j t15 h16)) ?_ (fun j159 hj159 => ?_)
            · intro t15 h16
              exact so_iret X hr hlk (dkX12_wish (159, .ireturn, 1) (pgm 73 rfl))
            refine so_if_eq (tgt := 158) X (dkX12_wish (151, .ifCond .eq 7, 3) (pgm 69 rfl)) rfl (fun _ => ?_) (fun _ => ?_)
            · refine so_iconst (v := (0 : Int32)) X (dkX12_wish (158, .iconst 0, 1) (pgm 72 rfl)) ic_0 ?_
              exact so_pick X [] rfl (hj159 (0 : Int32) h14)
            · refine so_iconst (v := (1 : Int32)) X (dkX12_wish (154, .iconst 1, 1) (pgm 70 rfl)) ic_1 ?_
              refine so_goto (tgt := 159) X (dkX12_wish (155, .goto 4, 3) (pgm 71 rfl)) rfl ?_
              exact so_pick X [] rfl (hj159 (1 : Int32) h14)
          | 4, hkq =>
            obtain rfl := Option.some.inj hkq
            refine ⟨79, 160, rfl, rfl, ?_⟩
            refine so_aload_n (i := 0) X 0 (dkX12_wish (160, .aload_n 0, 1) (pgm 74 rfl)) rfl rfl ?_
            refine sf_getR X ff_12_0 lk_1702 hk (dkX12_wish (161, .getfield 9, 3) (pgm 75 rfl)) ?_
            refine so_bipush (v := (8 : Int32)) X (dkX12_wish (164, .bipush 8, 2) (pgm 76 rfl)) bp_8 ?_
            refine so_iload_n (i := 1) X 1 (dkX12_wish (166, .iload_n 1, 1) (pgm 77 rfl)) rfl rfl ?_
            refine so_iadd X (dkX12_wish (167, .iadd, 1) (pgm 78 rfl)) ?_
            refine so_iald X (rk_12_0 this hk) (dkX12_wish (168, .iaload, 1) (pgm 79 rfl)) (fun x17 => ?_)
            exact so_iret X hr hlk (dkX12_wish (169, .ireturn, 1) (pgm 80 rfl))
          | kq + 5, hkq => simp at hkq
      refine so_pick (L' := [(0, .ref this), (1, .int a1), (2, .int a2), (3, .int x6), (4, .int x7)]) X [2, 3, 4, 1, 0] rfl ?_
      refine so_loop (body := b_X12_wish_47 this a1 j80) (fun (s47 : Int32 × Int32) => [(0, .ref this), (1, .int a1), (2, .int a2), (3, .int s47.1), (4, .int s47.2)]) (fun rec47 hrec47 s47 hh47 => ?_) FU (x6, x7) h5
      unfold b_X12_wish_47
      refine so_iload (i := 4) X 4 (dkX12_wish (47, .iload 4, 2) (pgm 26 rfl)) rfl ?_
      refine so_aload_n (i := 0) X 0 (dkX12_wish (49, .aload_n 0, 1) (pgm 27 rfl)) rfl rfl ?_
      refine so_callV (n := 0) (As := []) X (ct_X12_everywhere l this hh47 hk) hk (by decide) rfl lk_1664 lk_1666 lk_56 lk_134 lk_1667 (by decide +kernel) rfl rfl rfl (rm_ok (by omega) (by decide)) ⟨Nat.zero_le _, Nat.zero_le _⟩ (Nat.le_of_ble_eq_true rfl) (dkX12_wish (50, .invokevirtual 252, 3) (pgm 28 rfl)) (fun r18 h19 => ?_) rfl
      refine so_icmp_gt (tgt := 80) X (dkX12_wish (53, .if_icmp .gt 27, 3) (pgm 29 rfl)) rfl (fun _ => ?_) (fun _ => ?_)
      · exact so_pick X [0, 1, 2, 3] rfl (hj80 s47.1 h19)
      · refine so_iload_n (i := 3) X 3 (dkX12_wish (56, .iload_n 3, 1) (pgm 30 rfl)) rfl rfl ?_
        refine so_aload_n (i := 0) X 0 (dkX12_wish (57, .aload_n 0, 1) (pgm 31 rfl)) rfl rfl ?_
        refine so_iload_n (i := 1) X 1 (dkX12_wish (58, .iload_n 1, 1) (pgm 32 rfl)) rfl rfl ?_
        refine so_iload (i := 4) X 4 (dkX12_wish (59, .iload 4, 2) (pgm 33 rfl)) rfl ?_
        refine so_callV (n := 2) (As := [.int a1, .int s47.2]) X (ct_X12_doesHold l this a1 s47.2 h19 hk) hk (by decide) rfl lk_1958 lk_1960 lk_83 lk_134 lk_1961 (by decide +kernel) rfl rfl rfl (rm_ok (by omega) (by decide)) ⟨Nat.zero_le _, Nat.zero_le _⟩ (Nat.le_of_ble_eq_true rfl) (dkX12_wish (61, .invokevirtual 292, 3) (pgm 34 rfl)) (fun r20 h21 => ?_) rfl
        refine so_join (jf := fun (t22 : Int32) (h23 : PH) => lt (s47.1 + t22) (fun (x24 : Int32) => lt (s47.2 + Int32.ofInt 1) (fun (x25 : Int32) => rec47 (x24, x25) h23))) (fun (j : Int32 → PH → Option (Int32 × PH)) => ∀ (t22 : Int32) (h23 : PH), SWo (QM mkI below args s D cA ad A) p l e (rmd 2) s m args below meth c 0 0 5 D cA ad A 72 [(0, .ref this), (1, .int a1), (2, .int a2), (4, .int s47.2)] [.int t22, .int s47.1] h23 (j t22 h23)) ?_ (fun j72 hj72 => ?_)
        · intro t22 h23
          refine so_iadd X (dkX12_wish (72, .iadd, 1) (pgm 39 rfl)) ?_
          refine so_istore_n (i := 3) X (dkX12_wish (73, .istore_n 3, 1) (pgm 40 rfl)) rfl (by decide) (Lf := fun x24 => [(3, .int x24), (0, .ref this), (1, .int a1), (2, .int a2), (4, .int s47.2)]) (fun _ => rfl) (fun x24 => ?_)
          refine so_iinc (i := 4) X 4 (dkX12_wish (74, .iinc 4 1, 3) (pgm 41 rfl)) rfl rfl (by decide) (Lf := fun x25 => [(4, .int x25), (3, .int x24), (0, .ref this), (1, .int a1), (2, .int a2)]) (fun _ => rfl) (fun x25 => ?_)
          refine so_goto (tgt := 47) X (dkX12_wish (77, .goto (-30), 3) (pgm 42 rfl)) rfl ?_
          exact so_pick X [2, 3, 4, 1, 0] rfl (hrec47 (x24, x25) h23)
        refine so_if_eq (tgt := 71) X (dkX12_wish (64, .ifCond .eq 7, 3) (pgm 35 rfl)) rfl (fun _ => ?_) (fun _ => ?_)
        · refine so_iconst (v := (0 : Int32)) X (dkX12_wish (71, .iconst 0, 1) (pgm 38 rfl)) ic_0 ?_
          exact so_pick X [0, 1, 2, 4] rfl (hj72 (0 : Int32) h21)
        · refine so_iconst (v := (1 : Int32)) X (dkX12_wish (67, .iconst 1, 1) (pgm 36 rfl)) ic_1 ?_
          refine so_goto (tgt := 72) X (dkX12_wish (68, .goto 4, 3) (pgm 37 rfl)) rfl ?_
          exact so_pick X [0, 1, 2, 4] rfl (hj72 (1 : Int32) h21)
    · refine so_iconst (v := (0 : Int32)) X (dkX12_wish (40, .iconst 0, 1) (pgm 20 rfl)) ic_0 ?_
      exact so_iret X hr hlk (dkX12_wish (41, .ireturn, 1) (pgm 21 rfl))
  refine so_if_ne (tgt := 13) X (dkX12_wish (6, .ifCond .ne 7, 3) (pgm 4 rfl)) rfl (fun _ => ?_) (fun _ => ?_)
  · refine so_iload_n (i := 2) X 2 (dkX12_wish (13, .iload_n 2, 1) (pgm 7 rfl)) rfl rfl ?_
    refine so_i2l X (dkX12_wish (14, .i2l, 1) (pgm 8 rfl)) ?_
    refine so_lconst (v := (0 : Int64)) X (dkX12_wish (15, .lconst 0, 1) (pgm 9 rfl)) lc_0 ?_
    refine so_ldc2 X lk_1957 (dkX12_wish (16, .ldc2_w 308, 3) (pgm 10 rfl)) ?_
    refine so_callS (n := 3) (As := [.long a2.toInt64, .long (0 : Int64), .long (5 : Int64)]) X (ct_X12_within l a2.toInt64 (0 : Int64) (5 : Int64) h2 ) lk_1832 lk_1833 lk_134 lk_1834 (by decide +kernel) rfl rfl rfl (rm_ok (by omega) (by decide)) ⟨Nat.zero_le _, Nat.zero_le _⟩ (Nat.le_of_ble_eq_true rfl) (dkX12_wish (19, .invokestatic 156, 3) (pgm 11 rfl)) (fun r26 h27 => ?_) rfl
    refine so_if_eq (tgt := 29) X (dkX12_wish (22, .ifCond .eq 7, 3) (pgm 12 rfl)) rfl (fun _ => ?_) (fun _ => ?_)
    · refine so_iconst (v := (2 : Int32)) X (dkX12_wish (29, .iconst 2, 1) (pgm 15 rfl)) ic_2 ?_
      exact so_pick X [0, 1, 2] rfl (hj30 (2 : Int32) h27)
    · refine so_iconst (v := (0 : Int32)) X (dkX12_wish (25, .iconst 0, 1) (pgm 13 rfl)) ic_0 ?_
      refine so_goto (tgt := 30) X (dkX12_wish (26, .goto 4, 3) (pgm 14 rfl)) rfl ?_
      exact so_pick X [0, 1, 2] rfl (hj30 (0 : Int32) h27)
  · refine so_iconst (v := (1 : Int32)) X (dkX12_wish (9, .iconst 1, 1) (pgm 5 rfl)) ic_1 ?_
    refine so_goto (tgt := 30) X (dkX12_wish (10, .goto 20, 3) (pgm 6 rfl)) rfl ?_
    exact so_pick X [0, 1, 2] rfl (hj30 (1 : Int32) h2)
def pgX12_weather : List (Nat × Instr × Nat) := [(0, .aload_n 0, 1), (1, .iconst 0, 1), (2, .putfield 92, 3), (5, .aload_n 0, 1), (6, .iload_n 1, 1), (7, .i2l, 1), (8, .invokevirtual 295, 3), (11, .ifCond .eq 12, 3), (14, .aload_n 0, 1), (15, .getfield 37, 3), (18, .iload_n 1, 1), (19, .iaload, 1), (20, .goto 8, 3), (23, .aload_n 0, 1), (24, .iconst 1, 1), (25, .invokevirtual 233, 3), (28, .ireturn, 1)]
theorem dkX12_weather : ∀ q ∈ pgX12_weather, decode cX12_weather q.1 = .ok q.2 := by decide +kernel
def f_X12_weather (this : Nat) (a1 : Int32) (h0 : PH) : Option (Int32 × PH) :=
  lt (pI h0 this 5 (0 : Int32)) (fun (h1 : PH) => cb (f_X12_isSky this a1.toInt64 h1) (fun (r2 : Int32) (h3 : PH) => lt (fun (t4 : Int32) (h5 : PH) => some (t4, h5)) (fun (j28 : Int32 → PH → Option (Int32 × PH)) => if r2 = 0 then (cb (f_X12_fails this (1 : Int32) h3) (fun (r6 : Int32) (h7 : PH) => j28 r6 h7)) else (ldI h3 (rt this 19) 4096 a1 (fun (x8 : Int32) => j28 x8 h3)))))
set_option maxRecDepth 100000 in
set_option maxHeartbeats 4000000 in
theorem ct_X12_weather (l : Launch) (this : Nat) (a1 : Int32) (h0 : PH) (hk : (kd this).1 = 12) : CT mkI l yX12_weather cX12_weather 2 (some .int) (rmd 3) [.ref this, .int a1] h0 (f_X12_weather this a1 h0) := by
  refine ct_of (by decide) (Nat.le_of_ble_eq_true rfl) ?_
  intro p e s m args below meth c D cA ad A X hr hlk
  have X : Cx p s m args c RX12 cX12_weather 2 D cA ad A := X
  unfold f_X12_weather
  refine so_pick (L' := [(0, .ref this), (1, .int a1)]) X [0, 1] rfl ?_
  refine so_aload_n (i := 0) X 0 (dkX12_weather (0, .aload_n 0, 1) (pgm 0 rfl)) rfl rfl ?_
  refine so_iconst (v := (0 : Int32)) X (dkX12_weather (1, .iconst 0, 1) (pgm 1 rfl)) ic_0 ?_
  refine sf_putI X ff_12_5 ft_12 rfl lk_1707 hk rfl rfl (dkX12_weather (2, .putfield 92, 3) (pgm 2 rfl)) (fun h1 => ?_)
  refine so_aload_n (i := 0) X 0 (dkX12_weather (5, .aload_n 0, 1) (pgm 3 rfl)) rfl rfl ?_
  refine so_iload_n (i := 1) X 1 (dkX12_weather (6, .iload_n 1, 1) (pgm 4 rfl)) rfl rfl ?_
  refine so_i2l X (dkX12_weather (7, .i2l, 1) (pgm 5 rfl)) ?_
  refine so_callV (n := 1) (As := [.long a1.toInt64]) X (ct_X12_isSky l this a1.toInt64 h1 hk) hk (by decide) rfl lk_1970 lk_1972 lk_85 lk_134 lk_1973 (by decide +kernel) rfl rfl rfl (rm_ok (by omega) (by decide)) ⟨Nat.zero_le _, Nat.zero_le _⟩ (Nat.le_of_ble_eq_true rfl) (dkX12_weather (8, .invokevirtual 295, 3) (pgm 6 rfl)) (fun r2 h3 => ?_) rfl
  refine so_join (jf := fun (t4 : Int32) (h5 : PH) => some (t4, h5)) (fun (j : Int32 → PH → Option (Int32 × PH)) => ∀ (t4 : Int32) (h5 : PH), SWo (QM mkI below args s D cA ad A) p l e (rmd 3) s m args below meth c 0 0 2 D cA ad A 28 [] [.int t4] h5 (j t4 h5)) ?_ (fun j28 hj28 => ?_)
  · intro t4 h5
    exact so_iret X hr hlk (dkX12_weather (28, .ireturn, 1) (pgm 16 rfl))
  refine so_if_eq (tgt := 23) X (dkX12_weather (11, .ifCond .eq 12, 3) (pgm 7 rfl)) rfl (fun _ => ?_) (fun _ => ?_)
  · refine so_aload_n (i := 0) X 0 (dkX12_weather (23, .aload_n 0, 1) (pgm 13 rfl)) rfl rfl ?_
    refine so_iconst (v := (1 : Int32)) X (dkX12_weather (24, .iconst 1, 1) (pgm 14 rfl)) ic_1 ?_
    refine so_callV (n := 1) (As := [.int (1 : Int32)]) X (ct_X12_fails l this (1 : Int32) h3 hk) hk (by decide) rfl lk_1835 lk_1837 lk_61 lk_134 lk_1838 (by decide +kernel) rfl rfl rfl (rm_ok (by omega) (by decide)) ⟨Nat.zero_le _, Nat.zero_le _⟩ (Nat.le_of_ble_eq_true rfl) (dkX12_weather (25, .invokevirtual 233, 3) (pgm 15 rfl)) (fun r6 h7 => ?_) rfl
    exact so_pick X [] rfl (hj28 r6 h7)
  · refine so_aload_n (i := 0) X 0 (dkX12_weather (14, .aload_n 0, 1) (pgm 8 rfl)) rfl rfl ?_
    refine sf_getR X ff_12_19 lk_1721 hk (dkX12_weather (15, .getfield 37, 3) (pgm 9 rfl)) ?_
    refine so_iload_n (i := 1) X 1 (dkX12_weather (18, .iload_n 1, 1) (pgm 10 rfl)) rfl rfl ?_
    refine so_iald X (rk_12_19 this hk) (dkX12_weather (19, .iaload, 1) (pgm 11 rfl)) (fun x8 => ?_)
    refine so_goto (tgt := 28) X (dkX12_weather (20, .goto 8, 3) (pgm 12 rfl)) rfl ?_
    exact so_pick X [] rfl (hj28 x8 h3)
def pgX12_holds : List (Nat × Instr × Nat) := [(0, .aload_n 0, 1), (1, .aload_n 0, 1), (2, .iload_n 1, 1), (3, .invokevirtual 305, 3), (6, .ifCond .ne 7, 3), (9, .iconst 1, 1), (10, .goto 17, 3), (13, .aload_n 0, 1), (14, .iload_n 2, 1), (15, .i2l, 1), (16, .invokevirtual 295, 3), (19, .ifCond .eq 7, 3), (22, .iconst 0, 1), (23, .goto 4, 3), (26, .iconst 2, 1), (27, .putfield 92, 3), (30, .aload_n 0, 1), (31, .getfield 92, 3), (34, .ifCond .ne 16, 3), (37, .aload_n 0, 1), (38, .iload_n 1, 1), (39, .iload_n 2, 1), (40, .invokevirtual 292, 3), (43, .ifCond .eq 7, 3), (46, .iconst 1, 1), (47, .goto 4, 3), (50, .iconst 0, 1), (51, .ireturn, 1)]
theorem dkX12_holds : ∀ q ∈ pgX12_holds, decode cX12_holds q.1 = .ok q.2 := by decide +kernel
def f_X12_holds (this : Nat) (a1 : Int32) (a2 : Int32) (h0 : PH) : Option (Int32 × PH) :=
  cb (f_X12_isWish this a1 h0) (fun (r1 : Int32) (h2 : PH) => lt (fun (t3 : Int32) (h4 : PH) => lt (pI h4 this 5 t3) (fun (h5 : PH) => lt (fun (t6 : Int32) (h7 : PH) => zr t6 h7) (fun (j51 : Int32 → PH → Option (Int32 × PH)) => lt (fun (h8 : PH) => j51 (0 : Int32) h8) (fun (j50 : PH → Option (Int32 × PH)) => if (h5.1 this 5) = 0 then (cb (f_X12_doesHold this a1 a2 h5) (fun (r9 : Int32) (h10 : PH) => if r9 = 0 then (j50 h10) else (j51 (1 : Int32) h10))) else (j50 h5))))) (fun (j27 : Int32 → PH → Option (Int32 × PH)) => if r1 = 0 then (j27 (1 : Int32) h2) else (cb (f_X12_isSky this a2.toInt64 h2) (fun (r11 : Int32) (h12 : PH) => if r11 = 0 then (j27 (2 : Int32) h12) else (j27 (0 : Int32) h12)))))
set_option maxRecDepth 100000 in
set_option maxHeartbeats 4000000 in
theorem ct_X12_holds (l : Launch) (this : Nat) (a1 : Int32) (a2 : Int32) (h0 : PH) (hk : (kd this).1 = 12) : CT mkI l yX12_holds cX12_holds 3 (some .boolean) (rmd 3) [.ref this, .int a1, .int a2] h0 (f_X12_holds this a1 a2 h0) := by
  refine ct_of (by decide) (Nat.le_of_ble_eq_true rfl) ?_
  intro p e s m args below meth c D cA ad A X hr hlk
  have X : Cx p s m args c RX12 cX12_holds 3 D cA ad A := X
  unfold f_X12_holds
  refine so_pick (L' := [(0, .ref this), (1, .int a1), (2, .int a2)]) X [0, 1, 2] rfl ?_
  refine so_aload_n (i := 0) X 0 (dkX12_holds (0, .aload_n 0, 1) (pgm 0 rfl)) rfl rfl ?_
  refine so_aload_n (i := 0) X 0 (dkX12_holds (1, .aload_n 0, 1) (pgm 1 rfl)) rfl rfl ?_
  refine so_iload_n (i := 1) X 1 (dkX12_holds (2, .iload_n 1, 1) (pgm 2 rfl)) rfl rfl ?_
  refine so_callV (n := 1) (As := [.int a1]) X (ct_X12_isWish l this a1 h0 hk) hk (by decide) rfl lk_1953 lk_1955 lk_82 lk_134 lk_1956 (by decide +kernel) rfl rfl rfl (rm_ok (by omega) (by decide)) ⟨Nat.zero_le _, Nat.zero_le _⟩ (Nat.le_of_ble_eq_true rfl) (dkX12_holds (3, .invokevirtual 305, 3) (pgm 3 rfl)) (fun r1 h2 => ?_) rfl
  refine so_join (jf := fun (t3 : Int32) (h4 : PH) => lt (pI h4 this 5 t3) (fun (h5 : PH) => lt (fun (t6 : Int32) (h7 : PH) => zr t6 h7) (fun (j51 : Int32 → PH → Option (Int32 × PH)) => lt (fun (h8 : PH) => j51 (0 : Int32) h8) (fun (j50 : PH → Option (Int32 × PH)) => if (h5.1 this 5) = 0 then (cb (f_X12_doesHold this a1 a2 h5) (fun (r9 : Int32) (h10 : PH) => if r9 = 0 then (j50 h10) else (j51 (1 : Int32) h10))) else (j50 h5))))) (fun (j : Int32 → PH → Option (Int32 × PH)) => ∀ (t3 : Int32) (h4 : PH), SWo (QM mkI below args s D cA ad A) p l e (rmd 3) s m args below meth c 0 0 3 D cA ad A 27 [(0, .ref this), (1, .int a1), (2, .int a2)] [.int t3, .ref this] h4 (j t3 h4)) ?_ (fun j27 hj27 => ?_)
  · intro t3 h4
    refine sf_putI X ff_12_5 ft_12 rfl lk_1707 hk rfl rfl (dkX12_holds (27, .putfield 92, 3) (pgm 15 rfl)) (fun h5 => ?_)
    refine so_aload_n (i := 0) X 0 (dkX12_holds (30, .aload_n 0, 1) (pgm 16 rfl)) rfl rfl ?_
    refine sf_getI X ff_12_5 lk_1707 hk (dkX12_holds (31, .getfield 92, 3) (pgm 17 rfl)) ?_
    refine so_join (jf := fun (t6 : Int32) (h7 : PH) => zr t6 h7) (fun (j : Int32 → PH → Option (Int32 × PH)) => ∀ (t6 : Int32) (h7 : PH), SWo (QM mkI below args s D cA ad A) p l e (rmd 3) s m args below meth c 0 0 3 D cA ad A 51 [] [.int t6] h7 (j t6 h7)) ?_ (fun j51 hj51 => ?_)
    · intro t6 h7
      exact so_zret X hr hlk (dkX12_holds (51, .ireturn, 1) (pgm 27 rfl))
    refine so_join (jf := fun (h8 : PH) => j51 (0 : Int32) h8) (fun (j : PH → Option (Int32 × PH)) => ∀  (h8 : PH), SWo (QM mkI below args s D cA ad A) p l e (rmd 3) s m args below meth c 0 0 3 D cA ad A 50 [] [] h8 (j h8)) ?_ (fun j50 hj50 => ?_)
    · intro h8
      refine so_iconst (v := (0 : Int32)) X (dkX12_holds (50, .iconst 0, 1) (pgm 26 rfl)) ic_0 ?_
      exact so_pick X [] rfl (hj51 (0 : Int32) h8)
    refine so_if_ne (tgt := 50) X (dkX12_holds (34, .ifCond .ne 16, 3) (pgm 18 rfl)) rfl (fun _ => ?_) (fun _ => ?_)
    · exact so_pick X [] rfl (hj50 h5)
    · refine so_aload_n (i := 0) X 0 (dkX12_holds (37, .aload_n 0, 1) (pgm 19 rfl)) rfl rfl ?_
      refine so_iload_n (i := 1) X 1 (dkX12_holds (38, .iload_n 1, 1) (pgm 20 rfl)) rfl rfl ?_
      refine so_iload_n (i := 2) X 2 (dkX12_holds (39, .iload_n 2, 1) (pgm 21 rfl)) rfl rfl ?_
      refine so_callV (n := 2) (As := [.int a1, .int a2]) X (ct_X12_doesHold l this a1 a2 h5 hk) hk (by decide) rfl lk_1958 lk_1960 lk_83 lk_134 lk_1961 (by decide +kernel) rfl rfl rfl (rm_ok (by omega) (by decide)) ⟨Nat.zero_le _, Nat.zero_le _⟩ (Nat.le_of_ble_eq_true rfl) (dkX12_holds (40, .invokevirtual 292, 3) (pgm 22 rfl)) (fun r9 h10 => ?_) rfl
      refine so_if_eq (tgt := 50) X (dkX12_holds (43, .ifCond .eq 7, 3) (pgm 23 rfl)) rfl (fun _ => ?_) (fun _ => ?_)
      · exact so_pick X [] rfl (hj50 h10)
      · refine so_iconst (v := (1 : Int32)) X (dkX12_holds (46, .iconst 1, 1) (pgm 24 rfl)) ic_1 ?_
        refine so_goto (tgt := 51) X (dkX12_holds (47, .goto 4, 3) (pgm 25 rfl)) rfl ?_
        exact so_pick X [] rfl (hj51 (1 : Int32) h10)
  refine so_if_ne (tgt := 13) X (dkX12_holds (6, .ifCond .ne 7, 3) (pgm 4 rfl)) rfl (fun _ => ?_) (fun _ => ?_)
  · refine so_aload_n (i := 0) X 0 (dkX12_holds (13, .aload_n 0, 1) (pgm 7 rfl)) rfl rfl ?_
    refine so_iload_n (i := 2) X 2 (dkX12_holds (14, .iload_n 2, 1) (pgm 8 rfl)) rfl rfl ?_
    refine so_i2l X (dkX12_holds (15, .i2l, 1) (pgm 9 rfl)) ?_
    refine so_callV (n := 1) (As := [.long a2.toInt64]) X (ct_X12_isSky l this a2.toInt64 h2 hk) hk (by decide) rfl lk_1970 lk_1972 lk_85 lk_134 lk_1973 (by decide +kernel) rfl rfl rfl (rm_ok (by omega) (by decide)) ⟨Nat.zero_le _, Nat.zero_le _⟩ (Nat.le_of_ble_eq_true rfl) (dkX12_holds (16, .invokevirtual 295, 3) (pgm 10 rfl)) (fun r11 h12 => ?_) rfl
    refine so_if_eq (tgt := 26) X (dkX12_holds (19, .ifCond .eq 7, 3) (pgm 11 rfl)) rfl (fun _ => ?_) (fun _ => ?_)
    · refine so_iconst (v := (2 : Int32)) X (dkX12_holds (26, .iconst 2, 1) (pgm 14 rfl)) ic_2 ?_
      exact so_pick X [0, 1, 2] rfl (hj27 (2 : Int32) h12)
    · refine so_iconst (v := (0 : Int32)) X (dkX12_holds (22, .iconst 0, 1) (pgm 12 rfl)) ic_0 ?_
      refine so_goto (tgt := 27) X (dkX12_holds (23, .goto 4, 3) (pgm 13 rfl)) rfl ?_
      exact so_pick X [0, 1, 2] rfl (hj27 (0 : Int32) h12)
  · refine so_iconst (v := (1 : Int32)) X (dkX12_holds (9, .iconst 1, 1) (pgm 5 rfl)) ic_1 ?_
    refine so_goto (tgt := 27) X (dkX12_holds (10, .goto 17, 3) (pgm 6 rfl)) rfl ?_
    exact so_pick X [0, 1, 2] rfl (hj27 (1 : Int32) h2)
def pgX12_why : List (Nat × Instr × Nat) := [(0, .aload_n 0, 1), (1, .iconst 0, 1), (2, .putfield 92, 3), (5, .aload_n 0, 1), (6, .iload_n 1, 1), (7, .i2l, 1), (8, .invokevirtual 310, 3), (11, .ireturn, 1)]
theorem dkX12_why : ∀ q ∈ pgX12_why, decode cX12_why q.1 = .ok q.2 := by decide +kernel
def f_X12_why (this : Nat) (a1 : Int32) (h0 : PH) : Option (Int32 × PH) :=
  lt (pI h0 this 5 (0 : Int32)) (fun (h1 : PH) => cb (f_X12_whyNot this a1.toInt64 h1) (fun (r2 : Int32) (h3 : PH) => some (r2, h3)))
set_option maxRecDepth 100000 in
set_option maxHeartbeats 4000000 in
theorem ct_X12_why (l : Launch) (this : Nat) (a1 : Int32) (h0 : PH) (hk : (kd this).1 = 12) : CT mkI l yX12_why cX12_why 2 (some .int) (rmd 4) [.ref this, .int a1] h0 (f_X12_why this a1 h0) := by
  refine ct_of (by decide) (Nat.le_of_ble_eq_true rfl) ?_
  intro p e s m args below meth c D cA ad A X hr hlk
  have X : Cx p s m args c RX12 cX12_why 2 D cA ad A := X
  unfold f_X12_why
  refine so_pick (L' := [(0, .ref this), (1, .int a1)]) X [0, 1] rfl ?_
  refine so_aload_n (i := 0) X 0 (dkX12_why (0, .aload_n 0, 1) (pgm 0 rfl)) rfl rfl ?_
  refine so_iconst (v := (0 : Int32)) X (dkX12_why (1, .iconst 0, 1) (pgm 1 rfl)) ic_0 ?_
  refine sf_putI X ff_12_5 ft_12 rfl lk_1707 hk rfl rfl (dkX12_why (2, .putfield 92, 3) (pgm 2 rfl)) (fun h1 => ?_)
  refine so_aload_n (i := 0) X 0 (dkX12_why (5, .aload_n 0, 1) (pgm 3 rfl)) rfl rfl ?_
  refine so_iload_n (i := 1) X 1 (dkX12_why (6, .iload_n 1, 1) (pgm 4 rfl)) rfl rfl ?_
  refine so_i2l X (dkX12_why (7, .i2l, 1) (pgm 5 rfl)) ?_
  refine so_callV (n := 1) (As := [.long a1.toInt64]) X (ct_X12_whyNot l this a1.toInt64 h1 hk) hk (by decide) rfl lk_1982 lk_1984 lk_86 lk_134 lk_1985 (by decide +kernel) rfl rfl rfl (rm_ok (by omega) (by decide)) ⟨Nat.zero_le _, Nat.zero_le _⟩ (Nat.le_of_ble_eq_true rfl) (dkX12_why (8, .invokevirtual 310, 3) (pgm 6 rfl)) (fun r2 h3 => ?_) rfl
  exact so_iret X hr hlk (dkX12_why (11, .ireturn, 1) (pgm 7 rfl))
def pgX12_granted : List (Nat × Instr × Nat) := [(0, .aload_n 0, 1), (1, .iconst 0, 1), (2, .putfield 92, 3), (5, .aload_n 0, 1), (6, .iload_n 1, 1), (7, .i2l, 1), (8, .invokevirtual 295, 3), (11, .ifCond .eq 16, 3), (14, .aload_n 0, 1), (15, .aload_n 0, 1), (16, .getfield 37, 3), (19, .iload_n 1, 1), (20, .iaload, 1), (21, .invokevirtual 302, 3), (24, .goto 8, 3), (27, .aload_n 0, 1), (28, .iconst 1, 1), (29, .invokevirtual 233, 3), (32, .ireturn, 1)]
theorem dkX12_granted : ∀ q ∈ pgX12_granted, decode cX12_granted q.1 = .ok q.2 := by decide +kernel
def f_X12_granted (this : Nat) (a1 : Int32) (h0 : PH) : Option (Int32 × PH) :=
  lt (pI h0 this 5 (0 : Int32)) (fun (h1 : PH) => cb (f_X12_isSky this a1.toInt64 h1) (fun (r2 : Int32) (h3 : PH) => lt (fun (t4 : Int32) (h5 : PH) => some (t4, h5)) (fun (j32 : Int32 → PH → Option (Int32 × PH)) => if r2 = 0 then (cb (f_X12_fails this (1 : Int32) h3) (fun (r6 : Int32) (h7 : PH) => j32 r6 h7)) else (ldI h3 (rt this 19) 4096 a1 (fun (x8 : Int32) => cb (f_X12_grantedIn this x8 h3) (fun (r9 : Int32) (h10 : PH) => j32 r9 h10))))))
set_option maxRecDepth 100000 in
set_option maxHeartbeats 4000000 in
theorem ct_X12_granted (l : Launch) (this : Nat) (a1 : Int32) (h0 : PH) (hk : (kd this).1 = 12) : CT mkI l yX12_granted cX12_granted 2 (some .int) (rmd 3) [.ref this, .int a1] h0 (f_X12_granted this a1 h0) := by
  refine ct_of (by decide) (Nat.le_of_ble_eq_true rfl) ?_
  intro p e s m args below meth c D cA ad A X hr hlk
  have X : Cx p s m args c RX12 cX12_granted 2 D cA ad A := X
  unfold f_X12_granted
  refine so_pick (L' := [(0, .ref this), (1, .int a1)]) X [0, 1] rfl ?_
  refine so_aload_n (i := 0) X 0 (dkX12_granted (0, .aload_n 0, 1) (pgm 0 rfl)) rfl rfl ?_
  refine so_iconst (v := (0 : Int32)) X (dkX12_granted (1, .iconst 0, 1) (pgm 1 rfl)) ic_0 ?_
  refine sf_putI X ff_12_5 ft_12 rfl lk_1707 hk rfl rfl (dkX12_granted (2, .putfield 92, 3) (pgm 2 rfl)) (fun h1 => ?_)
  refine so_aload_n (i := 0) X 0 (dkX12_granted (5, .aload_n 0, 1) (pgm 3 rfl)) rfl rfl ?_
  refine so_iload_n (i := 1) X 1 (dkX12_granted (6, .iload_n 1, 1) (pgm 4 rfl)) rfl rfl ?_
  refine so_i2l X (dkX12_granted (7, .i2l, 1) (pgm 5 rfl)) ?_
  refine so_callV (n := 1) (As := [.long a1.toInt64]) X (ct_X12_isSky l this a1.toInt64 h1 hk) hk (by decide) rfl lk_1970 lk_1972 lk_85 lk_134 lk_1973 (by decide +kernel) rfl rfl rfl (rm_ok (by omega) (by decide)) ⟨Nat.zero_le _, Nat.zero_le _⟩ (Nat.le_of_ble_eq_true rfl) (dkX12_granted (8, .invokevirtual 295, 3) (pgm 6 rfl)) (fun r2 h3 => ?_) rfl
  refine so_join (jf := fun (t4 : Int32) (h5 : PH) => some (t4, h5)) (fun (j : Int32 → PH → Option (Int32 × PH)) => ∀ (t4 : Int32) (h5 : PH), SWo (QM mkI below args s D cA ad A) p l e (rmd 3) s m args below meth c 0 0 2 D cA ad A 32 [] [.int t4] h5 (j t4 h5)) ?_ (fun j32 hj32 => ?_)
  · intro t4 h5
    exact so_iret X hr hlk (dkX12_granted (32, .ireturn, 1) (pgm 18 rfl))
  refine so_if_eq (tgt := 27) X (dkX12_granted (11, .ifCond .eq 16, 3) (pgm 7 rfl)) rfl (fun _ => ?_) (fun _ => ?_)
  · refine so_aload_n (i := 0) X 0 (dkX12_granted (27, .aload_n 0, 1) (pgm 15 rfl)) rfl rfl ?_
    refine so_iconst (v := (1 : Int32)) X (dkX12_granted (28, .iconst 1, 1) (pgm 16 rfl)) ic_1 ?_
    refine so_callV (n := 1) (As := [.int (1 : Int32)]) X (ct_X12_fails l this (1 : Int32) h3 hk) hk (by decide) rfl lk_1835 lk_1837 lk_61 lk_134 lk_1838 (by decide +kernel) rfl rfl rfl (rm_ok (by omega) (by decide)) ⟨Nat.zero_le _, Nat.zero_le _⟩ (Nat.le_of_ble_eq_true rfl) (dkX12_granted (29, .invokevirtual 233, 3) (pgm 17 rfl)) (fun r6 h7 => ?_) rfl
    exact so_pick X [] rfl (hj32 r6 h7)
  · refine so_aload_n (i := 0) X 0 (dkX12_granted (14, .aload_n 0, 1) (pgm 8 rfl)) rfl rfl ?_
    refine so_aload_n (i := 0) X 0 (dkX12_granted (15, .aload_n 0, 1) (pgm 9 rfl)) rfl rfl ?_
    refine sf_getR X ff_12_19 lk_1721 hk (dkX12_granted (16, .getfield 37, 3) (pgm 10 rfl)) ?_
    refine so_iload_n (i := 1) X 1 (dkX12_granted (19, .iload_n 1, 1) (pgm 11 rfl)) rfl rfl ?_
    refine so_iald X (rk_12_19 this hk) (dkX12_granted (20, .iaload, 1) (pgm 12 rfl)) (fun x8 => ?_)
    refine so_callV (n := 1) (As := [.int x8]) X (ct_X12_grantedIn l this x8 h3 hk) hk (by decide) rfl lk_1990 lk_1992 lk_88 lk_134 lk_1993 (by decide +kernel) rfl rfl rfl (rm_ok (by omega) (by decide)) ⟨Nat.zero_le _, Nat.zero_le _⟩ (Nat.le_of_ble_eq_true rfl) (dkX12_granted (21, .invokevirtual 302, 3) (pgm 13 rfl)) (fun r9 h10 => ?_) rfl
    refine so_goto (tgt := 32) X (dkX12_granted (24, .goto 8, 3) (pgm 14 rfl)) rfl ?_
    exact so_pick X [] rfl (hj32 r9 h10)
def pgX12_laysPlans : List (Nat × Instr × Nat) := [(0, .iconst 0, 1), (1, .istore_n 1, 1), (2, .iload_n 1, 1), (3, .sipush 1024, 3), (6, .if_icmp .ge 16, 3), (9, .aload_n 0, 1), (10, .getfield 46, 3), (13, .iload_n 1, 1), (14, .iconst 0, 1), (15, .bastore, 1), (16, .iinc 1 1, 3), (19, .goto (-17), 3), (22, .iconst 0, 1), (23, .istore_n 1, 1), (24, .iload_n 1, 1), (25, .aload_n 0, 1), (26, .invokevirtual 252, 3), (29, .if_icmp .gt 60, 3), (32, .aload_n 0, 1), (33, .getfield 43, 3), (36, .iload_n 1, 1), (37, .aload_n 0, 1), (38, .iload_n 1, 1), (39, .i2l, 1), (40, .invokevirtual 310, 3), (43, .ifCond .ne 16, 3), (46, .aload_n 0, 1), (47, .aload_n 0, 1), (48, .getfield 37, 3), (51, .iload_n 1, 1), (52, .iaload, 1), (53, .invokevirtual 302, 3), (56, .goto 4, 3), (59, .iconst (-1), 1), (60, .iastore, 1), (61, .aload_n 0, 1), (62, .getfield 43, 3), (65, .iload_n 1, 1), (66, .iaload, 1), (67, .iconst (-1), 1), (68, .if_icmp .eq 15, 3), (71, .aload_n 0, 1), (72, .getfield 46, 3), (75, .aload_n 0, 1), (76, .getfield 43, 3), (79, .iload_n 1, 1), (80, .iaload, 1), (81, .iconst 1, 1), (82, .bastore, 1), (83, .iinc 1 1, 3), (86, .goto (-62), 3), (89, .sipush 1023, 3), (92, .istore_n 1, 1), (93, .iload_n 1, 1), (94, .ifCond .le 45, 3), (97, .iconst 0, 1), (98, .istore_n 2, 1), (99, .iload_n 2, 1), (100, .bipush 10, 2), (102, .if_icmp .ge 31, 3), (105, .aload_n 0, 1), (106, .getfield 46, 3), (109, .iload_n 1, 1), (110, .baload, 1), (111, .ifCond .eq 22, 3), (114, .aload_n 0, 1), (115, .getfield 46, 3), (118, .iload_n 1, 1), (119, .iconst 1, 1), (120, .iload_n 2, 1), (121, .ishl, 1), (122, .iconst (-1), 1), (123, .ixor, 1), (124, .iand, 1), (125, .iconst 1, 1), (126, .bastore, 1), (127, .iinc 2 1, 3), (130, .goto (-31), 3), (133, .iinc 1 (-1), 3), (136, .goto (-43), 3), (139, .return_, 1)]
theorem dkX12_laysPlans : ∀ q ∈ pgX12_laysPlans, decode cX12_laysPlans q.1 = .ok q.2 := by decide +kernel
def b_X12_laysPlans_99 (this : Nat) (s93 : Int32) (j133 : PH → Option (Unit × PH)) (rec99 : (Int32) → PH → Option (Unit × PH)) (s99 : Int32) (hh99 : PH) : Option (Unit × PH) :=
  if (10 : Int32) ≤ s99 then (j133 hh99) else (ldI hh99 (rt this 22) 1024 s93 (fun (x9 : Int32) => if x9 = 0 then (j133 hh99) else (stI hh99 (rt this 22) 1024 (s93 &&& (((1 : Int32) <<< (s99 &&& 31)) ^^^ (-1 : Int32))) (vp_nar .boolean (1 : Int32)) (fun (h10 : PH) => lt (s99 + Int32.ofInt 1) (fun (x11 : Int32) => rec99 x11 h10)))))
def b_X12_laysPlans_93 (this : Nat) (rec93 : (Int32) → PH → Option (Unit × PH)) (s93 : Int32) (hh93 : PH) : Option (Unit × PH) :=
  if s93 ≤ 0 then (some ((), hh93)) else (lt (0 : Int32) (fun (x6 : Int32) => lt (fun (h7 : PH) => lt (s93 + Int32.ofInt (-1)) (fun (x8 : Int32) => rec93 x8 h7)) (fun (j133 : PH → Option (Unit × PH)) => lp (b_X12_laysPlans_99 this s93 j133) FU x6 hh93)))
def b_X12_laysPlans_24 (this : Nat) (j89 : PH → Option (Unit × PH)) (rec24 : (Int32) → PH → Option (Unit × PH)) (s24 : Int32) (hh24 : PH) : Option (Unit × PH) :=
  cb (f_X12_everywhere this hh24) (fun (r12 : Int32) (h13 : PH) => if r12 < s24 then (j89 h13) else (cb (f_X12_whyNot this s24.toInt64 h13) (fun (r14 : Int32) (h15 : PH) => lt (fun (t16 : Int32) (h17 : PH) => stI h17 (rt this 21) 4096 s24 t16 (fun (h18 : PH) => ldI h18 (rt this 21) 4096 s24 (fun (x19 : Int32) => lt (fun (h20 : PH) => lt (s24 + Int32.ofInt 1) (fun (x21 : Int32) => rec24 x21 h20)) (fun (j83 : PH → Option (Unit × PH)) => if x19 = (-1 : Int32) then (j83 h18) else (ldI h18 (rt this 21) 4096 s24 (fun (x22 : Int32) => stI h18 (rt this 22) 1024 x22 (vp_nar .boolean (1 : Int32)) (fun (h23 : PH) => j83 h23))))))) (fun (j60 : Int32 → PH → Option (Unit × PH)) => if r14 = 0 then (ldI h15 (rt this 19) 4096 s24 (fun (x24 : Int32) => cb (f_X12_grantedIn this x24 h15) (fun (r25 : Int32) (h26 : PH) => j60 r25 h26))) else (j60 (-1 : Int32) h15)))))
def b_X12_laysPlans_2 (this : Nat) (j22 : PH → Option (Unit × PH)) (rec2 : (Int32) → PH → Option (Unit × PH)) (s2 : Int32) (hh2 : PH) : Option (Unit × PH) :=
  if (1024 : Int32) ≤ s2 then (j22 hh2) else (stI hh2 (rt this 22) 1024 s2 (vp_nar .boolean (0 : Int32)) (fun (h27 : PH) => lt (s2 + Int32.ofInt 1) (fun (x28 : Int32) => rec2 x28 h27)))
def f_X12_laysPlans (this : Nat) (h0 : PH) : Option (Unit × PH) :=
  lt (0 : Int32) (fun (x1 : Int32) => lt (fun (h2 : PH) => lt (0 : Int32) (fun (x3 : Int32) => lt (fun (h4 : PH) => lt (1023 : Int32) (fun (x5 : Int32) => lp (b_X12_laysPlans_93 this) FU x5 h4)) (fun (j89 : PH → Option (Unit × PH)) => lp (b_X12_laysPlans_24 this j89) FU x3 h2))) (fun (j22 : PH → Option (Unit × PH)) => lp (b_X12_laysPlans_2 this j22) FU x1 h0))
set_option maxRecDepth 100000 in
set_option maxHeartbeats 4000000 in
theorem ct_X12_laysPlans (l : Launch) (this : Nat) (h0 : PH) (hk : (kd this).1 = 12) : CT mkV l yX12_laysPlans cX12_laysPlans 3 none (rmd 4) [.ref this] h0 (f_X12_laysPlans this h0) := by
  refine ct_of (by decide) (Nat.le_of_ble_eq_true rfl) ?_
  intro p e s m args below meth c D cA ad A X hr hlk
  have X : Cx p s m args c RX12 cX12_laysPlans 3 D cA ad A := X
  unfold f_X12_laysPlans
  refine so_pick (L' := [(0, .ref this)]) X [0] rfl ?_
  refine so_iconst (v := (0 : Int32)) X (dkX12_laysPlans (0, .iconst 0, 1) (pgm 0 rfl)) ic_0 ?_
  refine so_istore_n (i := 1) X (dkX12_laysPlans (1, .istore_n 1, 1) (pgm 1 rfl)) rfl (by decide) (Lf := fun x1 => [(1, .int x1), (0, .ref this)]) (fun _ => rfl) (fun x1 => ?_)
  refine so_join (jf := fun (h2 : PH) => lt (0 : Int32) (fun (x3 : Int32) => lt (fun (h4 : PH) => lt (1023 : Int32) (fun (x5 : Int32) => lp (b_X12_laysPlans_93 this) FU x5 h4)) (fun (j89 : PH → Option (Unit × PH)) => lp (b_X12_laysPlans_24 this j89) FU x3 h2))) (fun (j : PH → Option (Unit × PH)) => ∀  (h2 : PH), SWo (QM mkV below args s D cA ad A) p l e (rmd 4) s m args below meth c 0 0 3 D cA ad A 22 [(0, .ref this)] [] h2 (j h2)) ?_ (fun j22 hj22 => ?_)
  · intro h2
    refine so_iconst (v := (0 : Int32)) X (dkX12_laysPlans (22, .iconst 0, 1) (pgm 12 rfl)) ic_0 ?_
    refine so_istore_n (i := 1) X (dkX12_laysPlans (23, .istore_n 1, 1) (pgm 13 rfl)) rfl (by decide) (Lf := fun x3 => [(1, .int x3), (0, .ref this)]) (fun _ => rfl) (fun x3 => ?_)
    refine so_join (jf := fun (h4 : PH) => lt (1023 : Int32) (fun (x5 : Int32) => lp (b_X12_laysPlans_93 this) FU x5 h4)) (fun (j : PH → Option (Unit × PH)) => ∀  (h4 : PH), SWo (QM mkV below args s D cA ad A) p l e (rmd 4) s m args below meth c 0 0 3 D cA ad A 89 [(0, .ref this)] [] h4 (j h4)) ?_ (fun j89 hj89 => ?_)
    · intro h4
      refine so_sipush (v := (1023 : Int32)) X (dkX12_laysPlans (89, .sipush 1023, 3) (pgm 51 rfl)) sp_1023 ?_
      refine so_istore_n (i := 1) X (dkX12_laysPlans (92, .istore_n 1, 1) (pgm 52 rfl)) rfl (by decide) (Lf := fun x5 => [(1, .int x5), (0, .ref this)]) (fun _ => rfl) (fun x5 => ?_)
      refine so_pick (L' := [(0, .ref this), (1, .int x5)]) X [1, 0] rfl ?_
      refine so_loop (body := b_X12_laysPlans_93 this) (fun (s93 : Int32) => [(0, .ref this), (1, .int s93)]) (fun rec93 hrec93 s93 hh93 => ?_) FU x5 h4
      unfold b_X12_laysPlans_93
      refine so_iload_n (i := 1) X 1 (dkX12_laysPlans (93, .iload_n 1, 1) (pgm 53 rfl)) rfl rfl ?_
      refine so_if_le (tgt := 139) X (dkX12_laysPlans (94, .ifCond .le 45, 3) (pgm 54 rfl)) rfl (fun _ => ?_) (fun _ => ?_)
      · exact so_vret X hr hlk (dkX12_laysPlans (139, .return_, 1) (pgm 80 rfl))
      · refine so_iconst (v := (0 : Int32)) X (dkX12_laysPlans (97, .iconst 0, 1) (pgm 55 rfl)) ic_0 ?_
        refine so_istore_n (i := 2) X (dkX12_laysPlans (98, .istore_n 2, 1) (pgm 56 rfl)) rfl (by decide) (Lf := fun x6 => [(2, .int x6), (0, .ref this), (1, .int s93)]) (fun _ => rfl) (fun x6 => ?_)
        refine so_join (jf := fun (h7 : PH) => lt (s93 + Int32.ofInt (-1)) (fun (x8 : Int32) => rec93 x8 h7)) (fun (j : PH → Option (Unit × PH)) => ∀  (h7 : PH), SWo (QM mkV below args s D cA ad A) p l e (rmd 4) s m args below meth c 0 0 3 D cA ad A 133 [(0, .ref this), (1, .int s93)] [] h7 (j h7)) ?_ (fun j133 hj133 => ?_)
        · intro h7
          refine so_iinc (i := 1) X 1 (dkX12_laysPlans (133, .iinc 1 (-1), 3) (pgm 78 rfl)) rfl rfl (by decide) (Lf := fun x8 => [(1, .int x8), (0, .ref this)]) (fun _ => rfl) (fun x8 => ?_)
          refine so_goto (tgt := 93) X (dkX12_laysPlans (136, .goto (-43), 3) (pgm 79 rfl)) rfl ?_
          exact so_pick X [1, 0] rfl (hrec93 x8 h7)
        refine so_pick (L' := [(0, .ref this), (1, .int s93), (2, .int x6)]) X [1, 2, 0] rfl ?_
        refine so_loop (body := b_X12_laysPlans_99 this s93 j133) (fun (s99 : Int32) => [(0, .ref this), (1, .int s93), (2, .int s99)]) (fun rec99 hrec99 s99 hh99 => ?_) FU x6 hh93
        unfold b_X12_laysPlans_99
        refine so_iload_n (i := 2) X 2 (dkX12_laysPlans (99, .iload_n 2, 1) (pgm 57 rfl)) rfl rfl ?_
        refine so_bipush (v := (10 : Int32)) X (dkX12_laysPlans (100, .bipush 10, 2) (pgm 58 rfl)) bp_10 ?_
        refine so_icmp_ge (tgt := 133) X (dkX12_laysPlans (102, .if_icmp .ge 31, 3) (pgm 59 rfl)) rfl (fun _ => ?_) (fun _ => ?_)
        · exact so_pick X [0, 1] rfl (hj133 hh99)
        · refine so_aload_n (i := 0) X 0 (dkX12_laysPlans (105, .aload_n 0, 1) (pgm 60 rfl)) rfl rfl ?_
          refine sf_getR X ff_12_22 lk_1724 hk (dkX12_laysPlans (106, .getfield 46, 3) (pgm 61 rfl)) ?_
          refine so_iload_n (i := 1) X 1 (dkX12_laysPlans (109, .iload_n 1, 1) (pgm 62 rfl)) rfl rfl ?_
          refine so_zald X (rk_12_22 this hk) (dkX12_laysPlans (110, .baload, 1) (pgm 63 rfl)) (fun x9 => ?_)
          refine so_if_eq (tgt := 133) X (dkX12_laysPlans (111, .ifCond .eq 22, 3) (pgm 64 rfl)) rfl (fun _ => ?_) (fun _ => ?_)
          · exact so_pick X [0, 1] rfl (hj133 hh99)
          · refine so_aload_n (i := 0) X 0 (dkX12_laysPlans (114, .aload_n 0, 1) (pgm 65 rfl)) rfl rfl ?_
            refine sf_getR X ff_12_22 lk_1724 hk (dkX12_laysPlans (115, .getfield 46, 3) (pgm 66 rfl)) ?_
            refine so_iload_n (i := 1) X 1 (dkX12_laysPlans (118, .iload_n 1, 1) (pgm 67 rfl)) rfl rfl ?_
            refine so_iconst (v := (1 : Int32)) X (dkX12_laysPlans (119, .iconst 1, 1) (pgm 68 rfl)) ic_1 ?_
            refine so_iload_n (i := 2) X 2 (dkX12_laysPlans (120, .iload_n 2, 1) (pgm 69 rfl)) rfl rfl ?_
            refine so_ishl X (dkX12_laysPlans (121, .ishl, 1) (pgm 70 rfl)) ?_
            refine so_iconst (v := (-1 : Int32)) X (dkX12_laysPlans (122, .iconst (-1), 1) (pgm 71 rfl)) ic_m1 ?_
            refine so_ixor X (dkX12_laysPlans (123, .ixor, 1) (pgm 72 rfl)) ?_
            refine so_iand X (dkX12_laysPlans (124, .iand, 1) (pgm 73 rfl)) ?_
            refine so_iconst (v := (1 : Int32)) X (dkX12_laysPlans (125, .iconst 1, 1) (pgm 74 rfl)) ic_1 ?_
            refine so_zast X (rk_12_22 this hk) (dkX12_laysPlans (126, .bastore, 1) (pgm 75 rfl)) (fun h10 => ?_)
            refine so_iinc (i := 2) X 2 (dkX12_laysPlans (127, .iinc 2 1, 3) (pgm 76 rfl)) rfl rfl (by decide) (Lf := fun x11 => [(2, .int x11), (0, .ref this), (1, .int s93)]) (fun _ => rfl) (fun x11 => ?_)
            refine so_goto (tgt := 99) X (dkX12_laysPlans (130, .goto (-31), 3) (pgm 77 rfl)) rfl ?_
            exact so_pick X [1, 2, 0] rfl (hrec99 x11 h10)
    refine so_pick (L' := [(0, .ref this), (1, .int x3)]) X [1, 0] rfl ?_
    refine so_loop (body := b_X12_laysPlans_24 this j89) (fun (s24 : Int32) => [(0, .ref this), (1, .int s24)]) (fun rec24 hrec24 s24 hh24 => ?_) FU x3 h2
    unfold b_X12_laysPlans_24
    refine so_iload_n (i := 1) X 1 (dkX12_laysPlans (24, .iload_n 1, 1) (pgm 14 rfl)) rfl rfl ?_
    refine so_aload_n (i := 0) X 0 (dkX12_laysPlans (25, .aload_n 0, 1) (pgm 15 rfl)) rfl rfl ?_
    refine so_callV (n := 0) (As := []) X (ct_X12_everywhere l this hh24 hk) hk (by decide) rfl lk_1664 lk_1666 lk_56 lk_134 lk_1667 (by decide +kernel) rfl rfl rfl (rm_ok (by omega) (by decide)) ⟨Nat.zero_le _, Nat.zero_le _⟩ (Nat.le_of_ble_eq_true rfl) (dkX12_laysPlans (26, .invokevirtual 252, 3) (pgm 16 rfl)) (fun r12 h13 => ?_) rfl
    refine so_icmp_gt (tgt := 89) X (dkX12_laysPlans (29, .if_icmp .gt 60, 3) (pgm 17 rfl)) rfl (fun _ => ?_) (fun _ => ?_)
    · exact so_pick X [0] rfl (hj89 h13)
    · refine so_aload_n (i := 0) X 0 (dkX12_laysPlans (32, .aload_n 0, 1) (pgm 18 rfl)) rfl rfl ?_
      refine sf_getR X ff_12_21 lk_1723 hk (dkX12_laysPlans (33, .getfield 43, 3) (pgm 19 rfl)) ?_
      refine so_iload_n (i := 1) X 1 (dkX12_laysPlans (36, .iload_n 1, 1) (pgm 20 rfl)) rfl rfl ?_
      refine so_aload_n (i := 0) X 0 (dkX12_laysPlans (37, .aload_n 0, 1) (pgm 21 rfl)) rfl rfl ?_
      refine so_iload_n (i := 1) X 1 (dkX12_laysPlans (38, .iload_n 1, 1) (pgm 22 rfl)) rfl rfl ?_
      refine so_i2l X (dkX12_laysPlans (39, .i2l, 1) (pgm 23 rfl)) ?_
      refine so_callV (n := 1) (As := [.long s24.toInt64]) X (ct_X12_whyNot l this s24.toInt64 h13 hk) hk (by decide) rfl lk_1982 lk_1984 lk_86 lk_134 lk_1985 (by decide +kernel) rfl rfl rfl (rm_ok (by omega) (by decide)) ⟨Nat.zero_le _, Nat.zero_le _⟩ (Nat.le_of_ble_eq_true rfl) (dkX12_laysPlans (40, .invokevirtual 310, 3) (pgm 24 rfl)) (fun r14 h15 => ?_) rfl
      refine so_join (jf := fun (t16 : Int32) (h17 : PH) => stI h17 (rt this 21) 4096 s24 t16 (fun (h18 : PH) => ldI h18 (rt this 21) 4096 s24 (fun (x19 : Int32) => lt (fun (h20 : PH) => lt (s24 + Int32.ofInt 1) (fun (x21 : Int32) => rec24 x21 h20)) (fun (j83 : PH → Option (Unit × PH)) => if x19 = (-1 : Int32) then (j83 h18) else (ldI h18 (rt this 21) 4096 s24 (fun (x22 : Int32) => stI h18 (rt this 22) 1024 x22 (vp_nar .boolean (1 : Int32)) (fun (h23 : PH) => j83 h23))))))) (fun (j : Int32 → PH → Option (Unit × PH)) => ∀ (t16 : Int32) (h17 : PH), SWo (QM mkV below args s D cA ad A) p l e (rmd 4) s m args below meth c 0 0 3 D cA ad A 60 [(0, .ref this), (1, .int s24)] [.int t16, .int s24, .ref (rt this 21)] h17 (j t16 h17)) ?_ (fun j60 hj60 => ?_)
      · intro t16 h17
        refine so_iast X (rk_12_21 this hk) (dkX12_laysPlans (60, .iastore, 1) (pgm 34 rfl)) (fun h18 => ?_)
        refine so_aload_n (i := 0) X 0 (dkX12_laysPlans (61, .aload_n 0, 1) (pgm 35 rfl)) rfl rfl ?_
        refine sf_getR X ff_12_21 lk_1723 hk (dkX12_laysPlans (62, .getfield 43, 3) (pgm 36 rfl)) ?_
        refine so_iload_n (i := 1) X 1 (dkX12_laysPlans (65, .iload_n 1, 1) (pgm 37 rfl)) rfl rfl ?_
        refine so_iald X (rk_12_21 this hk) (dkX12_laysPlans (66, .iaload, 1) (pgm 38 rfl)) (fun x19 => ?_)
        refine so_iconst (v := (-1 : Int32)) X (dkX12_laysPlans (67, .iconst (-1), 1) (pgm 39 rfl)) ic_m1 ?_
        refine so_join (jf := fun (h20 : PH) => lt (s24 + Int32.ofInt 1) (fun (x21 : Int32) => rec24 x21 h20)) (fun (j : PH → Option (Unit × PH)) => ∀  (h20 : PH), SWo (QM mkV below args s D cA ad A) p l e (rmd 4) s m args below meth c 0 0 3 D cA ad A 83 [(0, .ref this), (1, .int s24)] [] h20 (j h20)) ?_ (fun j83 hj83 => ?_)
        · intro h20
          refine so_iinc (i := 1) X 1 (dkX12_laysPlans (83, .iinc 1 1, 3) (pgm 49 rfl)) rfl rfl (by decide) (Lf := fun x21 => [(1, .int x21), (0, .ref this)]) (fun _ => rfl) (fun x21 => ?_)
          refine so_goto (tgt := 24) X (dkX12_laysPlans (86, .goto (-62), 3) (pgm 50 rfl)) rfl ?_
          exact so_pick X [1, 0] rfl (hrec24 x21 h20)
        refine so_icmp_eq (tgt := 83) X (dkX12_laysPlans (68, .if_icmp .eq 15, 3) (pgm 40 rfl)) rfl (fun _ => ?_) (fun _ => ?_)
        · exact so_pick X [0, 1] rfl (hj83 h18)
        · refine so_aload_n (i := 0) X 0 (dkX12_laysPlans (71, .aload_n 0, 1) (pgm 41 rfl)) rfl rfl ?_
          refine sf_getR X ff_12_22 lk_1724 hk (dkX12_laysPlans (72, .getfield 46, 3) (pgm 42 rfl)) ?_
          refine so_aload_n (i := 0) X 0 (dkX12_laysPlans (75, .aload_n 0, 1) (pgm 43 rfl)) rfl rfl ?_
          refine sf_getR X ff_12_21 lk_1723 hk (dkX12_laysPlans (76, .getfield 43, 3) (pgm 44 rfl)) ?_
          refine so_iload_n (i := 1) X 1 (dkX12_laysPlans (79, .iload_n 1, 1) (pgm 45 rfl)) rfl rfl ?_
          refine so_iald X (rk_12_21 this hk) (dkX12_laysPlans (80, .iaload, 1) (pgm 46 rfl)) (fun x22 => ?_)
          refine so_iconst (v := (1 : Int32)) X (dkX12_laysPlans (81, .iconst 1, 1) (pgm 47 rfl)) ic_1 ?_
          refine so_zast X (rk_12_22 this hk) (dkX12_laysPlans (82, .bastore, 1) (pgm 48 rfl)) (fun h23 => ?_)
          exact so_pick X [0, 1] rfl (hj83 h23)
      refine so_if_ne (tgt := 59) X (dkX12_laysPlans (43, .ifCond .ne 16, 3) (pgm 25 rfl)) rfl (fun _ => ?_) (fun _ => ?_)
      · refine so_iconst (v := (-1 : Int32)) X (dkX12_laysPlans (59, .iconst (-1), 1) (pgm 33 rfl)) ic_m1 ?_
        exact so_pick X [0, 1] rfl (hj60 (-1 : Int32) h15)
      · refine so_aload_n (i := 0) X 0 (dkX12_laysPlans (46, .aload_n 0, 1) (pgm 26 rfl)) rfl rfl ?_
        refine so_aload_n (i := 0) X 0 (dkX12_laysPlans (47, .aload_n 0, 1) (pgm 27 rfl)) rfl rfl ?_
        refine sf_getR X ff_12_19 lk_1721 hk (dkX12_laysPlans (48, .getfield 37, 3) (pgm 28 rfl)) ?_
        refine so_iload_n (i := 1) X 1 (dkX12_laysPlans (51, .iload_n 1, 1) (pgm 29 rfl)) rfl rfl ?_
        refine so_iald X (rk_12_19 this hk) (dkX12_laysPlans (52, .iaload, 1) (pgm 30 rfl)) (fun x24 => ?_)
        refine so_callV (n := 1) (As := [.int x24]) X (ct_X12_grantedIn l this x24 h15 hk) hk (by decide) rfl lk_1990 lk_1992 lk_88 lk_134 lk_1993 (by decide +kernel) rfl rfl rfl (rm_ok (by omega) (by decide)) ⟨Nat.zero_le _, Nat.zero_le _⟩ (Nat.le_of_ble_eq_true rfl) (dkX12_laysPlans (53, .invokevirtual 302, 3) (pgm 31 rfl)) (fun r25 h26 => ?_) rfl
        refine so_goto (tgt := 60) X (dkX12_laysPlans (56, .goto 4, 3) (pgm 32 rfl)) rfl ?_
        exact so_pick X [0, 1] rfl (hj60 r25 h26)
  refine so_pick (L' := [(0, .ref this), (1, .int x1)]) X [1, 0] rfl ?_
  refine so_loop (body := b_X12_laysPlans_2 this j22) (fun (s2 : Int32) => [(0, .ref this), (1, .int s2)]) (fun rec2 hrec2 s2 hh2 => ?_) FU x1 h0
  unfold b_X12_laysPlans_2
  refine so_iload_n (i := 1) X 1 (dkX12_laysPlans (2, .iload_n 1, 1) (pgm 2 rfl)) rfl rfl ?_
  refine so_sipush (v := (1024 : Int32)) X (dkX12_laysPlans (3, .sipush 1024, 3) (pgm 3 rfl)) sp_1024 ?_
  refine so_icmp_ge (tgt := 22) X (dkX12_laysPlans (6, .if_icmp .ge 16, 3) (pgm 4 rfl)) rfl (fun _ => ?_) (fun _ => ?_)
  · exact so_pick X [0] rfl (hj22 hh2)
  · refine so_aload_n (i := 0) X 0 (dkX12_laysPlans (9, .aload_n 0, 1) (pgm 5 rfl)) rfl rfl ?_
    refine sf_getR X ff_12_22 lk_1724 hk (dkX12_laysPlans (10, .getfield 46, 3) (pgm 6 rfl)) ?_
    refine so_iload_n (i := 1) X 1 (dkX12_laysPlans (13, .iload_n 1, 1) (pgm 7 rfl)) rfl rfl ?_
    refine so_iconst (v := (0 : Int32)) X (dkX12_laysPlans (14, .iconst 0, 1) (pgm 8 rfl)) ic_0 ?_
    refine so_zast X (rk_12_22 this hk) (dkX12_laysPlans (15, .bastore, 1) (pgm 9 rfl)) (fun h27 => ?_)
    refine so_iinc (i := 1) X 1 (dkX12_laysPlans (16, .iinc 1 1, 3) (pgm 10 rfl)) rfl rfl (by decide) (Lf := fun x28 => [(1, .int x28), (0, .ref this)]) (fun _ => rfl) (fun x28 => ?_)
    refine so_goto (tgt := 2) X (dkX12_laysPlans (19, .goto (-17), 3) (pgm 11 rfl)) rfl ?_
    exact so_pick X [1, 0] rfl (hrec2 x28 h27)
def pgX12_plans : List (Nat × Instr × Nat) := [(0, .aload_n 0, 1), (1, .iconst 0, 1), (2, .putfield 92, 3), (5, .iconst 0, 1), (6, .istore_n 1, 1), (7, .iconst 0, 1), (8, .istore_n 2, 1), (9, .iload_n 2, 1), (10, .aload_n 0, 1), (11, .invokevirtual 252, 3), (14, .if_icmp .gt 26, 3), (17, .iload_n 1, 1), (18, .aload_n 0, 1), (19, .iload_n 2, 1), (20, .i2l, 1), (21, .invokevirtual 310, 3), (24, .ifCond .ne 7, 3), (27, .iconst 1, 1), (28, .goto 4, 3), (31, .iconst 0, 1), (32, .iadd, 1), (33, .istore_n 1, 1), (34, .iinc 2 1, 3), (37, .goto (-28), 3), (40, .iload_n 1, 1), (41, .ireturn, 1)]
theorem dkX12_plans : ∀ q ∈ pgX12_plans, decode cX12_plans q.1 = .ok q.2 := by decide +kernel
def b_X12_plans_9 (this : Nat) (rec9 : (Int32 × Int32) → PH → Option (Int32 × PH)) (s9 : Int32 × Int32) (hh9 : PH) : Option (Int32 × PH) :=
  cb (f_X12_everywhere this hh9) (fun (r4 : Int32) (h5 : PH) => if r4 < s9.2 then (some (s9.1, h5)) else (cb (f_X12_whyNot this s9.2.toInt64 h5) (fun (r6 : Int32) (h7 : PH) => lt (fun (t8 : Int32) (h9 : PH) => lt (s9.1 + t8) (fun (x10 : Int32) => lt (s9.2 + Int32.ofInt 1) (fun (x11 : Int32) => rec9 (x10, x11) h9))) (fun (j32 : Int32 → PH → Option (Int32 × PH)) => if r6 = 0 then (j32 (1 : Int32) h7) else (j32 (0 : Int32) h7)))))
def f_X12_plans (this : Nat) (h0 : PH) : Option (Int32 × PH) :=
  lt (pI h0 this 5 (0 : Int32)) (fun (h1 : PH) => lt (0 : Int32) (fun (x2 : Int32) => lt (0 : Int32) (fun (x3 : Int32) => lp (b_X12_plans_9 this) FU (x2, x3) h1)))
set_option maxRecDepth 100000 in
set_option maxHeartbeats 4000000 in
theorem ct_X12_plans (l : Launch) (this : Nat) (h0 : PH) (hk : (kd this).1 = 12) : CT mkI l yX12_plans cX12_plans 3 (some .int) (rmd 4) [.ref this] h0 (f_X12_plans this h0) := by
  refine ct_of (by decide) (Nat.le_of_ble_eq_true rfl) ?_
  intro p e s m args below meth c D cA ad A X hr hlk
  have X : Cx p s m args c RX12 cX12_plans 3 D cA ad A := X
  unfold f_X12_plans
  refine so_pick (L' := [(0, .ref this)]) X [0] rfl ?_
  refine so_aload_n (i := 0) X 0 (dkX12_plans (0, .aload_n 0, 1) (pgm 0 rfl)) rfl rfl ?_
  refine so_iconst (v := (0 : Int32)) X (dkX12_plans (1, .iconst 0, 1) (pgm 1 rfl)) ic_0 ?_
  refine sf_putI X ff_12_5 ft_12 rfl lk_1707 hk rfl rfl (dkX12_plans (2, .putfield 92, 3) (pgm 2 rfl)) (fun h1 => ?_)
  refine so_iconst (v := (0 : Int32)) X (dkX12_plans (5, .iconst 0, 1) (pgm 3 rfl)) ic_0 ?_
  refine so_istore_n (i := 1) X (dkX12_plans (6, .istore_n 1, 1) (pgm 4 rfl)) rfl (by decide) (Lf := fun x2 => [(1, .int x2), (0, .ref this)]) (fun _ => rfl) (fun x2 => ?_)
  refine so_iconst (v := (0 : Int32)) X (dkX12_plans (7, .iconst 0, 1) (pgm 5 rfl)) ic_0 ?_
  refine so_istore_n (i := 2) X (dkX12_plans (8, .istore_n 2, 1) (pgm 6 rfl)) rfl (by decide) (Lf := fun x3 => [(2, .int x3), (1, .int x2), (0, .ref this)]) (fun _ => rfl) (fun x3 => ?_)
  refine so_pick (L' := [(0, .ref this), (1, .int x2), (2, .int x3)]) X [2, 1, 0] rfl ?_
  refine so_loop (body := b_X12_plans_9 this) (fun (s9 : Int32 × Int32) => [(0, .ref this), (1, .int s9.1), (2, .int s9.2)]) (fun rec9 hrec9 s9 hh9 => ?_) FU (x2, x3) h1
  unfold b_X12_plans_9
  refine so_iload_n (i := 2) X 2 (dkX12_plans (9, .iload_n 2, 1) (pgm 7 rfl)) rfl rfl ?_
  refine so_aload_n (i := 0) X 0 (dkX12_plans (10, .aload_n 0, 1) (pgm 8 rfl)) rfl rfl ?_
  refine so_callV (n := 0) (As := []) X (ct_X12_everywhere l this hh9 hk) hk (by decide) rfl lk_1664 lk_1666 lk_56 lk_134 lk_1667 (by decide +kernel) rfl rfl rfl (rm_ok (by omega) (by decide)) ⟨Nat.zero_le _, Nat.zero_le _⟩ (Nat.le_of_ble_eq_true rfl) (dkX12_plans (11, .invokevirtual 252, 3) (pgm 9 rfl)) (fun r4 h5 => ?_) rfl
  refine so_icmp_gt (tgt := 40) X (dkX12_plans (14, .if_icmp .gt 26, 3) (pgm 10 rfl)) rfl (fun _ => ?_) (fun _ => ?_)
  · refine so_iload_n (i := 1) X 1 (dkX12_plans (40, .iload_n 1, 1) (pgm 24 rfl)) rfl rfl ?_
    exact so_iret X hr hlk (dkX12_plans (41, .ireturn, 1) (pgm 25 rfl))
  · refine so_iload_n (i := 1) X 1 (dkX12_plans (17, .iload_n 1, 1) (pgm 11 rfl)) rfl rfl ?_
    refine so_aload_n (i := 0) X 0 (dkX12_plans (18, .aload_n 0, 1) (pgm 12 rfl)) rfl rfl ?_
    refine so_iload_n (i := 2) X 2 (dkX12_plans (19, .iload_n 2, 1) (pgm 13 rfl)) rfl rfl ?_
    refine so_i2l X (dkX12_plans (20, .i2l, 1) (pgm 14 rfl)) ?_
    refine so_callV (n := 1) (As := [.long s9.2.toInt64]) X (ct_X12_whyNot l this s9.2.toInt64 h5 hk) hk (by decide) rfl lk_1982 lk_1984 lk_86 lk_134 lk_1985 (by decide +kernel) rfl rfl rfl (rm_ok (by omega) (by decide)) ⟨Nat.zero_le _, Nat.zero_le _⟩ (Nat.le_of_ble_eq_true rfl) (dkX12_plans (21, .invokevirtual 310, 3) (pgm 15 rfl)) (fun r6 h7 => ?_) rfl
    refine so_join (jf := fun (t8 : Int32) (h9 : PH) => lt (s9.1 + t8) (fun (x10 : Int32) => lt (s9.2 + Int32.ofInt 1) (fun (x11 : Int32) => rec9 (x10, x11) h9))) (fun (j : Int32 → PH → Option (Int32 × PH)) => ∀ (t8 : Int32) (h9 : PH), SWo (QM mkI below args s D cA ad A) p l e (rmd 4) s m args below meth c 0 0 3 D cA ad A 32 [(0, .ref this), (2, .int s9.2)] [.int t8, .int s9.1] h9 (j t8 h9)) ?_ (fun j32 hj32 => ?_)
    · intro t8 h9
      refine so_iadd X (dkX12_plans (32, .iadd, 1) (pgm 20 rfl)) ?_
      refine so_istore_n (i := 1) X (dkX12_plans (33, .istore_n 1, 1) (pgm 21 rfl)) rfl (by decide) (Lf := fun x10 => [(1, .int x10), (0, .ref this), (2, .int s9.2)]) (fun _ => rfl) (fun x10 => ?_)
      refine so_iinc (i := 2) X 2 (dkX12_plans (34, .iinc 2 1, 3) (pgm 22 rfl)) rfl rfl (by decide) (Lf := fun x11 => [(2, .int x11), (1, .int x10), (0, .ref this)]) (fun _ => rfl) (fun x11 => ?_)
      refine so_goto (tgt := 9) X (dkX12_plans (37, .goto (-28), 3) (pgm 23 rfl)) rfl ?_
      exact so_pick X [2, 1, 0] rfl (hrec9 (x10, x11) h9)
    refine so_if_ne (tgt := 31) X (dkX12_plans (24, .ifCond .ne 7, 3) (pgm 16 rfl)) rfl (fun _ => ?_) (fun _ => ?_)
    · refine so_iconst (v := (0 : Int32)) X (dkX12_plans (31, .iconst 0, 1) (pgm 19 rfl)) ic_0 ?_
      exact so_pick X [0, 2] rfl (hj32 (0 : Int32) h7)
    · refine so_iconst (v := (1 : Int32)) X (dkX12_plans (27, .iconst 1, 1) (pgm 17 rfl)) ic_1 ?_
      refine so_goto (tgt := 32) X (dkX12_plans (28, .goto 4, 3) (pgm 18 rfl)) rfl ?_
      exact so_pick X [0, 2] rfl (hj32 (1 : Int32) h7)
def pgX12_isAsked : List (Nat × Instr × Nat) := [(0, .iload_n 1, 1), (1, .aload_n 0, 1), (2, .getfield 9, 3), (5, .bipush 7, 2), (7, .iaload, 1), (8, .iconst (-1), 1), (9, .ixor, 1), (10, .iand, 1), (11, .ifCond .ne 7, 3), (14, .iconst 1, 1), (15, .goto 4, 3), (18, .iconst 0, 1), (19, .ireturn, 1)]
theorem dkX12_isAsked : ∀ q ∈ pgX12_isAsked, decode cX12_isAsked q.1 = .ok q.2 := by decide +kernel
def f_X12_isAsked (this : Nat) (a1 : Int32) (h0 : PH) : Option (Int32 × PH) :=
  ldI h0 (rt this 0) 1200 (7 : Int32) (fun (x1 : Int32) => lt (fun (t2 : Int32) (h3 : PH) => zr t2 h3) (fun (j19 : Int32 → PH → Option (Int32 × PH)) => if (a1 &&& (x1 ^^^ (-1 : Int32))) = 0 then (j19 (1 : Int32) h0) else (j19 (0 : Int32) h0)))
set_option maxRecDepth 100000 in
set_option maxHeartbeats 4000000 in
theorem ct_X12_isAsked (l : Launch) (this : Nat) (a1 : Int32) (h0 : PH) (hk : (kd this).1 = 12) : CT mkI l yX12_isAsked cX12_isAsked 2 (some .boolean) (rmd 0) [.ref this, .int a1] h0 (f_X12_isAsked this a1 h0) := by
  refine ct_of (by decide) (Nat.le_of_ble_eq_true rfl) ?_
  intro p e s m args below meth c D cA ad A X hr hlk
  have X : Cx p s m args c RX12 cX12_isAsked 2 D cA ad A := X
  unfold f_X12_isAsked
  refine so_pick (L' := [(0, .ref this), (1, .int a1)]) X [0, 1] rfl ?_
  refine so_iload_n (i := 1) X 1 (dkX12_isAsked (0, .iload_n 1, 1) (pgm 0 rfl)) rfl rfl ?_
  refine so_aload_n (i := 0) X 0 (dkX12_isAsked (1, .aload_n 0, 1) (pgm 1 rfl)) rfl rfl ?_
  refine sf_getR X ff_12_0 lk_1702 hk (dkX12_isAsked (2, .getfield 9, 3) (pgm 2 rfl)) ?_
  refine so_bipush (v := (7 : Int32)) X (dkX12_isAsked (5, .bipush 7, 2) (pgm 3 rfl)) bp_7 ?_
  refine so_iald X (rk_12_0 this hk) (dkX12_isAsked (7, .iaload, 1) (pgm 4 rfl)) (fun x1 => ?_)
  refine so_iconst (v := (-1 : Int32)) X (dkX12_isAsked (8, .iconst (-1), 1) (pgm 5 rfl)) ic_m1 ?_
  refine so_ixor X (dkX12_isAsked (9, .ixor, 1) (pgm 6 rfl)) ?_
  refine so_iand X (dkX12_isAsked (10, .iand, 1) (pgm 7 rfl)) ?_
  refine so_join (jf := fun (t2 : Int32) (h3 : PH) => zr t2 h3) (fun (j : Int32 → PH → Option (Int32 × PH)) => ∀ (t2 : Int32) (h3 : PH), SWo (QM mkI below args s D cA ad A) p l e (rmd 0) s m args below meth c 0 0 2 D cA ad A 19 [] [.int t2] h3 (j t2 h3)) ?_ (fun j19 hj19 => ?_)
  · intro t2 h3
    exact so_zret X hr hlk (dkX12_isAsked (19, .ireturn, 1) (pgm 12 rfl))
  refine so_if_ne (tgt := 18) X (dkX12_isAsked (11, .ifCond .ne 7, 3) (pgm 8 rfl)) rfl (fun _ => ?_) (fun _ => ?_)
  · refine so_iconst (v := (0 : Int32)) X (dkX12_isAsked (18, .iconst 0, 1) (pgm 11 rfl)) ic_0 ?_
    exact so_pick X [] rfl (hj19 (0 : Int32) h0)
  · refine so_iconst (v := (1 : Int32)) X (dkX12_isAsked (14, .iconst 1, 1) (pgm 9 rfl)) ic_1 ?_
    refine so_goto (tgt := 19) X (dkX12_isAsked (15, .goto 4, 3) (pgm 10 rfl)) rfl ?_
    exact so_pick X [] rfl (hj19 (1 : Int32) h0)
def pgX12_planFor : List (Nat × Instr × Nat) := [(0, .iconst (-1), 1), (1, .istore_n 2, 1), (2, .iconst 0, 1), (3, .istore_n 3, 1), (4, .iload_n 3, 1), (5, .aload_n 0, 1), (6, .invokevirtual 252, 3), (9, .if_icmp .gt 53, 3), (12, .aload_n 0, 1), (13, .getfield 43, 3), (16, .iload_n 3, 1), (17, .iaload, 1), (18, .iconst (-1), 1), (19, .if_icmp .eq 37, 3), (22, .iload_n 1, 1), (23, .aload_n 0, 1), (24, .getfield 43, 3), (27, .iload_n 3, 1), (28, .iaload, 1), (29, .iconst (-1), 1), (30, .ixor, 1), (31, .iand, 1), (32, .ifCond .eq 6, 3), (35, .goto 21, 3), (38, .iload_n 2, 1), (39, .iconst (-1), 1), (40, .if_icmp .eq 14, 3), (43, .iload_n 3, 1), (44, .invokestatic 269, 3), (47, .iload_n 2, 1), (48, .invokestatic 269, 3), (51, .if_icmp .ge 5, 3), (54, .iload_n 3, 1), (55, .istore_n 2, 1), (56, .iinc 3 1, 3), (59, .goto (-55), 3), (62, .iload_n 2, 1), (63, .ireturn, 1)]
theorem dkX12_planFor : ∀ q ∈ pgX12_planFor, decode cX12_planFor q.1 = .ok q.2 := by decide +kernel
def b_X12_planFor_4 (this : Nat) (a1 : Int32) (rec4 : (Int32 × Int32) → PH → Option (Int32 × PH)) (s4 : Int32 × Int32) (hh4 : PH) : Option (Int32 × PH) :=
  cb (f_X12_everywhere this hh4) (fun (r3 : Int32) (h4 : PH) => if r3 < s4.2 then (some (s4.1, h4)) else (ldI h4 (rt this 21) 4096 s4.2 (fun (x5 : Int32) => lt (fun (y6 : Int32) (h7 : PH) => lt (s4.2 + Int32.ofInt 1) (fun (x8 : Int32) => rec4 (y6, x8) h7)) (fun (j56 : Int32 → PH → Option (Int32 × PH)) => if x5 = (-1 : Int32) then (j56 s4.1 h4) else (ldI h4 (rt this 21) 4096 s4.2 (fun (x9 : Int32) => if (a1 &&& (x9 ^^^ (-1 : Int32))) = 0 then (lt (fun (h10 : PH) => lt s4.2 (fun (x11 : Int32) => j56 x11 h10)) (fun (j54 : PH → Option (Int32 × PH)) => if s4.1 = (-1 : Int32) then (j54 h4) else (cb (f_X12_size s4.2 h4) (fun (r12 : Int32) (h13 : PH) => cb (f_X12_size s4.1 h13) (fun (r14 : Int32) (h15 : PH) => if r14 ≤ r12 then (j56 s4.1 h15) else (j54 h15)))))) else (j56 s4.1 h4)))))))
def f_X12_planFor (this : Nat) (a1 : Int32) (h0 : PH) : Option (Int32 × PH) :=
  lt (-1 : Int32) (fun (x1 : Int32) => lt (0 : Int32) (fun (x2 : Int32) => lp (b_X12_planFor_4 this a1) FU (x1, x2) h0))
set_option maxRecDepth 100000 in
set_option maxHeartbeats 4000000 in
theorem ct_X12_planFor (l : Launch) (this : Nat) (a1 : Int32) (h0 : PH) (hk : (kd this).1 = 12) : CT mkI l yX12_planFor cX12_planFor 4 (some .int) (rmd 2) [.ref this, .int a1] h0 (f_X12_planFor this a1 h0) := by
  refine ct_of (by decide) (Nat.le_of_ble_eq_true rfl) ?_
  intro p e s m args below meth c D cA ad A X hr hlk
  have X : Cx p s m args c RX12 cX12_planFor 4 D cA ad A := X
  unfold f_X12_planFor
  refine so_pick (L' := [(0, .ref this), (1, .int a1)]) X [0, 1] rfl ?_
  refine so_iconst (v := (-1 : Int32)) X (dkX12_planFor (0, .iconst (-1), 1) (pgm 0 rfl)) ic_m1 ?_
  refine so_istore_n (i := 2) X (dkX12_planFor (1, .istore_n 2, 1) (pgm 1 rfl)) rfl (by decide) (Lf := fun x1 => [(2, .int x1), (0, .ref this), (1, .int a1)]) (fun _ => rfl) (fun x1 => ?_)
  refine so_iconst (v := (0 : Int32)) X (dkX12_planFor (2, .iconst 0, 1) (pgm 2 rfl)) ic_0 ?_
  refine so_istore_n (i := 3) X (dkX12_planFor (3, .istore_n 3, 1) (pgm 3 rfl)) rfl (by decide) (Lf := fun x2 => [(3, .int x2), (2, .int x1), (0, .ref this), (1, .int a1)]) (fun _ => rfl) (fun x2 => ?_)
  refine so_pick (L' := [(0, .ref this), (1, .int a1), (2, .int x1), (3, .int x2)]) X [2, 3, 1, 0] rfl ?_
  refine so_loop (body := b_X12_planFor_4 this a1) (fun (s4 : Int32 × Int32) => [(0, .ref this), (1, .int a1), (2, .int s4.1), (3, .int s4.2)]) (fun rec4 hrec4 s4 hh4 => ?_) FU (x1, x2) h0
  unfold b_X12_planFor_4
  refine so_iload_n (i := 3) X 3 (dkX12_planFor (4, .iload_n 3, 1) (pgm 4 rfl)) rfl rfl ?_
  refine so_aload_n (i := 0) X 0 (dkX12_planFor (5, .aload_n 0, 1) (pgm 5 rfl)) rfl rfl ?_
  refine so_callV (n := 0) (As := []) X (ct_X12_everywhere l this hh4 hk) hk (by decide) rfl lk_1664 lk_1666 lk_56 lk_134 lk_1667 (by decide +kernel) rfl rfl rfl (rm_ok (by omega) (by decide)) ⟨Nat.zero_le _, Nat.zero_le _⟩ (Nat.le_of_ble_eq_true rfl) (dkX12_planFor (6, .invokevirtual 252, 3) (pgm 6 rfl)) (fun r3 h4 => ?_) rfl
  refine so_icmp_gt (tgt := 62) X (dkX12_planFor (9, .if_icmp .gt 53, 3) (pgm 7 rfl)) rfl (fun _ => ?_) (fun _ => ?_)
  · refine so_iload_n (i := 2) X 2 (dkX12_planFor (62, .iload_n 2, 1) (pgm 36 rfl)) rfl rfl ?_
    exact so_iret X hr hlk (dkX12_planFor (63, .ireturn, 1) (pgm 37 rfl))
  · refine so_aload_n (i := 0) X 0 (dkX12_planFor (12, .aload_n 0, 1) (pgm 8 rfl)) rfl rfl ?_
    refine sf_getR X ff_12_21 lk_1723 hk (dkX12_planFor (13, .getfield 43, 3) (pgm 9 rfl)) ?_
    refine so_iload_n (i := 3) X 3 (dkX12_planFor (16, .iload_n 3, 1) (pgm 10 rfl)) rfl rfl ?_
    refine so_iald X (rk_12_21 this hk) (dkX12_planFor (17, .iaload, 1) (pgm 11 rfl)) (fun x5 => ?_)
    refine so_iconst (v := (-1 : Int32)) X (dkX12_planFor (18, .iconst (-1), 1) (pgm 12 rfl)) ic_m1 ?_
    refine so_join (jf := fun (y6 : Int32) (h7 : PH) => lt (s4.2 + Int32.ofInt 1) (fun (x8 : Int32) => rec4 (y6, x8) h7)) (fun (j : Int32 → PH → Option (Int32 × PH)) => ∀ (y6 : Int32) (h7 : PH), SWo (QM mkI below args s D cA ad A) p l e (rmd 2) s m args below meth c 0 0 4 D cA ad A 56 [(0, .ref this), (1, .int a1), (2, .int y6), (3, .int s4.2)] [] h7 (j y6 h7)) ?_ (fun j56 hj56 => ?_)
    · intro y6 h7
      refine so_iinc (i := 3) X 3 (dkX12_planFor (56, .iinc 3 1, 3) (pgm 34 rfl)) rfl rfl (by decide) (Lf := fun x8 => [(3, .int x8), (0, .ref this), (1, .int a1), (2, .int y6)]) (fun _ => rfl) (fun x8 => ?_)
      refine so_goto (tgt := 4) X (dkX12_planFor (59, .goto (-55), 3) (pgm 35 rfl)) rfl ?_
      exact so_pick X [1, 2, 3, 0] rfl (hrec4 (y6, x8) h7)
    refine so_icmp_eq (tgt := 56) X (dkX12_planFor (19, .if_icmp .eq 37, 3) (pgm 13 rfl)) rfl (fun _ => ?_) (fun _ => ?_)
    · exact so_pick X [0, 1, 2, 3] rfl (hj56 s4.1 h4)
    · refine so_iload_n (i := 1) X 1 (dkX12_planFor (22, .iload_n 1, 1) (pgm 14 rfl)) rfl rfl ?_
      refine so_aload_n (i := 0) X 0 (dkX12_planFor (23, .aload_n 0, 1) (pgm 15 rfl)) rfl rfl ?_
      refine sf_getR X ff_12_21 lk_1723 hk (dkX12_planFor (24, .getfield 43, 3) (pgm 16 rfl)) ?_
      refine so_iload_n (i := 3) X 3 (dkX12_planFor (27, .iload_n 3, 1) (pgm 17 rfl)) rfl rfl ?_
      refine so_iald X (rk_12_21 this hk) (dkX12_planFor (28, .iaload, 1) (pgm 18 rfl)) (fun x9 => ?_)
      refine so_iconst (v := (-1 : Int32)) X (dkX12_planFor (29, .iconst (-1), 1) (pgm 19 rfl)) ic_m1 ?_
      refine so_ixor X (dkX12_planFor (30, .ixor, 1) (pgm 20 rfl)) ?_
      refine so_iand X (dkX12_planFor (31, .iand, 1) (pgm 21 rfl)) ?_
      refine so_if_eq (tgt := 38) X (dkX12_planFor (32, .ifCond .eq 6, 3) (pgm 22 rfl)) rfl (fun _ => ?_) (fun _ => ?_)
      · refine so_iload_n (i := 2) X 2 (dkX12_planFor (38, .iload_n 2, 1) (pgm 24 rfl)) rfl rfl ?_
        refine so_iconst (v := (-1 : Int32)) X (dkX12_planFor (39, .iconst (-1), 1) (pgm 25 rfl)) ic_m1 ?_
        refine so_join (jf := fun (h10 : PH) => lt s4.2 (fun (x11 : Int32) => j56 x11 h10)) (fun (j : PH → Option (Int32 × PH)) => ∀  (h10 : PH), SWo (QM mkI below args s D cA ad A) p l e (rmd 2) s m args below meth c 0 0 4 D cA ad A 54 [(0, .ref this), (1, .int a1), (3, .int s4.2)] [] h10 (j h10)) ?_ (fun j54 hj54 => ?_)
        · intro h10
          refine so_iload_n (i := 3) X 2 (dkX12_planFor (54, .iload_n 3, 1) (pgm 32 rfl)) rfl rfl ?_
          refine so_istore_n (i := 2) X (dkX12_planFor (55, .istore_n 2, 1) (pgm 33 rfl)) rfl (by decide) (Lf := fun x11 => [(2, .int x11), (0, .ref this), (1, .int a1), (3, .int s4.2)]) (fun _ => rfl) (fun x11 => ?_)
          exact so_pick X [1, 2, 0, 3] rfl (hj56 x11 h10)
        refine so_icmp_eq (tgt := 54) X (dkX12_planFor (40, .if_icmp .eq 14, 3) (pgm 26 rfl)) rfl (fun _ => ?_) (fun _ => ?_)
        · exact so_pick X [0, 1, 3] rfl (hj54 h4)
        · refine so_iload_n (i := 3) X 3 (dkX12_planFor (43, .iload_n 3, 1) (pgm 27 rfl)) rfl rfl ?_
          refine so_callS (n := 1) (As := [.int s4.2]) X (ct_X12_size l s4.2 h4 ) lk_1687 lk_1688 lk_134 lk_1689 (by decide +kernel) rfl rfl rfl (rm_ok (by omega) (by decide)) ⟨Nat.zero_le _, Nat.zero_le _⟩ (Nat.le_of_ble_eq_true rfl) (dkX12_planFor (44, .invokestatic 269, 3) (pgm 28 rfl)) (fun r12 h13 => ?_) rfl
          refine so_iload_n (i := 2) X 2 (dkX12_planFor (47, .iload_n 2, 1) (pgm 29 rfl)) rfl rfl ?_
          refine so_callS (n := 1) (As := [.int s4.1]) X (ct_X12_size l s4.1 h13 ) lk_1687 lk_1688 lk_134 lk_1689 (by decide +kernel) rfl rfl rfl (rm_ok (by omega) (by decide)) ⟨Nat.zero_le _, Nat.zero_le _⟩ (Nat.le_of_ble_eq_true rfl) (dkX12_planFor (48, .invokestatic 269, 3) (pgm 30 rfl)) (fun r14 h15 => ?_) rfl
          refine so_icmp_ge (tgt := 56) X (dkX12_planFor (51, .if_icmp .ge 5, 3) (pgm 31 rfl)) rfl (fun _ => ?_) (fun _ => ?_)
          · exact so_pick X [0, 1, 2, 3] rfl (hj56 s4.1 h15)
          · exact so_pick X [0, 1, 3] rfl (hj54 h15)
      · refine so_goto (tgt := 56) X (dkX12_planFor (35, .goto 21, 3) (pgm 23 rfl)) rfl ?_
        exact so_pick X [0, 1, 2, 3] rfl (hj56 s4.1 h4)
def pgX12_together : List (Nat × Instr × Nat) := [(0, .aload_n 0, 1), (1, .iconst 0, 1), (2, .putfield 92, 3), (5, .aload_n 0, 1), (6, .iload_n 1, 1), (7, .invokevirtual 313, 3), (10, .ifCond .ne 9, 3), (13, .aload_n 0, 1), (14, .iconst 1, 1), (15, .invokevirtual 233, 3), (18, .ireturn, 1), (19, .aload_n 0, 1), (20, .invokevirtual 316, 3), (23, .aload_n 0, 1), (24, .iload_n 1, 1), (25, .invokevirtual 319, 3), (28, .ireturn, 1)]
theorem dkX12_together : ∀ q ∈ pgX12_together, decode cX12_together q.1 = .ok q.2 := by decide +kernel
def f_X12_together (this : Nat) (a1 : Int32) (h0 : PH) : Option (Int32 × PH) :=
  lt (pI h0 this 5 (0 : Int32)) (fun (h1 : PH) => cb (f_X12_isAsked this a1 h1) (fun (r2 : Int32) (h3 : PH) => if r2 = 0 then (cb (f_X12_fails this (1 : Int32) h3) (fun (r8 : Int32) (h9 : PH) => some (r8, h9))) else (cb (f_X12_laysPlans this h3) (fun (r4 : Unit) (h5 : PH) => cb (f_X12_planFor this a1 h5) (fun (r6 : Int32) (h7 : PH) => some (r6, h7))))))
set_option maxRecDepth 100000 in
set_option maxHeartbeats 4000000 in
theorem ct_X12_together (l : Launch) (this : Nat) (a1 : Int32) (h0 : PH) (hk : (kd this).1 = 12) : CT mkI l yX12_together cX12_together 2 (some .int) (rmd 5) [.ref this, .int a1] h0 (f_X12_together this a1 h0) := by
  refine ct_of (by decide) (Nat.le_of_ble_eq_true rfl) ?_
  intro p e s m args below meth c D cA ad A X hr hlk
  have X : Cx p s m args c RX12 cX12_together 2 D cA ad A := X
  unfold f_X12_together
  refine so_pick (L' := [(0, .ref this), (1, .int a1)]) X [0, 1] rfl ?_
  refine so_aload_n (i := 0) X 0 (dkX12_together (0, .aload_n 0, 1) (pgm 0 rfl)) rfl rfl ?_
  refine so_iconst (v := (0 : Int32)) X (dkX12_together (1, .iconst 0, 1) (pgm 1 rfl)) ic_0 ?_
  refine sf_putI X ff_12_5 ft_12 rfl lk_1707 hk rfl rfl (dkX12_together (2, .putfield 92, 3) (pgm 2 rfl)) (fun h1 => ?_)
  refine so_aload_n (i := 0) X 0 (dkX12_together (5, .aload_n 0, 1) (pgm 3 rfl)) rfl rfl ?_
  refine so_iload_n (i := 1) X 1 (dkX12_together (6, .iload_n 1, 1) (pgm 4 rfl)) rfl rfl ?_
  refine so_callV (n := 1) (As := [.int a1]) X (ct_X12_isAsked l this a1 h1 hk) hk (by decide) rfl lk_2006 lk_2008 lk_89 lk_134 lk_2009 (by decide +kernel) rfl rfl rfl (rm_ok (by omega) (by decide)) ⟨Nat.zero_le _, Nat.zero_le _⟩ (Nat.le_of_ble_eq_true rfl) (dkX12_together (7, .invokevirtual 313, 3) (pgm 5 rfl)) (fun r2 h3 => ?_) rfl
  refine so_if_ne (tgt := 19) X (dkX12_together (10, .ifCond .ne 9, 3) (pgm 6 rfl)) rfl (fun _ => ?_) (fun _ => ?_)
  · refine so_aload_n (i := 0) X 0 (dkX12_together (19, .aload_n 0, 1) (pgm 11 rfl)) rfl rfl ?_
    refine so_callV (n := 0) (As := []) X (ct_X12_laysPlans l this h3 hk) hk (by decide) rfl lk_2010 lk_2012 lk_90 lk_134 lk_2013 (by decide +kernel) rfl rfl rfl (rm_ok (by omega) (by decide)) ⟨Nat.zero_le _, Nat.zero_le _⟩ (Nat.le_of_ble_eq_true rfl) (dkX12_together (20, .invokevirtual 316, 3) (pgm 12 rfl)) (fun r4 h5 => ?_) rfl
    refine so_aload_n (i := 0) X 0 (dkX12_together (23, .aload_n 0, 1) (pgm 13 rfl)) rfl rfl ?_
    refine so_iload_n (i := 1) X 1 (dkX12_together (24, .iload_n 1, 1) (pgm 14 rfl)) rfl rfl ?_
    refine so_callV (n := 1) (As := [.int a1]) X (ct_X12_planFor l this a1 h5 hk) hk (by decide) rfl lk_2014 lk_2016 lk_91 lk_134 lk_2017 (by decide +kernel) rfl rfl rfl (rm_ok (by omega) (by decide)) ⟨Nat.zero_le _, Nat.zero_le _⟩ (Nat.le_of_ble_eq_true rfl) (dkX12_together (25, .invokevirtual 319, 3) (pgm 15 rfl)) (fun r6 h7 => ?_) rfl
    exact so_iret X hr hlk (dkX12_together (28, .ireturn, 1) (pgm 16 rfl))
  · refine so_aload_n (i := 0) X 0 (dkX12_together (13, .aload_n 0, 1) (pgm 7 rfl)) rfl rfl ?_
    refine so_iconst (v := (1 : Int32)) X (dkX12_together (14, .iconst 1, 1) (pgm 8 rfl)) ic_1 ?_
    refine so_callV (n := 1) (As := [.int (1 : Int32)]) X (ct_X12_fails l this (1 : Int32) h3 hk) hk (by decide) rfl lk_1835 lk_1837 lk_61 lk_134 lk_1838 (by decide +kernel) rfl rfl rfl (rm_ok (by omega) (by decide)) ⟨Nat.zero_le _, Nat.zero_le _⟩ (Nat.le_of_ble_eq_true rfl) (dkX12_together (15, .invokevirtual 233, 3) (pgm 9 rfl)) (fun r8 h9 => ?_) rfl
    exact so_iret X hr hlk (dkX12_together (18, .ireturn, 1) (pgm 10 rfl))
def pgX12_quarrel : List (Nat × Instr × Nat) := [(0, .aload_n 0, 1), (1, .iconst 0, 1), (2, .putfield 92, 3), (5, .aload_n 0, 1), (6, .iload_n 1, 1), (7, .invokevirtual 313, 3), (10, .ifCond .ne 9, 3), (13, .aload_n 0, 1), (14, .iconst 1, 1), (15, .invokevirtual 233, 3), (18, .ireturn, 1), (19, .aload_n 0, 1), (20, .invokevirtual 316, 3), (23, .iconst (-1), 1), (24, .istore_n 2, 1), (25, .iconst 0, 1), (26, .istore_n 3, 1), (27, .iload_n 3, 1), (28, .iload_n 1, 1), (29, .if_icmp .gt 47, 3), (32, .iload_n 3, 1), (33, .iload_n 1, 1), (34, .iconst (-1), 1), (35, .ixor, 1), (36, .iand, 1), (37, .ifCond .ne 33, 3), (40, .aload_n 0, 1), (41, .getfield 46, 3), (44, .iload_n 3, 1), (45, .baload, 1), (46, .ifCond .eq 6, 3), (49, .goto 21, 3), (52, .iload_n 2, 1), (53, .iconst (-1), 1), (54, .if_icmp .eq 14, 3), (57, .iload_n 3, 1), (58, .invokestatic 269, 3), (61, .iload_n 2, 1), (62, .invokestatic 269, 3), (65, .if_icmp .ge 5, 3), (68, .iload_n 3, 1), (69, .istore_n 2, 1), (70, .iinc 3 1, 3), (73, .goto (-46), 3), (76, .iload_n 2, 1), (77, .ireturn, 1)]
theorem dkX12_quarrel : ∀ q ∈ pgX12_quarrel, decode cX12_quarrel q.1 = .ok q.2 := by decide +kernel
def b_X12_quarrel_27 (this : Nat) (a1 : Int32) (rec27 : (Int32 × Int32) → PH → Option (Int32 × PH)) (s27 : Int32 × Int32) (hh27 : PH) : Option (Int32 × PH) :=
  if a1 < s27.2 then (some (s27.1, hh27)) else (lt (fun (y8 : Int32) (h9 : PH) => lt (s27.2 + Int32.ofInt 1) (fun (x10 : Int32) => rec27 (y8, x10) h9)) (fun (j70 : Int32 → PH → Option (Int32 × PH)) => if (s27.2 &&& (a1 ^^^ (-1 : Int32))) = 0 then (ldI hh27 (rt this 22) 1024 s27.2 (fun (x11 : Int32) => if x11 = 0 then (lt (fun (h12 : PH) => lt s27.2 (fun (x13 : Int32) => j70 x13 h12)) (fun (j68 : PH → Option (Int32 × PH)) => if s27.1 = (-1 : Int32) then (j68 hh27) else (cb (f_X12_size s27.2 hh27) (fun (r14 : Int32) (h15 : PH) => cb (f_X12_size s27.1 h15) (fun (r16 : Int32) (h17 : PH) => if r16 ≤ r14 then (j70 s27.1 h17) else (j68 h17)))))) else (j70 s27.1 hh27))) else (j70 s27.1 hh27)))
def f_X12_quarrel (this : Nat) (a1 : Int32) (h0 : PH) : Option (Int32 × PH) :=
  lt (pI h0 this 5 (0 : Int32)) (fun (h1 : PH) => cb (f_X12_isAsked this a1 h1) (fun (r2 : Int32) (h3 : PH) => if r2 = 0 then (cb (f_X12_fails this (1 : Int32) h3) (fun (r18 : Int32) (h19 : PH) => some (r18, h19))) else (cb (f_X12_laysPlans this h3) (fun (r4 : Unit) (h5 : PH) => lt (-1 : Int32) (fun (x6 : Int32) => lt (0 : Int32) (fun (x7 : Int32) => lp (b_X12_quarrel_27 this a1) FU (x6, x7) h5))))))
set_option maxRecDepth 100000 in
set_option maxHeartbeats 4000000 in
theorem ct_X12_quarrel (l : Launch) (this : Nat) (a1 : Int32) (h0 : PH) (hk : (kd this).1 = 12) : CT mkI l yX12_quarrel cX12_quarrel 4 (some .int) (rmd 5) [.ref this, .int a1] h0 (f_X12_quarrel this a1 h0) := by
  refine ct_of (by decide) (Nat.le_of_ble_eq_true rfl) ?_
  intro p e s m args below meth c D cA ad A X hr hlk
  have X : Cx p s m args c RX12 cX12_quarrel 4 D cA ad A := X
  unfold f_X12_quarrel
  refine so_pick (L' := [(0, .ref this), (1, .int a1)]) X [0, 1] rfl ?_
  refine so_aload_n (i := 0) X 0 (dkX12_quarrel (0, .aload_n 0, 1) (pgm 0 rfl)) rfl rfl ?_
  refine so_iconst (v := (0 : Int32)) X (dkX12_quarrel (1, .iconst 0, 1) (pgm 1 rfl)) ic_0 ?_
  refine sf_putI X ff_12_5 ft_12 rfl lk_1707 hk rfl rfl (dkX12_quarrel (2, .putfield 92, 3) (pgm 2 rfl)) (fun h1 => ?_)
  refine so_aload_n (i := 0) X 0 (dkX12_quarrel (5, .aload_n 0, 1) (pgm 3 rfl)) rfl rfl ?_
  refine so_iload_n (i := 1) X 1 (dkX12_quarrel (6, .iload_n 1, 1) (pgm 4 rfl)) rfl rfl ?_
  refine so_callV (n := 1) (As := [.int a1]) X (ct_X12_isAsked l this a1 h1 hk) hk (by decide) rfl lk_2006 lk_2008 lk_89 lk_134 lk_2009 (by decide +kernel) rfl rfl rfl (rm_ok (by omega) (by decide)) ⟨Nat.zero_le _, Nat.zero_le _⟩ (Nat.le_of_ble_eq_true rfl) (dkX12_quarrel (7, .invokevirtual 313, 3) (pgm 5 rfl)) (fun r2 h3 => ?_) rfl
  refine so_if_ne (tgt := 19) X (dkX12_quarrel (10, .ifCond .ne 9, 3) (pgm 6 rfl)) rfl (fun _ => ?_) (fun _ => ?_)
  · refine so_aload_n (i := 0) X 0 (dkX12_quarrel (19, .aload_n 0, 1) (pgm 11 rfl)) rfl rfl ?_
    refine so_callV (n := 0) (As := []) X (ct_X12_laysPlans l this h3 hk) hk (by decide) rfl lk_2010 lk_2012 lk_90 lk_134 lk_2013 (by decide +kernel) rfl rfl rfl (rm_ok (by omega) (by decide)) ⟨Nat.zero_le _, Nat.zero_le _⟩ (Nat.le_of_ble_eq_true rfl) (dkX12_quarrel (20, .invokevirtual 316, 3) (pgm 12 rfl)) (fun r4 h5 => ?_) rfl
    refine so_iconst (v := (-1 : Int32)) X (dkX12_quarrel (23, .iconst (-1), 1) (pgm 13 rfl)) ic_m1 ?_
    refine so_istore_n (i := 2) X (dkX12_quarrel (24, .istore_n 2, 1) (pgm 14 rfl)) rfl (by decide) (Lf := fun x6 => [(2, .int x6), (0, .ref this), (1, .int a1)]) (fun _ => rfl) (fun x6 => ?_)
    refine so_iconst (v := (0 : Int32)) X (dkX12_quarrel (25, .iconst 0, 1) (pgm 15 rfl)) ic_0 ?_
    refine so_istore_n (i := 3) X (dkX12_quarrel (26, .istore_n 3, 1) (pgm 16 rfl)) rfl (by decide) (Lf := fun x7 => [(3, .int x7), (2, .int x6), (0, .ref this), (1, .int a1)]) (fun _ => rfl) (fun x7 => ?_)
    refine so_pick (L' := [(0, .ref this), (1, .int a1), (2, .int x6), (3, .int x7)]) X [2, 3, 1, 0] rfl ?_
    refine so_loop (body := b_X12_quarrel_27 this a1) (fun (s27 : Int32 × Int32) => [(0, .ref this), (1, .int a1), (2, .int s27.1), (3, .int s27.2)]) (fun rec27 hrec27 s27 hh27 => ?_) FU (x6, x7) h5
    unfold b_X12_quarrel_27
    refine so_iload_n (i := 3) X 3 (dkX12_quarrel (27, .iload_n 3, 1) (pgm 17 rfl)) rfl rfl ?_
    refine so_iload_n (i := 1) X 1 (dkX12_quarrel (28, .iload_n 1, 1) (pgm 18 rfl)) rfl rfl ?_
    refine so_icmp_gt (tgt := 76) X (dkX12_quarrel (29, .if_icmp .gt 47, 3) (pgm 19 rfl)) rfl (fun _ => ?_) (fun _ => ?_)
    · refine so_iload_n (i := 2) X 2 (dkX12_quarrel (76, .iload_n 2, 1) (pgm 44 rfl)) rfl rfl ?_
      exact so_iret X hr hlk (dkX12_quarrel (77, .ireturn, 1) (pgm 45 rfl))
    · refine so_iload_n (i := 3) X 3 (dkX12_quarrel (32, .iload_n 3, 1) (pgm 20 rfl)) rfl rfl ?_
      refine so_iload_n (i := 1) X 1 (dkX12_quarrel (33, .iload_n 1, 1) (pgm 21 rfl)) rfl rfl ?_
      refine so_iconst (v := (-1 : Int32)) X (dkX12_quarrel (34, .iconst (-1), 1) (pgm 22 rfl)) ic_m1 ?_
      refine so_ixor X (dkX12_quarrel (35, .ixor, 1) (pgm 23 rfl)) ?_
      refine so_iand X (dkX12_quarrel (36, .iand, 1) (pgm 24 rfl)) ?_
      refine so_join (jf := fun (y8 : Int32) (h9 : PH) => lt (s27.2 + Int32.ofInt 1) (fun (x10 : Int32) => rec27 (y8, x10) h9)) (fun (j : Int32 → PH → Option (Int32 × PH)) => ∀ (y8 : Int32) (h9 : PH), SWo (QM mkI below args s D cA ad A) p l e (rmd 5) s m args below meth c 0 0 4 D cA ad A 70 [(0, .ref this), (1, .int a1), (2, .int y8), (3, .int s27.2)] [] h9 (j y8 h9)) ?_ (fun j70 hj70 => ?_)
      · intro y8 h9
        refine so_iinc (i := 3) X 3 (dkX12_quarrel (70, .iinc 3 1, 3) (pgm 42 rfl)) rfl rfl (by decide) (Lf := fun x10 => [(3, .int x10), (0, .ref this), (1, .int a1), (2, .int y8)]) (fun _ => rfl) (fun x10 => ?_)
        refine so_goto (tgt := 27) X (dkX12_quarrel (73, .goto (-46), 3) (pgm 43 rfl)) rfl ?_
        exact so_pick X [1, 2, 3, 0] rfl (hrec27 (y8, x10) h9)
      refine so_if_ne (tgt := 70) X (dkX12_quarrel (37, .ifCond .ne 33, 3) (pgm 25 rfl)) rfl (fun _ => ?_) (fun _ => ?_)
      · exact so_pick X [0, 1, 2, 3] rfl (hj70 s27.1 hh27)
      · refine so_aload_n (i := 0) X 0 (dkX12_quarrel (40, .aload_n 0, 1) (pgm 26 rfl)) rfl rfl ?_
        refine sf_getR X ff_12_22 lk_1724 hk (dkX12_quarrel (41, .getfield 46, 3) (pgm 27 rfl)) ?_
        refine so_iload_n (i := 3) X 3 (dkX12_quarrel (44, .iload_n 3, 1) (pgm 28 rfl)) rfl rfl ?_
        refine so_zald X (rk_12_22 this hk) (dkX12_quarrel (45, .baload, 1) (pgm 29 rfl)) (fun x11 => ?_)
        refine so_if_eq (tgt := 52) X (dkX12_quarrel (46, .ifCond .eq 6, 3) (pgm 30 rfl)) rfl (fun _ => ?_) (fun _ => ?_)
        · refine so_iload_n (i := 2) X 2 (dkX12_quarrel (52, .iload_n 2, 1) (pgm 32 rfl)) rfl rfl ?_
          refine so_iconst (v := (-1 : Int32)) X (dkX12_quarrel (53, .iconst (-1), 1) (pgm 33 rfl)) ic_m1 ?_
          refine so_join (jf := fun (h12 : PH) => lt s27.2 (fun (x13 : Int32) => j70 x13 h12)) (fun (j : PH → Option (Int32 × PH)) => ∀  (h12 : PH), SWo (QM mkI below args s D cA ad A) p l e (rmd 5) s m args below meth c 0 0 4 D cA ad A 68 [(0, .ref this), (1, .int a1), (3, .int s27.2)] [] h12 (j h12)) ?_ (fun j68 hj68 => ?_)
          · intro h12
            refine so_iload_n (i := 3) X 2 (dkX12_quarrel (68, .iload_n 3, 1) (pgm 40 rfl)) rfl rfl ?_
            refine so_istore_n (i := 2) X (dkX12_quarrel (69, .istore_n 2, 1) (pgm 41 rfl)) rfl (by decide) (Lf := fun x13 => [(2, .int x13), (0, .ref this), (1, .int a1), (3, .int s27.2)]) (fun _ => rfl) (fun x13 => ?_)
            exact so_pick X [1, 2, 0, 3] rfl (hj70 x13 h12)
          refine so_icmp_eq (tgt := 68) X (dkX12_quarrel (54, .if_icmp .eq 14, 3) (pgm 34 rfl)) rfl (fun _ => ?_) (fun _ => ?_)
          · exact so_pick X [0, 1, 3] rfl (hj68 hh27)
          · refine so_iload_n (i := 3) X 3 (dkX12_quarrel (57, .iload_n 3, 1) (pgm 35 rfl)) rfl rfl ?_
            refine so_callS (n := 1) (As := [.int s27.2]) X (ct_X12_size l s27.2 hh27 ) lk_1687 lk_1688 lk_134 lk_1689 (by decide +kernel) rfl rfl rfl (rm_ok (by omega) (by decide)) ⟨Nat.zero_le _, Nat.zero_le _⟩ (Nat.le_of_ble_eq_true rfl) (dkX12_quarrel (58, .invokestatic 269, 3) (pgm 36 rfl)) (fun r14 h15 => ?_) rfl
            refine so_iload_n (i := 2) X 2 (dkX12_quarrel (61, .iload_n 2, 1) (pgm 37 rfl)) rfl rfl ?_
            refine so_callS (n := 1) (As := [.int s27.1]) X (ct_X12_size l s27.1 h15 ) lk_1687 lk_1688 lk_134 lk_1689 (by decide +kernel) rfl rfl rfl (rm_ok (by omega) (by decide)) ⟨Nat.zero_le _, Nat.zero_le _⟩ (Nat.le_of_ble_eq_true rfl) (dkX12_quarrel (62, .invokestatic 269, 3) (pgm 38 rfl)) (fun r16 h17 => ?_) rfl
            refine so_icmp_ge (tgt := 70) X (dkX12_quarrel (65, .if_icmp .ge 5, 3) (pgm 39 rfl)) rfl (fun _ => ?_) (fun _ => ?_)
            · exact so_pick X [0, 1, 2, 3] rfl (hj70 s27.1 h17)
            · exact so_pick X [0, 1, 3] rfl (hj68 h17)
        · refine so_goto (tgt := 70) X (dkX12_quarrel (49, .goto 21, 3) (pgm 31 rfl)) rfl ?_
          exact so_pick X [0, 1, 2, 3] rfl (hj70 s27.1 hh27)
  · refine so_aload_n (i := 0) X 0 (dkX12_quarrel (13, .aload_n 0, 1) (pgm 7 rfl)) rfl rfl ?_
    refine so_iconst (v := (1 : Int32)) X (dkX12_quarrel (14, .iconst 1, 1) (pgm 8 rfl)) ic_1 ?_
    refine so_callV (n := 1) (As := [.int (1 : Int32)]) X (ct_X12_fails l this (1 : Int32) h3 hk) hk (by decide) rfl lk_1835 lk_1837 lk_61 lk_134 lk_1838 (by decide +kernel) rfl rfl rfl (rm_ok (by omega) (by decide)) ⟨Nat.zero_le _, Nat.zero_le _⟩ (Nat.le_of_ble_eq_true rfl) (dkX12_quarrel (15, .invokevirtual 233, 3) (pgm 9 rfl)) (fun r18 h19 => ?_) rfl
    exact so_iret X hr hlk (dkX12_quarrel (18, .ireturn, 1) (pgm 10 rfl))
def pgX12_openFault : List (Nat × Instr × Nat) := [(0, .aload_n 0, 1), (1, .iload_n 1, 1), (2, .invokevirtual 305, 3), (5, .ifCond .ne 7, 3), (8, .iconst 1, 1), (9, .goto 16, 3), (12, .aload_n 0, 1), (13, .iload_n 1, 1), (14, .invokevirtual 289, 3), (17, .ifCond .eq 7, 3), (20, .iconst 0, 1), (21, .goto 4, 3), (24, .iconst 2, 1), (25, .ireturn, 1)]
theorem dkX12_openFault : ∀ q ∈ pgX12_openFault, decode cX12_openFault q.1 = .ok q.2 := by decide +kernel
def f_X12_openFault (this : Nat) (a1 : Int32) (h0 : PH) : Option (Int32 × PH) :=
  cb (f_X12_isWish this a1 h0) (fun (r1 : Int32) (h2 : PH) => lt (fun (t3 : Int32) (h4 : PH) => some (t3, h4)) (fun (j25 : Int32 → PH → Option (Int32 × PH)) => if r1 = 0 then (j25 (1 : Int32) h2) else (cb (f_X12_isOpen this a1 h2) (fun (r5 : Int32) (h6 : PH) => if r5 = 0 then (j25 (2 : Int32) h6) else (j25 (0 : Int32) h6)))))
set_option maxRecDepth 100000 in
set_option maxHeartbeats 4000000 in
theorem ct_X12_openFault (l : Launch) (this : Nat) (a1 : Int32) (h0 : PH) (hk : (kd this).1 = 12) : CT mkI l yX12_openFault cX12_openFault 2 (some .int) (rmd 2) [.ref this, .int a1] h0 (f_X12_openFault this a1 h0) := by
  refine ct_of (by decide) (Nat.le_of_ble_eq_true rfl) ?_
  intro p e s m args below meth c D cA ad A X hr hlk
  have X : Cx p s m args c RX12 cX12_openFault 2 D cA ad A := X
  unfold f_X12_openFault
  refine so_pick (L' := [(0, .ref this), (1, .int a1)]) X [0, 1] rfl ?_
  refine so_aload_n (i := 0) X 0 (dkX12_openFault (0, .aload_n 0, 1) (pgm 0 rfl)) rfl rfl ?_
  refine so_iload_n (i := 1) X 1 (dkX12_openFault (1, .iload_n 1, 1) (pgm 1 rfl)) rfl rfl ?_
  refine so_callV (n := 1) (As := [.int a1]) X (ct_X12_isWish l this a1 h0 hk) hk (by decide) rfl lk_1953 lk_1955 lk_82 lk_134 lk_1956 (by decide +kernel) rfl rfl rfl (rm_ok (by omega) (by decide)) ⟨Nat.zero_le _, Nat.zero_le _⟩ (Nat.le_of_ble_eq_true rfl) (dkX12_openFault (2, .invokevirtual 305, 3) (pgm 2 rfl)) (fun r1 h2 => ?_) rfl
  refine so_join (jf := fun (t3 : Int32) (h4 : PH) => some (t3, h4)) (fun (j : Int32 → PH → Option (Int32 × PH)) => ∀ (t3 : Int32) (h4 : PH), SWo (QM mkI below args s D cA ad A) p l e (rmd 2) s m args below meth c 0 0 2 D cA ad A 25 [] [.int t3] h4 (j t3 h4)) ?_ (fun j25 hj25 => ?_)
  · intro t3 h4
    exact so_iret X hr hlk (dkX12_openFault (25, .ireturn, 1) (pgm 13 rfl))
  refine so_if_ne (tgt := 12) X (dkX12_openFault (5, .ifCond .ne 7, 3) (pgm 3 rfl)) rfl (fun _ => ?_) (fun _ => ?_)
  · refine so_aload_n (i := 0) X 0 (dkX12_openFault (12, .aload_n 0, 1) (pgm 6 rfl)) rfl rfl ?_
    refine so_iload_n (i := 1) X 1 (dkX12_openFault (13, .iload_n 1, 1) (pgm 7 rfl)) rfl rfl ?_
    refine so_callV (n := 1) (As := [.int a1]) X (ct_X12_isOpen l this a1 h2 hk) hk (by decide) rfl lk_1962 lk_1964 lk_84 lk_134 lk_1965 (by decide +kernel) rfl rfl rfl (rm_ok (by omega) (by decide)) ⟨Nat.zero_le _, Nat.zero_le _⟩ (Nat.le_of_ble_eq_true rfl) (dkX12_openFault (14, .invokevirtual 289, 3) (pgm 8 rfl)) (fun r5 h6 => ?_) rfl
    refine so_if_eq (tgt := 24) X (dkX12_openFault (17, .ifCond .eq 7, 3) (pgm 9 rfl)) rfl (fun _ => ?_) (fun _ => ?_)
    · refine so_iconst (v := (2 : Int32)) X (dkX12_openFault (24, .iconst 2, 1) (pgm 12 rfl)) ic_2 ?_
      exact so_pick X [] rfl (hj25 (2 : Int32) h6)
    · refine so_iconst (v := (0 : Int32)) X (dkX12_openFault (20, .iconst 0, 1) (pgm 10 rfl)) ic_0 ?_
      refine so_goto (tgt := 25) X (dkX12_openFault (21, .goto 4, 3) (pgm 11 rfl)) rfl ?_
      exact so_pick X [] rfl (hj25 (0 : Int32) h6)
  · refine so_iconst (v := (1 : Int32)) X (dkX12_openFault (8, .iconst 1, 1) (pgm 4 rfl)) ic_1 ?_
    refine so_goto (tgt := 25) X (dkX12_openFault (9, .goto 16, 3) (pgm 5 rfl)) rfl ?_
    exact so_pick X [] rfl (hj25 (1 : Int32) h2)
def pgX12_foes : List (Nat × Instr × Nat) := [(0, .aload_n 0, 1), (1, .aload_n 0, 1), (2, .iload_n 1, 1), (3, .invokevirtual 322, 3), (6, .putfield 92, 3), (9, .aload_n 0, 1), (10, .getfield 92, 3), (13, .ifCond .le 5, 3), (16, .iconst 0, 1), (17, .ireturn, 1), (18, .aload_n 0, 1), (19, .invokevirtual 316, 3), (22, .iconst 0, 1), (23, .istore_n 2, 1), (24, .iconst 0, 1), (25, .istore_n 3, 1), (26, .iload_n 3, 1), (27, .aload_n 0, 1), (28, .getfield 9, 3), (31, .iconst 5, 1), (32, .iaload, 1), (33, .if_icmp .ge 58, 3), (36, .aload_n 0, 1), (37, .getfield 46, 3), (40, .iconst 1, 1), (41, .iload_n 1, 1), (42, .ishl, 1), (43, .baload, 1), (44, .ifCond .eq 47, 3), (47, .iload_n 2, 1), (48, .iload_n 3, 1), (49, .iload_n 1, 1), (50, .if_icmp .eq 32, 3), (53, .aload_n 0, 1), (54, .iload_n 3, 1), (55, .invokevirtual 289, 3), (58, .ifCond .eq 24, 3), (61, .aload_n 0, 1), (62, .getfield 46, 3), (65, .iconst 1, 1), (66, .iload_n 1, 1), (67, .ishl, 1), (68, .iconst 1, 1), (69, .iload_n 3, 1), (70, .ishl, 1), (71, .ior, 1), (72, .baload, 1), (73, .ifCond .ne 9, 3), (76, .iconst 1, 1), (77, .iload_n 3, 1), (78, .ishl, 1), (79, .goto 4, 3), (82, .iconst 0, 1), (83, .ior, 1), (84, .istore_n 2, 1), (85, .iinc 3 1, 3), (88, .goto (-62), 3), (91, .iload_n 2, 1), (92, .ireturn, 1)]
theorem dkX12_foes : ∀ q ∈ pgX12_foes, decode cX12_foes q.1 = .ok q.2 := by decide +kernel
def b_X12_foes_26 (this : Nat) (a1 : Int32) (j91 : Int32 → PH → Option (Int32 × PH)) (rec26 : (Int32 × Int32) → PH → Option (Int32 × PH)) (s26 : Int32 × Int32) (hh26 : PH) : Option (Int32 × PH) :=
  ldI hh26 (rt this 0) 1200 (5 : Int32) (fun (x10 : Int32) => if x10 ≤ s26.2 then (j91 s26.1 hh26) else (ldI hh26 (rt this 22) 1024 ((1 : Int32) <<< (a1 &&& 31)) (fun (x11 : Int32) => if x11 = 0 then (j91 s26.1 hh26) else (lt (fun (t12 : Int32) (h13 : PH) => lt (s26.1 ||| t12) (fun (x14 : Int32) => lt (s26.2 + Int32.ofInt 1) (fun (x15 : Int32) => rec26 (x14, x15) h13))) (fun (j83 : Int32 → PH → Option (Int32 × PH)) => lt (fun (h16 : PH) => j83 (0 : Int32) h16) (fun (j82 : PH → Option (Int32 × PH)) => if s26.2 = a1 then (j82 hh26) else (cb (f_X12_isOpen this s26.2 hh26) (fun (r17 : Int32) (h18 : PH) => if r17 = 0 then (j82 h18) else (ldI h18 (rt this 22) 1024 (((1 : Int32) <<< (a1 &&& 31)) ||| ((1 : Int32) <<< (s26.2 &&& 31))) (fun (x19 : Int32) => if x19 = 0 then (j83 ((1 : Int32) <<< (s26.2 &&& 31)) h18) else (j82 h18)))))))))))
def f_X12_foes (this : Nat) (a1 : Int32) (h0 : PH) : Option (Int32 × PH) :=
  cb (f_X12_openFault this a1 h0) (fun (r1 : Int32) (h2 : PH) => lt (pI h2 this 5 r1) (fun (h3 : PH) => if (h3.1 this 5) ≤ 0 then (cb (f_X12_laysPlans this h3) (fun (r4 : Unit) (h5 : PH) => lt (0 : Int32) (fun (x6 : Int32) => lt (0 : Int32) (fun (x7 : Int32) => lt (fun (y8 : Int32) (h9 : PH) => some (y8, h9)) (fun (j91 : Int32 → PH → Option (Int32 × PH)) => lp (b_X12_foes_26 this a1 j91) FU (x6, x7) h5))))) else (some ((0 : Int32), h3))))
set_option maxRecDepth 100000 in
set_option maxHeartbeats 4000000 in
theorem ct_X12_foes (l : Launch) (this : Nat) (a1 : Int32) (h0 : PH) (hk : (kd this).1 = 12) : CT mkI l yX12_foes cX12_foes 4 (some .int) (rmd 5) [.ref this, .int a1] h0 (f_X12_foes this a1 h0) := by
  refine ct_of (by decide) (Nat.le_of_ble_eq_true rfl) ?_
  intro p e s m args below meth c D cA ad A X hr hlk
  have X : Cx p s m args c RX12 cX12_foes 4 D cA ad A := X
  unfold f_X12_foes
  refine so_pick (L' := [(0, .ref this), (1, .int a1)]) X [0, 1] rfl ?_
  refine so_aload_n (i := 0) X 0 (dkX12_foes (0, .aload_n 0, 1) (pgm 0 rfl)) rfl rfl ?_
  refine so_aload_n (i := 0) X 0 (dkX12_foes (1, .aload_n 0, 1) (pgm 1 rfl)) rfl rfl ?_
  refine so_iload_n (i := 1) X 1 (dkX12_foes (2, .iload_n 1, 1) (pgm 2 rfl)) rfl rfl ?_
  refine so_callV (n := 1) (As := [.int a1]) X (ct_X12_openFault l this a1 h0 hk) hk (by decide) rfl lk_2026 lk_2028 lk_92 lk_134 lk_2029 (by decide +kernel) rfl rfl rfl (rm_ok (by omega) (by decide)) ⟨Nat.zero_le _, Nat.zero_le _⟩ (Nat.le_of_ble_eq_true rfl) (dkX12_foes (3, .invokevirtual 322, 3) (pgm 3 rfl)) (fun r1 h2 => ?_) rfl
  refine sf_putI X ff_12_5 ft_12 rfl lk_1707 hk rfl rfl (dkX12_foes (6, .putfield 92, 3) (pgm 4 rfl)) (fun h3 => ?_)
  refine so_aload_n (i := 0) X 0 (dkX12_foes (9, .aload_n 0, 1) (pgm 5 rfl)) rfl rfl ?_
  refine sf_getI X ff_12_5 lk_1707 hk (dkX12_foes (10, .getfield 92, 3) (pgm 6 rfl)) ?_
  refine so_if_le (tgt := 18) X (dkX12_foes (13, .ifCond .le 5, 3) (pgm 7 rfl)) rfl (fun _ => ?_) (fun _ => ?_)
  · refine so_aload_n (i := 0) X 0 (dkX12_foes (18, .aload_n 0, 1) (pgm 10 rfl)) rfl rfl ?_
    refine so_callV (n := 0) (As := []) X (ct_X12_laysPlans l this h3 hk) hk (by decide) rfl lk_2010 lk_2012 lk_90 lk_134 lk_2013 (by decide +kernel) rfl rfl rfl (rm_ok (by omega) (by decide)) ⟨Nat.zero_le _, Nat.zero_le _⟩ (Nat.le_of_ble_eq_true rfl) (dkX12_foes (19, .invokevirtual 316, 3) (pgm 11 rfl)) (fun r4 h5 => ?_) rfl
    refine so_iconst (v := (0 : Int32)) X (dkX12_foes (22, .iconst 0, 1) (pgm 12 rfl)) ic_0 ?_
    refine so_istore_n (i := 2) X (dkX12_foes (23, .istore_n 2, 1) (pgm 13 rfl)) rfl (by decide) (Lf := fun x6 => [(2, .int x6), (0, .ref this), (1, .int a1)]) (fun _ => rfl) (fun x6 => ?_)
    refine so_iconst (v := (0 : Int32)) X (dkX12_foes (24, .iconst 0, 1) (pgm 14 rfl)) ic_0 ?_
    refine so_istore_n (i := 3) X (dkX12_foes (25, .istore_n 3, 1) (pgm 15 rfl)) rfl (by decide) (Lf := fun x7 => [(3, .int x7), (2, .int x6), (0, .ref this), (1, .int a1)]) (fun _ => rfl) (fun x7 => ?_)
    refine so_join (jf := fun (y8 : Int32) (h9 : PH) => some (y8, h9)) (fun (j : Int32 → PH → Option (Int32 × PH)) => ∀ (y8 : Int32) (h9 : PH), SWo (QM mkI below args s D cA ad A) p l e (rmd 5) s m args below meth c 0 0 4 D cA ad A 91 [(2, .int y8)] [] h9 (j y8 h9)) ?_ (fun j91 hj91 => ?_)
    · intro y8 h9
      refine so_iload_n (i := 2) X 0 (dkX12_foes (91, .iload_n 2, 1) (pgm 57 rfl)) rfl rfl ?_
      exact so_iret X hr hlk (dkX12_foes (92, .ireturn, 1) (pgm 58 rfl))
    refine so_pick (L' := [(0, .ref this), (1, .int a1), (2, .int x6), (3, .int x7)]) X [2, 3, 1, 0] rfl ?_
    refine so_loop (body := b_X12_foes_26 this a1 j91) (fun (s26 : Int32 × Int32) => [(0, .ref this), (1, .int a1), (2, .int s26.1), (3, .int s26.2)]) (fun rec26 hrec26 s26 hh26 => ?_) FU (x6, x7) h5
    unfold b_X12_foes_26
    refine so_iload_n (i := 3) X 3 (dkX12_foes (26, .iload_n 3, 1) (pgm 16 rfl)) rfl rfl ?_
    refine so_aload_n (i := 0) X 0 (dkX12_foes (27, .aload_n 0, 1) (pgm 17 rfl)) rfl rfl ?_
    refine sf_getR X ff_12_0 lk_1702 hk (dkX12_foes (28, .getfield 9, 3) (pgm 18 rfl)) ?_
    refine so_iconst (v := (5 : Int32)) X (dkX12_foes (31, .iconst 5, 1) (pgm 19 rfl)) ic_5 ?_
    refine so_iald X (rk_12_0 this hk) (dkX12_foes (32, .iaload, 1) (pgm 20 rfl)) (fun x10 => ?_)
    refine so_icmp_ge (tgt := 91) X (dkX12_foes (33, .if_icmp .ge 58, 3) (pgm 21 rfl)) rfl (fun _ => ?_) (fun _ => ?_)
    · exact so_pick X [2] rfl (hj91 s26.1 hh26)
    · refine so_aload_n (i := 0) X 0 (dkX12_foes (36, .aload_n 0, 1) (pgm 22 rfl)) rfl rfl ?_
      refine sf_getR X ff_12_22 lk_1724 hk (dkX12_foes (37, .getfield 46, 3) (pgm 23 rfl)) ?_
      refine so_iconst (v := (1 : Int32)) X (dkX12_foes (40, .iconst 1, 1) (pgm 24 rfl)) ic_1 ?_
      refine so_iload_n (i := 1) X 1 (dkX12_foes (41, .iload_n 1, 1) (pgm 25 rfl)) rfl rfl ?_
      refine so_ishl X (dkX12_foes (42, .ishl, 1) (pgm 26 rfl)) ?_
      refine so_zald X (rk_12_22 this hk) (dkX12_foes (43, .baload, 1) (pgm 27 rfl)) (fun x11 => ?_)
      refine so_if_eq (tgt := 91) X (dkX12_foes (44, .ifCond .eq 47, 3) (pgm 28 rfl)) rfl (fun _ => ?_) (fun _ => ?_)
      · exact so_pick X [2] rfl (hj91 s26.1 hh26)
      · refine so_iload_n (i := 2) X 2 (dkX12_foes (47, .iload_n 2, 1) (pgm 29 rfl)) rfl rfl ?_
        refine so_iload_n (i := 3) X 3 (dkX12_foes (48, .iload_n 3, 1) (pgm 30 rfl)) rfl rfl ?_
        refine so_iload_n (i := 1) X 1 (dkX12_foes (49, .iload_n 1, 1) (pgm 31 rfl)) rfl rfl ?_
        refine so_join (jf := fun (t12 : Int32) (h13 : PH) => lt (s26.1 ||| t12) (fun (x14 : Int32) => lt (s26.2 + Int32.ofInt 1) (fun (x15 : Int32) => rec26 (x14, x15) h13))) (fun (j : Int32 → PH → Option (Int32 × PH)) => ∀ (t12 : Int32) (h13 : PH), SWo (QM mkI below args s D cA ad A) p l e (rmd 5) s m args below meth c 0 0 4 D cA ad A 83 [(0, .ref this), (1, .int a1), (3, .int s26.2)] [.int t12, .int s26.1] h13 (j t12 h13)) ?_ (fun j83 hj83 => ?_)
        · intro t12 h13
          refine so_ior X (dkX12_foes (83, .ior, 1) (pgm 53 rfl)) ?_
          refine so_istore_n (i := 2) X (dkX12_foes (84, .istore_n 2, 1) (pgm 54 rfl)) rfl (by decide) (Lf := fun x14 => [(2, .int x14), (0, .ref this), (1, .int a1), (3, .int s26.2)]) (fun _ => rfl) (fun x14 => ?_)
          refine so_iinc (i := 3) X 3 (dkX12_foes (85, .iinc 3 1, 3) (pgm 55 rfl)) rfl rfl (by decide) (Lf := fun x15 => [(3, .int x15), (2, .int x14), (0, .ref this), (1, .int a1)]) (fun _ => rfl) (fun x15 => ?_)
          refine so_goto (tgt := 26) X (dkX12_foes (88, .goto (-62), 3) (pgm 56 rfl)) rfl ?_
          exact so_pick X [2, 3, 1, 0] rfl (hrec26 (x14, x15) h13)
        refine so_join (jf := fun (h16 : PH) => j83 (0 : Int32) h16) (fun (j : PH → Option (Int32 × PH)) => ∀  (h16 : PH), SWo (QM mkI below args s D cA ad A) p l e (rmd 5) s m args below meth c 0 0 4 D cA ad A 82 [(0, .ref this), (1, .int a1), (3, .int s26.2)] [.int s26.1] h16 (j h16)) ?_ (fun j82 hj82 => ?_)
        · intro h16
          refine so_iconst (v := (0 : Int32)) X (dkX12_foes (82, .iconst 0, 1) (pgm 52 rfl)) ic_0 ?_
          exact so_pick X [0, 1, 2] rfl (hj83 (0 : Int32) h16)
        refine so_icmp_eq (tgt := 82) X (dkX12_foes (50, .if_icmp .eq 32, 3) (pgm 32 rfl)) rfl (fun _ => ?_) (fun _ => ?_)
        · exact so_pick X [0, 1, 3] rfl (hj82 hh26)
        · refine so_aload_n (i := 0) X 0 (dkX12_foes (53, .aload_n 0, 1) (pgm 33 rfl)) rfl rfl ?_
          refine so_iload_n (i := 3) X 3 (dkX12_foes (54, .iload_n 3, 1) (pgm 34 rfl)) rfl rfl ?_
          refine so_callV (n := 1) (As := [.int s26.2]) X (ct_X12_isOpen l this s26.2 hh26 hk) hk (by decide) rfl lk_1962 lk_1964 lk_84 lk_134 lk_1965 (by decide +kernel) rfl rfl rfl (rm_ok (by omega) (by decide)) ⟨Nat.zero_le _, Nat.zero_le _⟩ (Nat.le_of_ble_eq_true rfl) (dkX12_foes (55, .invokevirtual 289, 3) (pgm 35 rfl)) (fun r17 h18 => ?_) rfl
          refine so_if_eq (tgt := 82) X (dkX12_foes (58, .ifCond .eq 24, 3) (pgm 36 rfl)) rfl (fun _ => ?_) (fun _ => ?_)
          · exact so_pick X [0, 1, 3] rfl (hj82 h18)
          · refine so_aload_n (i := 0) X 0 (dkX12_foes (61, .aload_n 0, 1) (pgm 37 rfl)) rfl rfl ?_
            refine sf_getR X ff_12_22 lk_1724 hk (dkX12_foes (62, .getfield 46, 3) (pgm 38 rfl)) ?_
            refine so_iconst (v := (1 : Int32)) X (dkX12_foes (65, .iconst 1, 1) (pgm 39 rfl)) ic_1 ?_
            refine so_iload_n (i := 1) X 1 (dkX12_foes (66, .iload_n 1, 1) (pgm 40 rfl)) rfl rfl ?_
            refine so_ishl X (dkX12_foes (67, .ishl, 1) (pgm 41 rfl)) ?_
            refine so_iconst (v := (1 : Int32)) X (dkX12_foes (68, .iconst 1, 1) (pgm 42 rfl)) ic_1 ?_
            refine so_iload_n (i := 3) X 3 (dkX12_foes (69, .iload_n 3, 1) (pgm 43 rfl)) rfl rfl ?_
            refine so_ishl X (dkX12_foes (70, .ishl, 1) (pgm 44 rfl)) ?_
            refine so_ior X (dkX12_foes (71, .ior, 1) (pgm 45 rfl)) ?_
            refine so_zald X (rk_12_22 this hk) (dkX12_foes (72, .baload, 1) (pgm 46 rfl)) (fun x19 => ?_)
            refine so_if_ne (tgt := 82) X (dkX12_foes (73, .ifCond .ne 9, 3) (pgm 47 rfl)) rfl (fun _ => ?_) (fun _ => ?_)
            · exact so_pick X [0, 1, 3] rfl (hj82 h18)
            · refine so_iconst (v := (1 : Int32)) X (dkX12_foes (76, .iconst 1, 1) (pgm 48 rfl)) ic_1 ?_
              refine so_iload_n (i := 3) X 3 (dkX12_foes (77, .iload_n 3, 1) (pgm 49 rfl)) rfl rfl ?_
              refine so_ishl X (dkX12_foes (78, .ishl, 1) (pgm 50 rfl)) ?_
              refine so_goto (tgt := 83) X (dkX12_foes (79, .goto 4, 3) (pgm 51 rfl)) rfl ?_
              exact so_pick X [0, 1, 3] rfl (hj83 ((1 : Int32) <<< (s26.2 &&& 31)) h18)
  · refine so_iconst (v := (0 : Int32)) X (dkX12_foes (16, .iconst 0, 1) (pgm 8 rfl)) ic_0 ?_
    exact so_iret X hr hlk (dkX12_foes (17, .ireturn, 1) (pgm 9 rfl))
def pgX12_most : List (Nat × Instr × Nat) := [(0, .aload_n 0, 1), (1, .iconst 0, 1), (2, .putfield 92, 3), (5, .iload_n 1, 1), (6, .i2l, 1), (7, .lconst 0, 1), (8, .ldc2_w 325, 3), (11, .invokestatic 156, 3), (14, .ifCond .ne 9, 3), (17, .aload_n 0, 1), (18, .iconst 1, 1), (19, .invokevirtual 233, 3), (22, .ireturn, 1), (23, .aload_n 0, 1), (24, .invokevirtual 316, 3), (27, .iconst (-1), 1), (28, .istore_n 2, 1), (29, .iconst 0, 1), (30, .istore_n 3, 1), (31, .iload_n 3, 1), (32, .aload_n 0, 1), (33, .invokevirtual 252, 3), (36, .if_icmp .gt 77, 3), (39, .aload_n 0, 1), (40, .getfield 43, 3), (43, .iload_n 3, 1), (44, .iaload, 1), (45, .iconst (-1), 1), (46, .if_icmp .ne 6, 3), (49, .goto 58, 3), (52, .iload_n 2, 1), (53, .iconst (-1), 1), (54, .if_icmp .ne 7, 3), (57, .iconst 1, 1), (58, .goto 24, 3), (61, .aload_n 0, 1), (62, .aload_n 0, 1), (63, .getfield 43, 3), (66, .iload_n 3, 1), (67, .iaload, 1), (68, .invokevirtual 327, 3), (71, .aload_n 0, 1), (72, .aload_n 0, 1), (73, .getfield 43, 3), (76, .iload_n 2, 1), (77, .iaload, 1), (78, .invokevirtual 327, 3), (81, .isub, 1), (82, .istore 4, 2), (84, .iload 4, 2), (86, .ifCond .gt 19, 3), (89, .iload 4, 2), (91, .ifCond .ne 16, 3), (94, .iload_n 3, 1), (95, .invokestatic 269, 3), (98, .iload_n 2, 1), (99, .invokestatic 269, 3), (102, .if_icmp .ge 5, 3), (105, .iload_n 3, 1), (106, .istore_n 2, 1), (107, .iinc 3 1, 3), (110, .goto (-79), 3), (113, .iload_n 2, 1), (114, .iconst (-1), 1), (115, .if_icmp .eq 8, 3), (118, .iload_n 1, 1), (119, .iconst 2, 1), (120, .if_icmp .ne 7, 3), (123, .iload_n 2, 1), (124, .goto 26, 3), (127, .iload_n 1, 1), (128, .ifCond .ne 16, 3), (131, .aload_n 0, 1), (132, .aload_n 0, 1), (133, .getfield 43, 3), (136, .iload_n 2, 1), (137, .iaload, 1), (138, .invokevirtual 327, 3), (141, .goto 9, 3), (144, .aload_n 0, 1), (145, .getfield 43, 3), (148, .iload_n 2, 1), (149, .iaload, 1), (150, .ireturn, 1)]
theorem dkX12_most : ∀ q ∈ pgX12_most, decode cX12_most q.1 = .ok q.2 := by decide +kernel
def b_X12_most_31 (this : Nat) (j113 : Int32 → PH → Option (Int32 × PH)) (rec31 : (Int32 × Int32) → PH → Option (Int32 × PH)) (s31 : Int32 × Int32) (hh31 : PH) : Option (Int32 × PH) :=
  cb (f_X12_everywhere this hh31) (fun (r17 : Int32) (h18 : PH) => if r17 < s31.2 then (j113 s31.1 h18) else (ldI h18 (rt this 21) 4096 s31.2 (fun (x19 : Int32) => lt (fun (y20 : Int32) (h21 : PH) => lt (s31.2 + Int32.ofInt 1) (fun (x22 : Int32) => rec31 (y20, x22) h21)) (fun (j107 : Int32 → PH → Option (Int32 × PH)) => if x19 = (-1 : Int32) then (j107 s31.1 h18) else (lt (fun (t23 : Int32) (h24 : PH) => lt t23 (fun (x25 : Int32) => lt (fun (h26 : PH) => lt s31.2 (fun (x27 : Int32) => j107 x27 h26)) (fun (j105 : PH → Option (Int32 × PH)) => if 0 < x25 then (j105 h24) else (if x25 = 0 then (cb (f_X12_size s31.2 h24) (fun (r28 : Int32) (h29 : PH) => cb (f_X12_size s31.1 h29) (fun (r30 : Int32) (h31 : PH) => if r30 ≤ r28 then (j107 s31.1 h31) else (j105 h31)))) else (j107 s31.1 h24))))) (fun (j82 : Int32 → PH → Option (Int32 × PH)) => if s31.1 = (-1 : Int32) then (j82 (1 : Int32) h18) else (ldI h18 (rt this 21) 4096 s31.2 (fun (x32 : Int32) => cb (f_X12_weight this x32 h18) (fun (r33 : Int32) (h34 : PH) => ldI h34 (rt this 21) 4096 s31.1 (fun (x35 : Int32) => cb (f_X12_weight this x35 h34) (fun (r36 : Int32) (h37 : PH) => j82 (r33 - r36) h37)))))))))))
def f_X12_most (this : Nat) (a1 : Int32) (h0 : PH) : Option (Int32 × PH) :=
  lt (pI h0 this 5 (0 : Int32)) (fun (h1 : PH) => cb (f_X12_within a1.toInt64 (0 : Int64) (2 : Int64) h1) (fun (r2 : Int32) (h3 : PH) => if r2 = 0 then (cb (f_X12_fails this (1 : Int32) h3) (fun (r38 : Int32) (h39 : PH) => some (r38, h39))) else (cb (f_X12_laysPlans this h3) (fun (r4 : Unit) (h5 : PH) => lt (-1 : Int32) (fun (x6 : Int32) => lt (0 : Int32) (fun (x7 : Int32) => lt (fun (y8 : Int32) (h9 : PH) => lt (fun (t10 : Int32) (h11 : PH) => some (t10, h11)) (fun (j150 : Int32 → PH → Option (Int32 × PH)) => lt (fun (h12 : PH) => j150 y8 h12) (fun (j123 : PH → Option (Int32 × PH)) => if y8 = (-1 : Int32) then (j123 h9) else (if a1 = (2 : Int32) then (j123 h9) else (if a1 = 0 then (ldI h9 (rt this 21) 4096 y8 (fun (x14 : Int32) => cb (f_X12_weight this x14 h9) (fun (r15 : Int32) (h16 : PH) => j150 r15 h16))) else (ldI h9 (rt this 21) 4096 y8 (fun (x13 : Int32) => j150 x13 h9))))))) (fun (j113 : Int32 → PH → Option (Int32 × PH)) => lp (b_X12_most_31 this j113) FU (x6, x7) h5)))))))
set_option maxRecDepth 100000 in
set_option maxHeartbeats 4000000 in
theorem ct_X12_most (l : Launch) (this : Nat) (a1 : Int32) (h0 : PH) (hk : (kd this).1 = 12) : CT mkI l yX12_most cX12_most 5 (some .int) (rmd 5) [.ref this, .int a1] h0 (f_X12_most this a1 h0) := by
  refine ct_of (by decide) (Nat.le_of_ble_eq_true rfl) ?_
  intro p e s m args below meth c D cA ad A X hr hlk
  have X : Cx p s m args c RX12 cX12_most 5 D cA ad A := X
  unfold f_X12_most
  refine so_pick (L' := [(0, .ref this), (1, .int a1)]) X [0, 1] rfl ?_
  refine so_aload_n (i := 0) X 0 (dkX12_most (0, .aload_n 0, 1) (pgm 0 rfl)) rfl rfl ?_
  refine so_iconst (v := (0 : Int32)) X (dkX12_most (1, .iconst 0, 1) (pgm 1 rfl)) ic_0 ?_
  refine sf_putI X ff_12_5 ft_12 rfl lk_1707 hk rfl rfl (dkX12_most (2, .putfield 92, 3) (pgm 2 rfl)) (fun h1 => ?_)
  refine so_iload_n (i := 1) X 1 (dkX12_most (5, .iload_n 1, 1) (pgm 3 rfl)) rfl rfl ?_
  refine so_i2l X (dkX12_most (6, .i2l, 1) (pgm 4 rfl)) ?_
  refine so_lconst (v := (0 : Int64)) X (dkX12_most (7, .lconst 0, 1) (pgm 5 rfl)) lc_0 ?_
  refine so_ldc2 X lk_2034 (dkX12_most (8, .ldc2_w 325, 3) (pgm 6 rfl)) ?_
  refine so_callS (n := 3) (As := [.long a1.toInt64, .long (0 : Int64), .long (2 : Int64)]) X (ct_X12_within l a1.toInt64 (0 : Int64) (2 : Int64) h1 ) lk_1832 lk_1833 lk_134 lk_1834 (by decide +kernel) rfl rfl rfl (rm_ok (by omega) (by decide)) ⟨Nat.zero_le _, Nat.zero_le _⟩ (Nat.le_of_ble_eq_true rfl) (dkX12_most (11, .invokestatic 156, 3) (pgm 7 rfl)) (fun r2 h3 => ?_) rfl
  refine so_if_ne (tgt := 23) X (dkX12_most (14, .ifCond .ne 9, 3) (pgm 8 rfl)) rfl (fun _ => ?_) (fun _ => ?_)
  · refine so_aload_n (i := 0) X 0 (dkX12_most (23, .aload_n 0, 1) (pgm 13 rfl)) rfl rfl ?_
    refine so_callV (n := 0) (As := []) X (ct_X12_laysPlans l this h3 hk) hk (by decide) rfl lk_2010 lk_2012 lk_90 lk_134 lk_2013 (by decide +kernel) rfl rfl rfl (rm_ok (by omega) (by decide)) ⟨Nat.zero_le _, Nat.zero_le _⟩ (Nat.le_of_ble_eq_true rfl) (dkX12_most (24, .invokevirtual 316, 3) (pgm 14 rfl)) (fun r4 h5 => ?_) rfl
    refine so_iconst (v := (-1 : Int32)) X (dkX12_most (27, .iconst (-1), 1) (pgm 15 rfl)) ic_m1 ?_
    refine so_istore_n (i := 2) X (dkX12_most (28, .istore_n 2, 1) (pgm 16 rfl)) rfl (by decide) (Lf := fun x6 => [(2, .int x6), (0, .ref this), (1, .int a1)]) (fun _ => rfl) (fun x6 => ?_)
    refine so_iconst (v := (0 : Int32)) X (dkX12_most (29, .iconst 0, 1) (pgm 17 rfl)) ic_0 ?_
    refine so_istore_n (i := 3) X (dkX12_most (30, .istore_n 3, 1) (pgm 18 rfl)) rfl (by decide) (Lf := fun x7 => [(3, .int x7), (2, .int x6), (0, .ref this), (1, .int a1)]) (fun _ => rfl) (fun x7 => ?_)
    refine so_join (jf := fun (y8 : Int32) (h9 : PH) => lt (fun (t10 : Int32) (h11 : PH) => some (t10, h11)) (fun (j150 : Int32 → PH → Option (Int32 × PH)) => lt (fun (h12 : PH) => j150 y8 h12) (fun (j123 : PH → Option (Int32 × PH)) => if y8 = (-1 : Int32) then (j123 h9) else (if a1 = (2 : Int32) then (j123 h9) else (if a1 = 0 then (ldI h9 (rt this 21) 4096 y8 (fun (x14 : Int32) => cb (f_X12_weight this x14 h9) (fun (r15 : Int32) (h16 : PH) => j150 r15 h16))) else (ldI h9 (rt this 21) 4096 y8 (fun (x13 : Int32) => j150 x13 h9))))))) (fun (j : Int32 → PH → Option (Int32 × PH)) => ∀ (y8 : Int32) (h9 : PH), SWo (QM mkI below args s D cA ad A) p l e (rmd 5) s m args below meth c 0 0 5 D cA ad A 113 [(0, .ref this), (1, .int a1), (2, .int y8)] [] h9 (j y8 h9)) ?_ (fun j113 hj113 => ?_)
    · intro y8 h9
      refine so_iload_n (i := 2) X 2 (dkX12_most (113, .iload_n 2, 1) (pgm 62 rfl)) rfl rfl ?_
      refine so_iconst (v := (-1 : Int32)) X (dkX12_most (114, .iconst (-1), 1) (pgm 63 rfl)) ic_m1 ?_
      refine so_join (jf := fun (t10 : Int32) (h11 : PH) => some (t10, h11)) (fun (j : Int32 → PH → Option (Int32 × PH)) => ∀ (t10 : Int32) (h11 : PH), SWo (QM mkI below args s D cA ad A) p l e (rmd 5) s m args below meth c 0 0 5 D cA ad A 150 [] [.int t10] h11 (j t10 h11)) ?_ (fun j150 hj150 => ?_)
      · intro t10 h11
        exact so_iret X hr hlk (dkX12_most (150, .ireturn, 1) (pgm 83 rfl))
      refine so_join (jf := fun (h12 : PH) => j150 y8 h12) (fun (j : PH → Option (Int32 × PH)) => ∀  (h12 : PH), SWo (QM mkI below args s D cA ad A) p l e (rmd 5) s m args below meth c 0 0 5 D cA ad A 123 [(2, .int y8)] [] h12 (j h12)) ?_ (fun j123 hj123 => ?_)
      · intro h12
        refine so_iload_n (i := 2) X 0 (dkX12_most (123, .iload_n 2, 1) (pgm 68 rfl)) rfl rfl ?_
        refine so_goto (tgt := 150) X (dkX12_most (124, .goto 26, 3) (pgm 69 rfl)) rfl ?_
        exact so_pick X [] rfl (hj150 y8 h12)
      refine so_icmp_eq (tgt := 123) X (dkX12_most (115, .if_icmp .eq 8, 3) (pgm 64 rfl)) rfl (fun _ => ?_) (fun _ => ?_)
      · exact so_pick X [2] rfl (hj123 h9)
      · refine so_iload_n (i := 1) X 1 (dkX12_most (118, .iload_n 1, 1) (pgm 65 rfl)) rfl rfl ?_
        refine so_iconst (v := (2 : Int32)) X (dkX12_most (119, .iconst 2, 1) (pgm 66 rfl)) ic_2 ?_
        refine so_icmp_ne (tgt := 127) X (dkX12_most (120, .if_icmp .ne 7, 3) (pgm 67 rfl)) rfl (fun _ => ?_) (fun _ => ?_)
        · refine so_iload_n (i := 1) X 1 (dkX12_most (127, .iload_n 1, 1) (pgm 70 rfl)) rfl rfl ?_
          refine so_if_ne (tgt := 144) X (dkX12_most (128, .ifCond .ne 16, 3) (pgm 71 rfl)) rfl (fun _ => ?_) (fun _ => ?_)
          · refine so_aload_n (i := 0) X 0 (dkX12_most (144, .aload_n 0, 1) (pgm 79 rfl)) rfl rfl ?_
            refine sf_getR X ff_12_21 lk_1723 hk (dkX12_most (145, .getfield 43, 3) (pgm 80 rfl)) ?_
            refine so_iload_n (i := 2) X 2 (dkX12_most (148, .iload_n 2, 1) (pgm 81 rfl)) rfl rfl ?_
            refine so_iald X (rk_12_21 this hk) (dkX12_most (149, .iaload, 1) (pgm 82 rfl)) (fun x13 => ?_)
            exact so_pick X [] rfl (hj150 x13 h9)
          · refine so_aload_n (i := 0) X 0 (dkX12_most (131, .aload_n 0, 1) (pgm 72 rfl)) rfl rfl ?_
            refine so_aload_n (i := 0) X 0 (dkX12_most (132, .aload_n 0, 1) (pgm 73 rfl)) rfl rfl ?_
            refine sf_getR X ff_12_21 lk_1723 hk (dkX12_most (133, .getfield 43, 3) (pgm 74 rfl)) ?_
            refine so_iload_n (i := 2) X 2 (dkX12_most (136, .iload_n 2, 1) (pgm 75 rfl)) rfl rfl ?_
            refine so_iald X (rk_12_21 this hk) (dkX12_most (137, .iaload, 1) (pgm 76 rfl)) (fun x14 => ?_)
            refine so_callV (n := 1) (As := [.int x14]) X (ct_X12_weight l this x14 h9 hk) hk (by decide) rfl lk_2035 lk_2037 lk_93 lk_134 lk_2038 (by decide +kernel) rfl rfl rfl (rm_ok (by omega) (by decide)) ⟨Nat.zero_le _, Nat.zero_le _⟩ (Nat.le_of_ble_eq_true rfl) (dkX12_most (138, .invokevirtual 327, 3) (pgm 77 rfl)) (fun r15 h16 => ?_) rfl
            refine so_goto (tgt := 150) X (dkX12_most (141, .goto 9, 3) (pgm 78 rfl)) rfl ?_
            exact so_pick X [] rfl (hj150 r15 h16)
        · exact so_pick X [2] rfl (hj123 h9)
    refine so_pick (L' := [(0, .ref this), (1, .int a1), (2, .int x6), (3, .int x7)]) X [2, 3, 1, 0] rfl ?_
    refine so_loop (body := b_X12_most_31 this j113) (fun (s31 : Int32 × Int32) => [(0, .ref this), (1, .int a1), (2, .int s31.1), (3, .int s31.2)]) (fun rec31 hrec31 s31 hh31 => ?_) FU (x6, x7) h5
    unfold b_X12_most_31
    refine so_iload_n (i := 3) X 3 (dkX12_most (31, .iload_n 3, 1) (pgm 19 rfl)) rfl rfl ?_
    refine so_aload_n (i := 0) X 0 (dkX12_most (32, .aload_n 0, 1) (pgm 20 rfl)) rfl rfl ?_
    refine so_callV (n := 0) (As := []) X (ct_X12_everywhere l this hh31 hk) hk (by decide) rfl lk_1664 lk_1666 lk_56 lk_134 lk_1667 (by decide +kernel) rfl rfl rfl (rm_ok (by omega) (by decide)) ⟨Nat.zero_le _, Nat.zero_le _⟩ (Nat.le_of_ble_eq_true rfl) (dkX12_most (33, .invokevirtual 252, 3) (pgm 21 rfl)) (fun r17 h18 => ?_) rfl
    refine so_icmp_gt (tgt := 113) X (dkX12_most (36, .if_icmp .gt 77, 3) (pgm 22 rfl)) rfl (fun _ => ?_) (fun _ => ?_)
    · exact so_pick X [0, 1, 2] rfl (hj113 s31.1 h18)
    · refine so_aload_n (i := 0) X 0 (dkX12_most (39, .aload_n 0, 1) (pgm 23 rfl)) rfl rfl ?_
      refine sf_getR X ff_12_21 lk_1723 hk (dkX12_most (40, .getfield 43, 3) (pgm 24 rfl)) ?_
      refine so_iload_n (i := 3) X 3 (dkX12_most (43, .iload_n 3, 1) (pgm 25 rfl)) rfl rfl ?_
      refine so_iald X (rk_12_21 this hk) (dkX12_most (44, .iaload, 1) (pgm 26 rfl)) (fun x19 => ?_)
      refine so_iconst (v := (-1 : Int32)) X (dkX12_most (45, .iconst (-1), 1) (pgm 27 rfl)) ic_m1 ?_
      refine so_join (jf := fun (y20 : Int32) (h21 : PH) => lt (s31.2 + Int32.ofInt 1) (fun (x22 : Int32) => rec31 (y20, x22) h21)) (fun (j : Int32 → PH → Option (Int32 × PH)) => ∀ (y20 : Int32) (h21 : PH), SWo (QM mkI below args s D cA ad A) p l e (rmd 5) s m args below meth c 0 0 5 D cA ad A 107 [(0, .ref this), (1, .int a1), (2, .int y20), (3, .int s31.2)] [] h21 (j y20 h21)) ?_ (fun j107 hj107 => ?_)
      · intro y20 h21
        refine so_iinc (i := 3) X 3 (dkX12_most (107, .iinc 3 1, 3) (pgm 60 rfl)) rfl rfl (by decide) (Lf := fun x22 => [(3, .int x22), (0, .ref this), (1, .int a1), (2, .int y20)]) (fun _ => rfl) (fun x22 => ?_)
        refine so_goto (tgt := 31) X (dkX12_most (110, .goto (-79), 3) (pgm 61 rfl)) rfl ?_
        exact so_pick X [1, 2, 3, 0] rfl (hrec31 (y20, x22) h21)
      refine so_icmp_ne (tgt := 52) X (dkX12_most (46, .if_icmp .ne 6, 3) (pgm 28 rfl)) rfl (fun _ => ?_) (fun _ => ?_)
      · refine so_iload_n (i := 2) X 2 (dkX12_most (52, .iload_n 2, 1) (pgm 30 rfl)) rfl rfl ?_
        refine so_iconst (v := (-1 : Int32)) X (dkX12_most (53, .iconst (-1), 1) (pgm 31 rfl)) ic_m1 ?_
        refine so_join (jf := fun (t23 : Int32) (h24 : PH) => lt t23 (fun (x25 : Int32) => lt (fun (h26 : PH) => lt s31.2 (fun (x27 : Int32) => j107 x27 h26)) (fun (j105 : PH → Option (Int32 × PH)) => if 0 < x25 then (j105 h24) else (if x25 = 0 then (cb (f_X12_size s31.2 h24) (fun (r28 : Int32) (h29 : PH) => cb (f_X12_size s31.1 h29) (fun (r30 : Int32) (h31 : PH) => if r30 ≤ r28 then (j107 s31.1 h31) else (j105 h31)))) else (j107 s31.1 h24))))) (fun (j : Int32 → PH → Option (Int32 × PH)) => ∀ (t23 : Int32) (h24 : PH), SWo (QM mkI below args s D cA ad A) p l e (rmd 5) s m args below meth c 0 0 5 D cA ad A 82 [(0, .ref this), (1, .int a1), (2, .int s31.1), (3, .int s31.2)] [.int t23] h24 (j t23 h24)) ?_ (fun j82 hj82 => ?_)
        · intro t23 h24
          refine so_istore (i := 4) X (dkX12_most (82, .istore 4, 2) (pgm 48 rfl)) (by decide) (Lf := fun x25 => [(4, .int x25), (0, .ref this), (1, .int a1), (2, .int s31.1), (3, .int s31.2)]) (fun _ => rfl) (fun x25 => ?_)
          refine so_iload (i := 4) X 0 (dkX12_most (84, .iload 4, 2) (pgm 49 rfl)) rfl ?_
          refine so_join (jf := fun (h26 : PH) => lt s31.2 (fun (x27 : Int32) => j107 x27 h26)) (fun (j : PH → Option (Int32 × PH)) => ∀  (h26 : PH), SWo (QM mkI below args s D cA ad A) p l e (rmd 5) s m args below meth c 0 0 5 D cA ad A 105 [(0, .ref this), (1, .int a1), (3, .int s31.2)] [] h26 (j h26)) ?_ (fun j105 hj105 => ?_)
          · intro h26
            refine so_iload_n (i := 3) X 2 (dkX12_most (105, .iload_n 3, 1) (pgm 58 rfl)) rfl rfl ?_
            refine so_istore_n (i := 2) X (dkX12_most (106, .istore_n 2, 1) (pgm 59 rfl)) rfl (by decide) (Lf := fun x27 => [(2, .int x27), (0, .ref this), (1, .int a1), (3, .int s31.2)]) (fun _ => rfl) (fun x27 => ?_)
            exact so_pick X [1, 2, 0, 3] rfl (hj107 x27 h26)
          refine so_if_gt (tgt := 105) X (dkX12_most (86, .ifCond .gt 19, 3) (pgm 50 rfl)) rfl (fun _ => ?_) (fun _ => ?_)
          · exact so_pick X [1, 2, 4] rfl (hj105 h24)
          · refine so_iload (i := 4) X 0 (dkX12_most (89, .iload 4, 2) (pgm 51 rfl)) rfl ?_
            refine so_if_ne (tgt := 107) X (dkX12_most (91, .ifCond .ne 16, 3) (pgm 52 rfl)) rfl (fun _ => ?_) (fun _ => ?_)
            · exact so_pick X [1, 2, 3, 4] rfl (hj107 s31.1 h24)
            · refine so_iload_n (i := 3) X 4 (dkX12_most (94, .iload_n 3, 1) (pgm 53 rfl)) rfl rfl ?_
              refine so_callS (n := 1) (As := [.int s31.2]) X (ct_X12_size l s31.2 h24 ) lk_1687 lk_1688 lk_134 lk_1689 (by decide +kernel) rfl rfl rfl (rm_ok (by omega) (by decide)) ⟨Nat.zero_le _, Nat.zero_le _⟩ (Nat.le_of_ble_eq_true rfl) (dkX12_most (95, .invokestatic 269, 3) (pgm 54 rfl)) (fun r28 h29 => ?_) rfl
              refine so_iload_n (i := 2) X 3 (dkX12_most (98, .iload_n 2, 1) (pgm 55 rfl)) rfl rfl ?_
              refine so_callS (n := 1) (As := [.int s31.1]) X (ct_X12_size l s31.1 h29 ) lk_1687 lk_1688 lk_134 lk_1689 (by decide +kernel) rfl rfl rfl (rm_ok (by omega) (by decide)) ⟨Nat.zero_le _, Nat.zero_le _⟩ (Nat.le_of_ble_eq_true rfl) (dkX12_most (99, .invokestatic 269, 3) (pgm 56 rfl)) (fun r30 h31 => ?_) rfl
              refine so_icmp_ge (tgt := 107) X (dkX12_most (102, .if_icmp .ge 5, 3) (pgm 57 rfl)) rfl (fun _ => ?_) (fun _ => ?_)
              · exact so_pick X [1, 2, 3, 4] rfl (hj107 s31.1 h31)
              · exact so_pick X [1, 2, 4] rfl (hj105 h31)
        refine so_icmp_ne (tgt := 61) X (dkX12_most (54, .if_icmp .ne 7, 3) (pgm 32 rfl)) rfl (fun _ => ?_) (fun _ => ?_)
        · refine so_aload_n (i := 0) X 0 (dkX12_most (61, .aload_n 0, 1) (pgm 35 rfl)) rfl rfl ?_
          refine so_aload_n (i := 0) X 0 (dkX12_most (62, .aload_n 0, 1) (pgm 36 rfl)) rfl rfl ?_
          refine sf_getR X ff_12_21 lk_1723 hk (dkX12_most (63, .getfield 43, 3) (pgm 37 rfl)) ?_
          refine so_iload_n (i := 3) X 3 (dkX12_most (66, .iload_n 3, 1) (pgm 38 rfl)) rfl rfl ?_
          refine so_iald X (rk_12_21 this hk) (dkX12_most (67, .iaload, 1) (pgm 39 rfl)) (fun x32 => ?_)
          refine so_callV (n := 1) (As := [.int x32]) X (ct_X12_weight l this x32 h18 hk) hk (by decide) rfl lk_2035 lk_2037 lk_93 lk_134 lk_2038 (by decide +kernel) rfl rfl rfl (rm_ok (by omega) (by decide)) ⟨Nat.zero_le _, Nat.zero_le _⟩ (Nat.le_of_ble_eq_true rfl) (dkX12_most (68, .invokevirtual 327, 3) (pgm 40 rfl)) (fun r33 h34 => ?_) rfl
          refine so_aload_n (i := 0) X 0 (dkX12_most (71, .aload_n 0, 1) (pgm 41 rfl)) rfl rfl ?_
          refine so_aload_n (i := 0) X 0 (dkX12_most (72, .aload_n 0, 1) (pgm 42 rfl)) rfl rfl ?_
          refine sf_getR X ff_12_21 lk_1723 hk (dkX12_most (73, .getfield 43, 3) (pgm 43 rfl)) ?_
          refine so_iload_n (i := 2) X 2 (dkX12_most (76, .iload_n 2, 1) (pgm 44 rfl)) rfl rfl ?_
          refine so_iald X (rk_12_21 this hk) (dkX12_most (77, .iaload, 1) (pgm 45 rfl)) (fun x35 => ?_)
          refine so_callV (n := 1) (As := [.int x35]) X (ct_X12_weight l this x35 h34 hk) hk (by decide) rfl lk_2035 lk_2037 lk_93 lk_134 lk_2038 (by decide +kernel) rfl rfl rfl (rm_ok (by omega) (by decide)) ⟨Nat.zero_le _, Nat.zero_le _⟩ (Nat.le_of_ble_eq_true rfl) (dkX12_most (78, .invokevirtual 327, 3) (pgm 46 rfl)) (fun r36 h37 => ?_) rfl
          refine so_isub X (dkX12_most (81, .isub, 1) (pgm 47 rfl)) ?_
          exact so_pick X [0, 1, 2, 3] rfl (hj82 (r33 - r36) h37)
        · refine so_iconst (v := (1 : Int32)) X (dkX12_most (57, .iconst 1, 1) (pgm 33 rfl)) ic_1 ?_
          refine so_goto (tgt := 82) X (dkX12_most (58, .goto 24, 3) (pgm 34 rfl)) rfl ?_
          exact so_pick X [0, 1, 2, 3] rfl (hj82 (1 : Int32) h18)
      · refine so_goto (tgt := 107) X (dkX12_most (49, .goto 58, 3) (pgm 29 rfl)) rfl ?_
        exact so_pick X [0, 1, 2, 3] rfl (hj107 s31.1 h18)
  · refine so_aload_n (i := 0) X 0 (dkX12_most (17, .aload_n 0, 1) (pgm 9 rfl)) rfl rfl ?_
    refine so_iconst (v := (1 : Int32)) X (dkX12_most (18, .iconst 1, 1) (pgm 10 rfl)) ic_1 ?_
    refine so_callV (n := 1) (As := [.int (1 : Int32)]) X (ct_X12_fails l this (1 : Int32) h3 hk) hk (by decide) rfl lk_1835 lk_1837 lk_61 lk_134 lk_1838 (by decide +kernel) rfl rfl rfl (rm_ok (by omega) (by decide)) ⟨Nat.zero_le _, Nat.zero_le _⟩ (Nat.le_of_ble_eq_true rfl) (dkX12_most (19, .invokevirtual 233, 3) (pgm 11 rfl)) (fun r38 h39 => ?_) rfl
    exact so_iret X hr hlk (dkX12_most (22, .ireturn, 1) (pgm 12 rfl))
def pgX12_nights : List (Nat × Instr × Nat) := [(0, .aload_n 0, 1), (1, .iconst 0, 1), (2, .putfield 92, 3), (5, .aload_n 0, 1), (6, .invokevirtual 316, 3), (9, .aload_n 0, 1), (10, .getfield 9, 3), (13, .bipush 7, 2), (15, .iaload, 1), (16, .istore_n 1, 1), (17, .aload_n 0, 1), (18, .getfield 49, 3), (21, .iconst 0, 1), (22, .iconst 0, 1), (23, .iastore, 1), (24, .iconst 1, 1), (25, .istore_n 2, 1), (26, .iload_n 2, 1), (27, .iload_n 1, 1), (28, .if_icmp .gt 102, 3), (31, .aload_n 0, 1), (32, .getfield 49, 3), (35, .iload_n 2, 1), (36, .iconst (-1), 1), (37, .iastore, 1), (38, .iload_n 2, 1), (39, .iload_n 1, 1), (40, .iconst (-1), 1), (41, .ixor, 1), (42, .iand, 1), (43, .ifCond .eq 6, 3), (46, .goto 78, 3), (49, .iload_n 2, 1), (50, .istore_n 3, 1), (51, .iload_n 3, 1), (52, .ifCond .eq 72, 3), (55, .aload_n 0, 1), (56, .getfield 49, 3), (59, .iload_n 2, 1), (60, .iload_n 3, 1), (61, .iconst (-1), 1), (62, .ixor, 1), (63, .iand, 1), (64, .iaload, 1), (65, .istore 4, 2), (67, .aload_n 0, 1), (68, .getfield 46, 3), (71, .iload_n 3, 1), (72, .baload, 1), (73, .ifCond .eq 42, 3), (76, .iload 4, 2), (78, .iconst (-1), 1), (79, .if_icmp .eq 36, 3), (82, .aload_n 0, 1), (83, .getfield 49, 3), (86, .iload_n 2, 1), (87, .iaload, 1), (88, .iconst (-1), 1), (89, .if_icmp .eq 16, 3), (92, .iload 4, 2), (94, .iconst 1, 1), (95, .iadd, 1), (96, .aload_n 0, 1), (97, .getfield 49, 3), (100, .iload_n 2, 1), (101, .iaload, 1), (102, .if_icmp .ge 13, 3), (105, .aload_n 0, 1), (106, .getfield 49, 3), (109, .iload_n 2, 1), (110, .iload 4, 2), (112, .iconst 1, 1), (113, .iadd, 1), (114, .iastore, 1), (115, .iload_n 3, 1), (116, .iconst 1, 1), (117, .isub, 1), (118, .iload_n 2, 1), (119, .iand, 1), (120, .istore_n 3, 1), (121, .goto (-70), 3), (124, .iinc 2 1, 3), (127, .goto (-101), 3), (130, .aload_n 0, 1), (131, .getfield 49, 3), (134, .iload_n 1, 1), (135, .iaload, 1), (136, .ireturn, 1)]
theorem dkX12_nights : ∀ q ∈ pgX12_nights, decode cX12_nights q.1 = .ok q.2 := by decide +kernel
def b_X12_nights_51 (this : Nat) (s26 : Int32) (j124 : PH → Option (Int32 × PH)) (rec51 : (Int32) → PH → Option (Int32 × PH)) (s51 : Int32) (hh51 : PH) : Option (Int32 × PH) :=
  if s51 = 0 then (j124 hh51) else (ldI hh51 (rt this 23) 1024 (s26 &&& (s51 ^^^ (-1 : Int32))) (fun (x13 : Int32) => lt x13 (fun (x14 : Int32) => ldI hh51 (rt this 22) 1024 s51 (fun (x15 : Int32) => lt (fun (h16 : PH) => lt ((s51 - (1 : Int32)) &&& s26) (fun (x17 : Int32) => rec51 x17 h16)) (fun (j115 : PH → Option (Int32 × PH)) => if x15 = 0 then (j115 hh51) else (if x14 = (-1 : Int32) then (j115 hh51) else (ldI hh51 (rt this 23) 1024 s26 (fun (x18 : Int32) => lt (fun (h19 : PH) => stI h19 (rt this 23) 1024 s26 (x14 + (1 : Int32)) (fun (h20 : PH) => j115 h20)) (fun (j105 : PH → Option (Int32 × PH)) => if x18 = (-1 : Int32) then (j105 hh51) else (ldI hh51 (rt this 23) 1024 s26 (fun (x21 : Int32) => if x21 ≤ (x14 + (1 : Int32)) then (j115 hh51) else (j105 hh51))))))))))))
def b_X12_nights_26 (this : Nat) (x5 : Int32) (rec26 : (Int32) → PH → Option (Int32 × PH)) (s26 : Int32) (hh26 : PH) : Option (Int32 × PH) :=
  if x5 < s26 then (ldI hh26 (rt this 23) 1024 x5 (fun (x8 : Int32) => some (x8, hh26))) else (stI hh26 (rt this 23) 1024 s26 (-1 : Int32) (fun (h9 : PH) => lt (fun (h10 : PH) => lt (s26 + Int32.ofInt 1) (fun (x11 : Int32) => rec26 x11 h10)) (fun (j124 : PH → Option (Int32 × PH)) => if (s26 &&& (x5 ^^^ (-1 : Int32))) = 0 then (lt s26 (fun (x12 : Int32) => lp (b_X12_nights_51 this s26 j124) FU x12 h9)) else (j124 h9))))
def f_X12_nights (this : Nat) (h0 : PH) : Option (Int32 × PH) :=
  lt (pI h0 this 5 (0 : Int32)) (fun (h1 : PH) => cb (f_X12_laysPlans this h1) (fun (r2 : Unit) (h3 : PH) => ldI h3 (rt this 0) 1200 (7 : Int32) (fun (x4 : Int32) => lt x4 (fun (x5 : Int32) => stI h3 (rt this 23) 1024 (0 : Int32) (0 : Int32) (fun (h6 : PH) => lt (1 : Int32) (fun (x7 : Int32) => lp (b_X12_nights_26 this x5) FU x7 h6))))))
set_option maxRecDepth 100000 in
set_option maxHeartbeats 4000000 in
theorem ct_X12_nights (l : Launch) (this : Nat) (h0 : PH) (hk : (kd this).1 = 12) : CT mkI l yX12_nights cX12_nights 5 (some .int) (rmd 5) [.ref this] h0 (f_X12_nights this h0) := by
  refine ct_of (by decide) (Nat.le_of_ble_eq_true rfl) ?_
  intro p e s m args below meth c D cA ad A X hr hlk
  have X : Cx p s m args c RX12 cX12_nights 5 D cA ad A := X
  unfold f_X12_nights
  refine so_pick (L' := [(0, .ref this)]) X [0] rfl ?_
  refine so_aload_n (i := 0) X 0 (dkX12_nights (0, .aload_n 0, 1) (pgm 0 rfl)) rfl rfl ?_
  refine so_iconst (v := (0 : Int32)) X (dkX12_nights (1, .iconst 0, 1) (pgm 1 rfl)) ic_0 ?_
  refine sf_putI X ff_12_5 ft_12 rfl lk_1707 hk rfl rfl (dkX12_nights (2, .putfield 92, 3) (pgm 2 rfl)) (fun h1 => ?_)
  refine so_aload_n (i := 0) X 0 (dkX12_nights (5, .aload_n 0, 1) (pgm 3 rfl)) rfl rfl ?_
  refine so_callV (n := 0) (As := []) X (ct_X12_laysPlans l this h1 hk) hk (by decide) rfl lk_2010 lk_2012 lk_90 lk_134 lk_2013 (by decide +kernel) rfl rfl rfl (rm_ok (by omega) (by decide)) ⟨Nat.zero_le _, Nat.zero_le _⟩ (Nat.le_of_ble_eq_true rfl) (dkX12_nights (6, .invokevirtual 316, 3) (pgm 4 rfl)) (fun r2 h3 => ?_) rfl
  refine so_aload_n (i := 0) X 0 (dkX12_nights (9, .aload_n 0, 1) (pgm 5 rfl)) rfl rfl ?_
  refine sf_getR X ff_12_0 lk_1702 hk (dkX12_nights (10, .getfield 9, 3) (pgm 6 rfl)) ?_
  refine so_bipush (v := (7 : Int32)) X (dkX12_nights (13, .bipush 7, 2) (pgm 7 rfl)) bp_7 ?_
  refine so_iald X (rk_12_0 this hk) (dkX12_nights (15, .iaload, 1) (pgm 8 rfl)) (fun x4 => ?_)
  refine so_istore_n (i := 1) X (dkX12_nights (16, .istore_n 1, 1) (pgm 9 rfl)) rfl (by decide) (Lf := fun x5 => [(1, .int x5), (0, .ref this)]) (fun _ => rfl) (fun x5 => ?_)
  refine so_aload_n (i := 0) X 1 (dkX12_nights (17, .aload_n 0, 1) (pgm 10 rfl)) rfl rfl ?_
  refine sf_getR X ff_12_23 lk_1725 hk (dkX12_nights (18, .getfield 49, 3) (pgm 11 rfl)) ?_
  refine so_iconst (v := (0 : Int32)) X (dkX12_nights (21, .iconst 0, 1) (pgm 12 rfl)) ic_0 ?_
  refine so_iconst (v := (0 : Int32)) X (dkX12_nights (22, .iconst 0, 1) (pgm 13 rfl)) ic_0 ?_
  refine so_iast X (rk_12_23 this hk) (dkX12_nights (23, .iastore, 1) (pgm 14 rfl)) (fun h6 => ?_)
  refine so_iconst (v := (1 : Int32)) X (dkX12_nights (24, .iconst 1, 1) (pgm 15 rfl)) ic_1 ?_
  refine so_istore_n (i := 2) X (dkX12_nights (25, .istore_n 2, 1) (pgm 16 rfl)) rfl (by decide) (Lf := fun x7 => [(2, .int x7), (1, .int x5), (0, .ref this)]) (fun _ => rfl) (fun x7 => ?_)
  refine so_pick (L' := [(0, .ref this), (1, .int x5), (2, .int x7)]) X [2, 1, 0] rfl ?_
  refine so_loop (body := b_X12_nights_26 this x5) (fun (s26 : Int32) => [(0, .ref this), (1, .int x5), (2, .int s26)]) (fun rec26 hrec26 s26 hh26 => ?_) FU x7 h6
  unfold b_X12_nights_26
  refine so_iload_n (i := 2) X 2 (dkX12_nights (26, .iload_n 2, 1) (pgm 17 rfl)) rfl rfl ?_
  refine so_iload_n (i := 1) X 1 (dkX12_nights (27, .iload_n 1, 1) (pgm 18 rfl)) rfl rfl ?_
  refine so_icmp_gt (tgt := 130) X (dkX12_nights (28, .if_icmp .gt 102, 3) (pgm 19 rfl)) rfl (fun _ => ?_) (fun _ => ?_)
  · refine so_aload_n (i := 0) X 0 (dkX12_nights (130, .aload_n 0, 1) (pgm 83 rfl)) rfl rfl ?_
    refine sf_getR X ff_12_23 lk_1725 hk (dkX12_nights (131, .getfield 49, 3) (pgm 84 rfl)) ?_
    refine so_iload_n (i := 1) X 1 (dkX12_nights (134, .iload_n 1, 1) (pgm 85 rfl)) rfl rfl ?_
    refine so_iald X (rk_12_23 this hk) (dkX12_nights (135, .iaload, 1) (pgm 86 rfl)) (fun x8 => ?_)
    exact so_iret X hr hlk (dkX12_nights (136, .ireturn, 1) (pgm 87 rfl))
  · refine so_aload_n (i := 0) X 0 (dkX12_nights (31, .aload_n 0, 1) (pgm 20 rfl)) rfl rfl ?_
    refine sf_getR X ff_12_23 lk_1725 hk (dkX12_nights (32, .getfield 49, 3) (pgm 21 rfl)) ?_
    refine so_iload_n (i := 2) X 2 (dkX12_nights (35, .iload_n 2, 1) (pgm 22 rfl)) rfl rfl ?_
    refine so_iconst (v := (-1 : Int32)) X (dkX12_nights (36, .iconst (-1), 1) (pgm 23 rfl)) ic_m1 ?_
    refine so_iast X (rk_12_23 this hk) (dkX12_nights (37, .iastore, 1) (pgm 24 rfl)) (fun h9 => ?_)
    refine so_iload_n (i := 2) X 2 (dkX12_nights (38, .iload_n 2, 1) (pgm 25 rfl)) rfl rfl ?_
    refine so_iload_n (i := 1) X 1 (dkX12_nights (39, .iload_n 1, 1) (pgm 26 rfl)) rfl rfl ?_
    refine so_iconst (v := (-1 : Int32)) X (dkX12_nights (40, .iconst (-1), 1) (pgm 27 rfl)) ic_m1 ?_
    refine so_ixor X (dkX12_nights (41, .ixor, 1) (pgm 28 rfl)) ?_
    refine so_iand X (dkX12_nights (42, .iand, 1) (pgm 29 rfl)) ?_
    refine so_join (jf := fun (h10 : PH) => lt (s26 + Int32.ofInt 1) (fun (x11 : Int32) => rec26 x11 h10)) (fun (j : PH → Option (Int32 × PH)) => ∀  (h10 : PH), SWo (QM mkI below args s D cA ad A) p l e (rmd 5) s m args below meth c 0 0 5 D cA ad A 124 [(0, .ref this), (1, .int x5), (2, .int s26)] [] h10 (j h10)) ?_ (fun j124 hj124 => ?_)
    · intro h10
      refine so_iinc (i := 2) X 2 (dkX12_nights (124, .iinc 2 1, 3) (pgm 81 rfl)) rfl rfl (by decide) (Lf := fun x11 => [(2, .int x11), (0, .ref this), (1, .int x5)]) (fun _ => rfl) (fun x11 => ?_)
      refine so_goto (tgt := 26) X (dkX12_nights (127, .goto (-101), 3) (pgm 82 rfl)) rfl ?_
      exact so_pick X [1, 2, 0] rfl (hrec26 x11 h10)
    refine so_if_eq (tgt := 49) X (dkX12_nights (43, .ifCond .eq 6, 3) (pgm 30 rfl)) rfl (fun _ => ?_) (fun _ => ?_)
    · refine so_iload_n (i := 2) X 2 (dkX12_nights (49, .iload_n 2, 1) (pgm 32 rfl)) rfl rfl ?_
      refine so_istore_n (i := 3) X (dkX12_nights (50, .istore_n 3, 1) (pgm 33 rfl)) rfl (by decide) (Lf := fun x12 => [(3, .int x12), (0, .ref this), (1, .int x5), (2, .int s26)]) (fun _ => rfl) (fun x12 => ?_)
      refine so_pick (L' := [(0, .ref this), (1, .int x5), (2, .int s26), (3, .int x12)]) X [1, 2, 3, 0] rfl ?_
      refine so_loop (body := b_X12_nights_51 this s26 j124) (fun (s51 : Int32) => [(0, .ref this), (1, .int x5), (2, .int s26), (3, .int s51)]) (fun rec51 hrec51 s51 hh51 => ?_) FU x12 h9
      unfold b_X12_nights_51
      refine so_iload_n (i := 3) X 3 (dkX12_nights (51, .iload_n 3, 1) (pgm 34 rfl)) rfl rfl ?_
      refine so_if_eq (tgt := 124) X (dkX12_nights (52, .ifCond .eq 72, 3) (pgm 35 rfl)) rfl (fun _ => ?_) (fun _ => ?_)
      · exact so_pick X [0, 1, 2] rfl (hj124 hh51)
      · refine so_aload_n (i := 0) X 0 (dkX12_nights (55, .aload_n 0, 1) (pgm 36 rfl)) rfl rfl ?_
        refine sf_getR X ff_12_23 lk_1725 hk (dkX12_nights (56, .getfield 49, 3) (pgm 37 rfl)) ?_
        refine so_iload_n (i := 2) X 2 (dkX12_nights (59, .iload_n 2, 1) (pgm 38 rfl)) rfl rfl ?_
        refine so_iload_n (i := 3) X 3 (dkX12_nights (60, .iload_n 3, 1) (pgm 39 rfl)) rfl rfl ?_
        refine so_iconst (v := (-1 : Int32)) X (dkX12_nights (61, .iconst (-1), 1) (pgm 40 rfl)) ic_m1 ?_
        refine so_ixor X (dkX12_nights (62, .ixor, 1) (pgm 41 rfl)) ?_
        refine so_iand X (dkX12_nights (63, .iand, 1) (pgm 42 rfl)) ?_
        refine so_iald X (rk_12_23 this hk) (dkX12_nights (64, .iaload, 1) (pgm 43 rfl)) (fun x13 => ?_)
        refine so_istore (i := 4) X (dkX12_nights (65, .istore 4, 2) (pgm 44 rfl)) (by decide) (Lf := fun x14 => [(4, .int x14), (0, .ref this), (1, .int x5), (2, .int s26), (3, .int s51)]) (fun _ => rfl) (fun x14 => ?_)
        refine so_aload_n (i := 0) X 1 (dkX12_nights (67, .aload_n 0, 1) (pgm 45 rfl)) rfl rfl ?_
        refine sf_getR X ff_12_22 lk_1724 hk (dkX12_nights (68, .getfield 46, 3) (pgm 46 rfl)) ?_
        refine so_iload_n (i := 3) X 4 (dkX12_nights (71, .iload_n 3, 1) (pgm 47 rfl)) rfl rfl ?_
        refine so_zald X (rk_12_22 this hk) (dkX12_nights (72, .baload, 1) (pgm 48 rfl)) (fun x15 => ?_)
        refine so_join (jf := fun (h16 : PH) => lt ((s51 - (1 : Int32)) &&& s26) (fun (x17 : Int32) => rec51 x17 h16)) (fun (j : PH → Option (Int32 × PH)) => ∀  (h16 : PH), SWo (QM mkI below args s D cA ad A) p l e (rmd 5) s m args below meth c 0 0 5 D cA ad A 115 [(0, .ref this), (1, .int x5), (2, .int s26), (3, .int s51)] [] h16 (j h16)) ?_ (fun j115 hj115 => ?_)
        · intro h16
          refine so_iload_n (i := 3) X 3 (dkX12_nights (115, .iload_n 3, 1) (pgm 74 rfl)) rfl rfl ?_
          refine so_iconst (v := (1 : Int32)) X (dkX12_nights (116, .iconst 1, 1) (pgm 75 rfl)) ic_1 ?_
          refine so_isub X (dkX12_nights (117, .isub, 1) (pgm 76 rfl)) ?_
          refine so_iload_n (i := 2) X 2 (dkX12_nights (118, .iload_n 2, 1) (pgm 77 rfl)) rfl rfl ?_
          refine so_iand X (dkX12_nights (119, .iand, 1) (pgm 78 rfl)) ?_
          refine so_istore_n (i := 3) X (dkX12_nights (120, .istore_n 3, 1) (pgm 79 rfl)) rfl (by decide) (Lf := fun x17 => [(3, .int x17), (0, .ref this), (1, .int x5), (2, .int s26)]) (fun _ => rfl) (fun x17 => ?_)
          refine so_goto (tgt := 51) X (dkX12_nights (121, .goto (-70), 3) (pgm 80 rfl)) rfl ?_
          exact so_pick X [1, 2, 3, 0] rfl (hrec51 x17 h16)
        refine so_if_eq (tgt := 115) X (dkX12_nights (73, .ifCond .eq 42, 3) (pgm 49 rfl)) rfl (fun _ => ?_) (fun _ => ?_)
        · exact so_pick X [1, 2, 3, 4] rfl (hj115 hh51)
        · refine so_iload (i := 4) X 0 (dkX12_nights (76, .iload 4, 2) (pgm 50 rfl)) rfl ?_
          refine so_iconst (v := (-1 : Int32)) X (dkX12_nights (78, .iconst (-1), 1) (pgm 51 rfl)) ic_m1 ?_
          refine so_icmp_eq (tgt := 115) X (dkX12_nights (79, .if_icmp .eq 36, 3) (pgm 52 rfl)) rfl (fun _ => ?_) (fun _ => ?_)
          · exact so_pick X [1, 2, 3, 4] rfl (hj115 hh51)
          · refine so_aload_n (i := 0) X 1 (dkX12_nights (82, .aload_n 0, 1) (pgm 53 rfl)) rfl rfl ?_
            refine sf_getR X ff_12_23 lk_1725 hk (dkX12_nights (83, .getfield 49, 3) (pgm 54 rfl)) ?_
            refine so_iload_n (i := 2) X 3 (dkX12_nights (86, .iload_n 2, 1) (pgm 55 rfl)) rfl rfl ?_
            refine so_iald X (rk_12_23 this hk) (dkX12_nights (87, .iaload, 1) (pgm 56 rfl)) (fun x18 => ?_)
            refine so_iconst (v := (-1 : Int32)) X (dkX12_nights (88, .iconst (-1), 1) (pgm 57 rfl)) ic_m1 ?_
            refine so_join (jf := fun (h19 : PH) => stI h19 (rt this 23) 1024 s26 (x14 + (1 : Int32)) (fun (h20 : PH) => j115 h20)) (fun (j : PH → Option (Int32 × PH)) => ∀  (h19 : PH), SWo (QM mkI below args s D cA ad A) p l e (rmd 5) s m args below meth c 0 0 5 D cA ad A 105 [(0, .ref this), (1, .int x5), (2, .int s26), (3, .int s51), (4, .int x14)] [] h19 (j h19)) ?_ (fun j105 hj105 => ?_)
            · intro h19
              refine so_aload_n (i := 0) X 0 (dkX12_nights (105, .aload_n 0, 1) (pgm 67 rfl)) rfl rfl ?_
              refine sf_getR X ff_12_23 lk_1725 hk (dkX12_nights (106, .getfield 49, 3) (pgm 68 rfl)) ?_
              refine so_iload_n (i := 2) X 2 (dkX12_nights (109, .iload_n 2, 1) (pgm 69 rfl)) rfl rfl ?_
              refine so_iload (i := 4) X 4 (dkX12_nights (110, .iload 4, 2) (pgm 70 rfl)) rfl ?_
              refine so_iconst (v := (1 : Int32)) X (dkX12_nights (112, .iconst 1, 1) (pgm 71 rfl)) ic_1 ?_
              refine so_iadd X (dkX12_nights (113, .iadd, 1) (pgm 72 rfl)) ?_
              refine so_iast X (rk_12_23 this hk) (dkX12_nights (114, .iastore, 1) (pgm 73 rfl)) (fun h20 => ?_)
              exact so_pick X [0, 1, 2, 3] rfl (hj115 h20)
            refine so_icmp_eq (tgt := 105) X (dkX12_nights (89, .if_icmp .eq 16, 3) (pgm 58 rfl)) rfl (fun _ => ?_) (fun _ => ?_)
            · exact so_pick X [1, 2, 3, 4, 0] rfl (hj105 hh51)
            · refine so_iload (i := 4) X 0 (dkX12_nights (92, .iload 4, 2) (pgm 59 rfl)) rfl ?_
              refine so_iconst (v := (1 : Int32)) X (dkX12_nights (94, .iconst 1, 1) (pgm 60 rfl)) ic_1 ?_
              refine so_iadd X (dkX12_nights (95, .iadd, 1) (pgm 61 rfl)) ?_
              refine so_aload_n (i := 0) X 1 (dkX12_nights (96, .aload_n 0, 1) (pgm 62 rfl)) rfl rfl ?_
              refine sf_getR X ff_12_23 lk_1725 hk (dkX12_nights (97, .getfield 49, 3) (pgm 63 rfl)) ?_
              refine so_iload_n (i := 2) X 3 (dkX12_nights (100, .iload_n 2, 1) (pgm 64 rfl)) rfl rfl ?_
              refine so_iald X (rk_12_23 this hk) (dkX12_nights (101, .iaload, 1) (pgm 65 rfl)) (fun x21 => ?_)
              refine so_icmp_ge (tgt := 115) X (dkX12_nights (102, .if_icmp .ge 13, 3) (pgm 66 rfl)) rfl (fun _ => ?_) (fun _ => ?_)
              · exact so_pick X [1, 2, 3, 4] rfl (hj115 hh51)
              · exact so_pick X [1, 2, 3, 4, 0] rfl (hj105 hh51)
    · refine so_goto (tgt := 124) X (dkX12_nights (46, .goto 78, 3) (pgm 31 rfl)) rfl ?_
      exact so_pick X [0, 1, 2] rfl (hj124 h9)
def pgX12_heartsOf : List (Nat × Instr × Nat) := [(0, .aload_n 0, 1), (1, .getfield 9, 3), (4, .bipush 7, 2), (6, .iaload, 1), (7, .iconst 1, 1), (8, .iload_n 1, 1), (9, .ishl, 1), (10, .iconst (-1), 1), (11, .ixor, 1), (12, .iand, 1), (13, .aload_n 0, 1), (14, .invokevirtual 299, 3), (17, .iconst (-1), 1), (18, .ixor, 1), (19, .iand, 1), (20, .istore_n 2, 1), (21, .iconst (-1), 1), (22, .istore_n 3, 1), (23, .iconst 0, 1), (24, .istore 4, 2), (26, .iload 4, 2), (28, .iload_n 2, 1), (29, .if_icmp .gt 61, 3), (32, .iload 4, 2), (34, .iload_n 2, 1), (35, .iconst (-1), 1), (36, .ixor, 1), (37, .iand, 1), (38, .ifCond .ne 46, 3), (41, .aload_n 0, 1), (42, .getfield 46, 3), (45, .aload_n 0, 1), (46, .getfield 9, 3), (49, .bipush 7, 2), (51, .iaload, 1), (52, .iload 4, 2), (54, .iconst (-1), 1), (55, .ixor, 1), (56, .iand, 1), (57, .baload, 1), (58, .ifCond .ne 6, 3), (61, .goto 23, 3), (64, .iload_n 3, 1), (65, .iconst (-1), 1), (66, .if_icmp .eq 15, 3), (69, .iload 4, 2), (71, .invokestatic 269, 3), (74, .iload_n 3, 1), (75, .invokestatic 269, 3), (78, .if_icmp .ge 6, 3), (81, .iload 4, 2), (83, .istore_n 3, 1), (84, .iinc 4 1, 3), (87, .goto (-61), 3), (90, .iload_n 3, 1), (91, .ireturn, 1)]
theorem dkX12_heartsOf : ∀ q ∈ pgX12_heartsOf, decode cX12_heartsOf q.1 = .ok q.2 := by decide +kernel
def b_X12_heartsOf_26 (this : Nat) (x4 : Int32) (rec26 : (Int32 × Int32) → PH → Option (Int32 × PH)) (s26 : Int32 × Int32) (hh26 : PH) : Option (Int32 × PH) :=
  if x4 < s26.2 then (some (s26.1, hh26)) else (lt (fun (y7 : Int32) (h8 : PH) => lt (s26.2 + Int32.ofInt 1) (fun (x9 : Int32) => rec26 (y7, x9) h8)) (fun (j84 : Int32 → PH → Option (Int32 × PH)) => if (s26.2 &&& (x4 ^^^ (-1 : Int32))) = 0 then (ldI hh26 (rt this 0) 1200 (7 : Int32) (fun (x10 : Int32) => ldI hh26 (rt this 22) 1024 (x10 &&& (s26.2 ^^^ (-1 : Int32))) (fun (x11 : Int32) => if x11 = 0 then (j84 s26.1 hh26) else (lt (fun (h12 : PH) => lt s26.2 (fun (x13 : Int32) => j84 x13 h12)) (fun (j81 : PH → Option (Int32 × PH)) => if s26.1 = (-1 : Int32) then (j81 hh26) else (cb (f_X12_size s26.2 hh26) (fun (r14 : Int32) (h15 : PH) => cb (f_X12_size s26.1 h15) (fun (r16 : Int32) (h17 : PH) => if r16 ≤ r14 then (j84 s26.1 h17) else (j81 h17))))))))) else (j84 s26.1 hh26)))
def f_X12_heartsOf (this : Nat) (a1 : Int32) (h0 : PH) : Option (Int32 × PH) :=
  ldI h0 (rt this 0) 1200 (7 : Int32) (fun (x1 : Int32) => cb (f_X12_musts this h0) (fun (r2 : Int32) (h3 : PH) => lt ((x1 &&& (((1 : Int32) <<< (a1 &&& 31)) ^^^ (-1 : Int32))) &&& (r2 ^^^ (-1 : Int32))) (fun (x4 : Int32) => lt (-1 : Int32) (fun (x5 : Int32) => lt (0 : Int32) (fun (x6 : Int32) => lp (b_X12_heartsOf_26 this x4) FU (x5, x6) h3)))))
set_option maxRecDepth 100000 in
set_option maxHeartbeats 4000000 in
theorem ct_X12_heartsOf (l : Launch) (this : Nat) (a1 : Int32) (h0 : PH) (hk : (kd this).1 = 12) : CT mkI l yX12_heartsOf cX12_heartsOf 5 (some .int) (rmd 3) [.ref this, .int a1] h0 (f_X12_heartsOf this a1 h0) := by
  refine ct_of (by decide) (Nat.le_of_ble_eq_true rfl) ?_
  intro p e s m args below meth c D cA ad A X hr hlk
  have X : Cx p s m args c RX12 cX12_heartsOf 5 D cA ad A := X
  unfold f_X12_heartsOf
  refine so_pick (L' := [(0, .ref this), (1, .int a1)]) X [0, 1] rfl ?_
  refine so_aload_n (i := 0) X 0 (dkX12_heartsOf (0, .aload_n 0, 1) (pgm 0 rfl)) rfl rfl ?_
  refine sf_getR X ff_12_0 lk_1702 hk (dkX12_heartsOf (1, .getfield 9, 3) (pgm 1 rfl)) ?_
  refine so_bipush (v := (7 : Int32)) X (dkX12_heartsOf (4, .bipush 7, 2) (pgm 2 rfl)) bp_7 ?_
  refine so_iald X (rk_12_0 this hk) (dkX12_heartsOf (6, .iaload, 1) (pgm 3 rfl)) (fun x1 => ?_)
  refine so_iconst (v := (1 : Int32)) X (dkX12_heartsOf (7, .iconst 1, 1) (pgm 4 rfl)) ic_1 ?_
  refine so_iload_n (i := 1) X 1 (dkX12_heartsOf (8, .iload_n 1, 1) (pgm 5 rfl)) rfl rfl ?_
  refine so_ishl X (dkX12_heartsOf (9, .ishl, 1) (pgm 6 rfl)) ?_
  refine so_iconst (v := (-1 : Int32)) X (dkX12_heartsOf (10, .iconst (-1), 1) (pgm 7 rfl)) ic_m1 ?_
  refine so_ixor X (dkX12_heartsOf (11, .ixor, 1) (pgm 8 rfl)) ?_
  refine so_iand X (dkX12_heartsOf (12, .iand, 1) (pgm 9 rfl)) ?_
  refine so_aload_n (i := 0) X 0 (dkX12_heartsOf (13, .aload_n 0, 1) (pgm 10 rfl)) rfl rfl ?_
  refine so_callV (n := 0) (As := []) X (ct_X12_musts l this h0 hk) hk (by decide) rfl lk_1986 lk_1988 lk_87 lk_134 lk_1989 (by decide +kernel) rfl rfl rfl (rm_ok (by omega) (by decide)) ⟨Nat.zero_le _, Nat.zero_le _⟩ (Nat.le_of_ble_eq_true rfl) (dkX12_heartsOf (14, .invokevirtual 299, 3) (pgm 11 rfl)) (fun r2 h3 => ?_) rfl
  refine so_iconst (v := (-1 : Int32)) X (dkX12_heartsOf (17, .iconst (-1), 1) (pgm 12 rfl)) ic_m1 ?_
  refine so_ixor X (dkX12_heartsOf (18, .ixor, 1) (pgm 13 rfl)) ?_
  refine so_iand X (dkX12_heartsOf (19, .iand, 1) (pgm 14 rfl)) ?_
  refine so_istore_n (i := 2) X (dkX12_heartsOf (20, .istore_n 2, 1) (pgm 15 rfl)) rfl (by decide) (Lf := fun x4 => [(2, .int x4), (0, .ref this), (1, .int a1)]) (fun _ => rfl) (fun x4 => ?_)
  refine so_iconst (v := (-1 : Int32)) X (dkX12_heartsOf (21, .iconst (-1), 1) (pgm 16 rfl)) ic_m1 ?_
  refine so_istore_n (i := 3) X (dkX12_heartsOf (22, .istore_n 3, 1) (pgm 17 rfl)) rfl (by decide) (Lf := fun x5 => [(3, .int x5), (2, .int x4), (0, .ref this), (1, .int a1)]) (fun _ => rfl) (fun x5 => ?_)
  refine so_iconst (v := (0 : Int32)) X (dkX12_heartsOf (23, .iconst 0, 1) (pgm 18 rfl)) ic_0 ?_
  refine so_istore (i := 4) X (dkX12_heartsOf (24, .istore 4, 2) (pgm 19 rfl)) (by decide) (Lf := fun x6 => [(4, .int x6), (3, .int x5), (2, .int x4), (0, .ref this), (1, .int a1)]) (fun _ => rfl) (fun x6 => ?_)
  refine so_pick (L' := [(0, .ref this), (2, .int x4), (3, .int x5), (4, .int x6)]) X [3, 2, 1, 0] rfl ?_
  refine so_loop (body := b_X12_heartsOf_26 this x4) (fun (s26 : Int32 × Int32) => [(0, .ref this), (2, .int x4), (3, .int s26.1), (4, .int s26.2)]) (fun rec26 hrec26 s26 hh26 => ?_) FU (x5, x6) h3
  unfold b_X12_heartsOf_26
  refine so_iload (i := 4) X 3 (dkX12_heartsOf (26, .iload 4, 2) (pgm 20 rfl)) rfl ?_
  refine so_iload_n (i := 2) X 1 (dkX12_heartsOf (28, .iload_n 2, 1) (pgm 21 rfl)) rfl rfl ?_
  refine so_icmp_gt (tgt := 90) X (dkX12_heartsOf (29, .if_icmp .gt 61, 3) (pgm 22 rfl)) rfl (fun _ => ?_) (fun _ => ?_)
  · refine so_iload_n (i := 3) X 2 (dkX12_heartsOf (90, .iload_n 3, 1) (pgm 54 rfl)) rfl rfl ?_
    exact so_iret X hr hlk (dkX12_heartsOf (91, .ireturn, 1) (pgm 55 rfl))
  · refine so_iload (i := 4) X 3 (dkX12_heartsOf (32, .iload 4, 2) (pgm 23 rfl)) rfl ?_
    refine so_iload_n (i := 2) X 1 (dkX12_heartsOf (34, .iload_n 2, 1) (pgm 24 rfl)) rfl rfl ?_
    refine so_iconst (v := (-1 : Int32)) X (dkX12_heartsOf (35, .iconst (-1), 1) (pgm 25 rfl)) ic_m1 ?_
    refine so_ixor X (dkX12_heartsOf (36, .ixor, 1) (pgm 26 rfl)) ?_
    refine so_iand X (dkX12_heartsOf (37, .iand, 1) (pgm 27 rfl)) ?_
    refine so_join (jf := fun (y7 : Int32) (h8 : PH) => lt (s26.2 + Int32.ofInt 1) (fun (x9 : Int32) => rec26 (y7, x9) h8)) (fun (j : Int32 → PH → Option (Int32 × PH)) => ∀ (y7 : Int32) (h8 : PH), SWo (QM mkI below args s D cA ad A) p l e (rmd 3) s m args below meth c 0 0 5 D cA ad A 84 [(0, .ref this), (2, .int x4), (3, .int y7), (4, .int s26.2)] [] h8 (j y7 h8)) ?_ (fun j84 hj84 => ?_)
    · intro y7 h8
      refine so_iinc (i := 4) X 3 (dkX12_heartsOf (84, .iinc 4 1, 3) (pgm 52 rfl)) rfl rfl (by decide) (Lf := fun x9 => [(4, .int x9), (0, .ref this), (2, .int x4), (3, .int y7)]) (fun _ => rfl) (fun x9 => ?_)
      refine so_goto (tgt := 26) X (dkX12_heartsOf (87, .goto (-61), 3) (pgm 53 rfl)) rfl ?_
      exact so_pick X [1, 2, 3, 0] rfl (hrec26 (y7, x9) h8)
    refine so_if_ne (tgt := 84) X (dkX12_heartsOf (38, .ifCond .ne 46, 3) (pgm 28 rfl)) rfl (fun _ => ?_) (fun _ => ?_)
    · exact so_pick X [0, 1, 2, 3] rfl (hj84 s26.1 hh26)
    · refine so_aload_n (i := 0) X 0 (dkX12_heartsOf (41, .aload_n 0, 1) (pgm 29 rfl)) rfl rfl ?_
      refine sf_getR X ff_12_22 lk_1724 hk (dkX12_heartsOf (42, .getfield 46, 3) (pgm 30 rfl)) ?_
      refine so_aload_n (i := 0) X 0 (dkX12_heartsOf (45, .aload_n 0, 1) (pgm 31 rfl)) rfl rfl ?_
      refine sf_getR X ff_12_0 lk_1702 hk (dkX12_heartsOf (46, .getfield 9, 3) (pgm 32 rfl)) ?_
      refine so_bipush (v := (7 : Int32)) X (dkX12_heartsOf (49, .bipush 7, 2) (pgm 33 rfl)) bp_7 ?_
      refine so_iald X (rk_12_0 this hk) (dkX12_heartsOf (51, .iaload, 1) (pgm 34 rfl)) (fun x10 => ?_)
      refine so_iload (i := 4) X 3 (dkX12_heartsOf (52, .iload 4, 2) (pgm 35 rfl)) rfl ?_
      refine so_iconst (v := (-1 : Int32)) X (dkX12_heartsOf (54, .iconst (-1), 1) (pgm 36 rfl)) ic_m1 ?_
      refine so_ixor X (dkX12_heartsOf (55, .ixor, 1) (pgm 37 rfl)) ?_
      refine so_iand X (dkX12_heartsOf (56, .iand, 1) (pgm 38 rfl)) ?_
      refine so_zald X (rk_12_22 this hk) (dkX12_heartsOf (57, .baload, 1) (pgm 39 rfl)) (fun x11 => ?_)
      refine so_if_ne (tgt := 64) X (dkX12_heartsOf (58, .ifCond .ne 6, 3) (pgm 40 rfl)) rfl (fun _ => ?_) (fun _ => ?_)
      · refine so_iload_n (i := 3) X 2 (dkX12_heartsOf (64, .iload_n 3, 1) (pgm 42 rfl)) rfl rfl ?_
        refine so_iconst (v := (-1 : Int32)) X (dkX12_heartsOf (65, .iconst (-1), 1) (pgm 43 rfl)) ic_m1 ?_
        refine so_join (jf := fun (h12 : PH) => lt s26.2 (fun (x13 : Int32) => j84 x13 h12)) (fun (j : PH → Option (Int32 × PH)) => ∀  (h12 : PH), SWo (QM mkI below args s D cA ad A) p l e (rmd 3) s m args below meth c 0 0 5 D cA ad A 81 [(0, .ref this), (2, .int x4), (4, .int s26.2)] [] h12 (j h12)) ?_ (fun j81 hj81 => ?_)
        · intro h12
          refine so_iload (i := 4) X 2 (dkX12_heartsOf (81, .iload 4, 2) (pgm 50 rfl)) rfl ?_
          refine so_istore_n (i := 3) X (dkX12_heartsOf (83, .istore_n 3, 1) (pgm 51 rfl)) rfl (by decide) (Lf := fun x13 => [(3, .int x13), (0, .ref this), (2, .int x4), (4, .int s26.2)]) (fun _ => rfl) (fun x13 => ?_)
          exact so_pick X [1, 2, 0, 3] rfl (hj84 x13 h12)
        refine so_icmp_eq (tgt := 81) X (dkX12_heartsOf (66, .if_icmp .eq 15, 3) (pgm 44 rfl)) rfl (fun _ => ?_) (fun _ => ?_)
        · exact so_pick X [0, 1, 3] rfl (hj81 hh26)
        · refine so_iload (i := 4) X 3 (dkX12_heartsOf (69, .iload 4, 2) (pgm 45 rfl)) rfl ?_
          refine so_callS (n := 1) (As := [.int s26.2]) X (ct_X12_size l s26.2 hh26 ) lk_1687 lk_1688 lk_134 lk_1689 (by decide +kernel) rfl rfl rfl (rm_ok (by omega) (by decide)) ⟨Nat.zero_le _, Nat.zero_le _⟩ (Nat.le_of_ble_eq_true rfl) (dkX12_heartsOf (71, .invokestatic 269, 3) (pgm 46 rfl)) (fun r14 h15 => ?_) rfl
          refine so_iload_n (i := 3) X 2 (dkX12_heartsOf (74, .iload_n 3, 1) (pgm 47 rfl)) rfl rfl ?_
          refine so_callS (n := 1) (As := [.int s26.1]) X (ct_X12_size l s26.1 h15 ) lk_1687 lk_1688 lk_134 lk_1689 (by decide +kernel) rfl rfl rfl (rm_ok (by omega) (by decide)) ⟨Nat.zero_le _, Nat.zero_le _⟩ (Nat.le_of_ble_eq_true rfl) (dkX12_heartsOf (75, .invokestatic 269, 3) (pgm 48 rfl)) (fun r16 h17 => ?_) rfl
          refine so_icmp_ge (tgt := 84) X (dkX12_heartsOf (78, .if_icmp .ge 6, 3) (pgm 49 rfl)) rfl (fun _ => ?_) (fun _ => ?_)
          · exact so_pick X [0, 1, 2, 3] rfl (hj84 s26.1 h17)
          · exact so_pick X [0, 1, 3] rfl (hj81 h17)
      · refine so_goto (tgt := 84) X (dkX12_heartsOf (61, .goto 23, 3) (pgm 41 rfl)) rfl ?_
        exact so_pick X [0, 1, 2, 3] rfl (hj84 s26.1 hh26)
def pgX12_hearts : List (Nat × Instr × Nat) := [(0, .aload_n 0, 1), (1, .aload_n 0, 1), (2, .iload_n 1, 1), (3, .invokevirtual 322, 3), (6, .putfield 92, 3), (9, .aload_n 0, 1), (10, .getfield 92, 3), (13, .ifCond .ne 18, 3), (16, .iload_n 2, 1), (17, .i2l, 1), (18, .lconst 0, 1), (19, .lconst 1, 1), (20, .invokestatic 156, 3), (23, .ifCond .ne 8, 3), (26, .aload_n 0, 1), (27, .iconst 2, 1), (28, .putfield 92, 3), (31, .aload_n 0, 1), (32, .getfield 92, 3), (35, .ifCond .le 5, 3), (38, .iconst 0, 1), (39, .ireturn, 1), (40, .aload_n 0, 1), (41, .invokevirtual 316, 3), (44, .aload_n 0, 1), (45, .iload_n 1, 1), (46, .invokevirtual 329, 3), (49, .istore_n 3, 1), (50, .iload_n 3, 1), (51, .iconst (-1), 1), (52, .if_icmp .eq 8, 3), (55, .iload_n 2, 1), (56, .iconst 1, 1), (57, .if_icmp .ne 7, 3), (60, .iload_n 3, 1), (61, .goto 7, 3), (64, .iload_n 3, 1), (65, .invokestatic 269, 3), (68, .ireturn, 1)]
theorem dkX12_hearts : ∀ q ∈ pgX12_hearts, decode cX12_hearts q.1 = .ok q.2 := by decide +kernel
def f_X12_hearts (this : Nat) (a1 : Int32) (a2 : Int32) (h0 : PH) : Option (Int32 × PH) :=
  cb (f_X12_openFault this a1 h0) (fun (r1 : Int32) (h2 : PH) => lt (pI h2 this 5 r1) (fun (h3 : PH) => lt (fun (h4 : PH) => if (h4.1 this 5) ≤ 0 then (cb (f_X12_laysPlans this h4) (fun (r5 : Unit) (h6 : PH) => cb (f_X12_heartsOf this a1 h6) (fun (r7 : Int32) (h8 : PH) => lt r7 (fun (x9 : Int32) => lt (fun (t10 : Int32) (h11 : PH) => some (t10, h11)) (fun (j68 : Int32 → PH → Option (Int32 × PH)) => lt (fun (h12 : PH) => j68 x9 h12) (fun (j60 : PH → Option (Int32 × PH)) => if x9 = (-1 : Int32) then (j60 h8) else (if a2 = (1 : Int32) then (j60 h8) else (cb (f_X12_size x9 h8) (fun (r13 : Int32) (h14 : PH) => j68 r13 h14))))))))) else (some ((0 : Int32), h4))) (fun (j31 : PH → Option (Int32 × PH)) => if (h3.1 this 5) = 0 then (cb (f_X12_within a2.toInt64 (0 : Int64) (1 : Int64) h3) (fun (r15 : Int32) (h16 : PH) => if r15 = 0 then (lt (pI h16 this 5 (2 : Int32)) (fun (h17 : PH) => j31 h17)) else (j31 h16))) else (j31 h3))))
set_option maxRecDepth 100000 in
set_option maxHeartbeats 4000000 in
theorem ct_X12_hearts (l : Launch) (this : Nat) (a1 : Int32) (a2 : Int32) (h0 : PH) (hk : (kd this).1 = 12) : CT mkI l yX12_hearts cX12_hearts 4 (some .int) (rmd 5) [.ref this, .int a1, .int a2] h0 (f_X12_hearts this a1 a2 h0) := by
  refine ct_of (by decide) (Nat.le_of_ble_eq_true rfl) ?_
  intro p e s m args below meth c D cA ad A X hr hlk
  have X : Cx p s m args c RX12 cX12_hearts 4 D cA ad A := X
  unfold f_X12_hearts
  refine so_pick (L' := [(0, .ref this), (1, .int a1), (2, .int a2)]) X [0, 1, 2] rfl ?_
  refine so_aload_n (i := 0) X 0 (dkX12_hearts (0, .aload_n 0, 1) (pgm 0 rfl)) rfl rfl ?_
  refine so_aload_n (i := 0) X 0 (dkX12_hearts (1, .aload_n 0, 1) (pgm 1 rfl)) rfl rfl ?_
  refine so_iload_n (i := 1) X 1 (dkX12_hearts (2, .iload_n 1, 1) (pgm 2 rfl)) rfl rfl ?_
  refine so_callV (n := 1) (As := [.int a1]) X (ct_X12_openFault l this a1 h0 hk) hk (by decide) rfl lk_2026 lk_2028 lk_92 lk_134 lk_2029 (by decide +kernel) rfl rfl rfl (rm_ok (by omega) (by decide)) ⟨Nat.zero_le _, Nat.zero_le _⟩ (Nat.le_of_ble_eq_true rfl) (dkX12_hearts (3, .invokevirtual 322, 3) (pgm 3 rfl)) (fun r1 h2 => ?_) rfl
  refine sf_putI X ff_12_5 ft_12 rfl lk_1707 hk rfl rfl (dkX12_hearts (6, .putfield 92, 3) (pgm 4 rfl)) (fun h3 => ?_)
  refine so_aload_n (i := 0) X 0 (dkX12_hearts (9, .aload_n 0, 1) (pgm 5 rfl)) rfl rfl ?_
  refine sf_getI X ff_12_5 lk_1707 hk (dkX12_hearts (10, .getfield 92, 3) (pgm 6 rfl)) ?_
  refine so_join (jf := fun (h4 : PH) => if (h4.1 this 5) ≤ 0 then (cb (f_X12_laysPlans this h4) (fun (r5 : Unit) (h6 : PH) => cb (f_X12_heartsOf this a1 h6) (fun (r7 : Int32) (h8 : PH) => lt r7 (fun (x9 : Int32) => lt (fun (t10 : Int32) (h11 : PH) => some (t10, h11)) (fun (j68 : Int32 → PH → Option (Int32 × PH)) => lt (fun (h12 : PH) => j68 x9 h12) (fun (j60 : PH → Option (Int32 × PH)) => if x9 = (-1 : Int32) then (j60 h8) else (if a2 = (1 : Int32) then (j60 h8) else (cb (f_X12_size x9 h8) (fun (r13 : Int32) (h14 : PH) => j68 r13 h14))))))))) else (some ((0 : Int32), h4))) (fun (j : PH → Option (Int32 × PH)) => ∀  (h4 : PH), SWo (QM mkI below args s D cA ad A) p l e (rmd 5) s m args below meth c 0 0 4 D cA ad A 31 [(0, .ref this), (1, .int a1), (2, .int a2)] [] h4 (j h4)) ?_ (fun j31 hj31 => ?_)
  · intro h4
    refine so_aload_n (i := 0) X 0 (dkX12_hearts (31, .aload_n 0, 1) (pgm 17 rfl)) rfl rfl ?_
    refine sf_getI X ff_12_5 lk_1707 hk (dkX12_hearts (32, .getfield 92, 3) (pgm 18 rfl)) ?_
    refine so_if_le (tgt := 40) X (dkX12_hearts (35, .ifCond .le 5, 3) (pgm 19 rfl)) rfl (fun _ => ?_) (fun _ => ?_)
    · refine so_aload_n (i := 0) X 0 (dkX12_hearts (40, .aload_n 0, 1) (pgm 22 rfl)) rfl rfl ?_
      refine so_callV (n := 0) (As := []) X (ct_X12_laysPlans l this h4 hk) hk (by decide) rfl lk_2010 lk_2012 lk_90 lk_134 lk_2013 (by decide +kernel) rfl rfl rfl (rm_ok (by omega) (by decide)) ⟨Nat.zero_le _, Nat.zero_le _⟩ (Nat.le_of_ble_eq_true rfl) (dkX12_hearts (41, .invokevirtual 316, 3) (pgm 23 rfl)) (fun r5 h6 => ?_) rfl
      refine so_aload_n (i := 0) X 0 (dkX12_hearts (44, .aload_n 0, 1) (pgm 24 rfl)) rfl rfl ?_
      refine so_iload_n (i := 1) X 1 (dkX12_hearts (45, .iload_n 1, 1) (pgm 25 rfl)) rfl rfl ?_
      refine so_callV (n := 1) (As := [.int a1]) X (ct_X12_heartsOf l this a1 h6 hk) hk (by decide) rfl lk_2047 lk_2049 lk_94 lk_134 lk_2050 (by decide +kernel) rfl rfl rfl (rm_ok (by omega) (by decide)) ⟨Nat.zero_le _, Nat.zero_le _⟩ (Nat.le_of_ble_eq_true rfl) (dkX12_hearts (46, .invokevirtual 329, 3) (pgm 26 rfl)) (fun r7 h8 => ?_) rfl
      refine so_istore_n (i := 3) X (dkX12_hearts (49, .istore_n 3, 1) (pgm 27 rfl)) rfl (by decide) (Lf := fun x9 => [(3, .int x9), (0, .ref this), (1, .int a1), (2, .int a2)]) (fun _ => rfl) (fun x9 => ?_)
      refine so_iload_n (i := 3) X 0 (dkX12_hearts (50, .iload_n 3, 1) (pgm 28 rfl)) rfl rfl ?_
      refine so_iconst (v := (-1 : Int32)) X (dkX12_hearts (51, .iconst (-1), 1) (pgm 29 rfl)) ic_m1 ?_
      refine so_join (jf := fun (t10 : Int32) (h11 : PH) => some (t10, h11)) (fun (j : Int32 → PH → Option (Int32 × PH)) => ∀ (t10 : Int32) (h11 : PH), SWo (QM mkI below args s D cA ad A) p l e (rmd 5) s m args below meth c 0 0 4 D cA ad A 68 [] [.int t10] h11 (j t10 h11)) ?_ (fun j68 hj68 => ?_)
      · intro t10 h11
        exact so_iret X hr hlk (dkX12_hearts (68, .ireturn, 1) (pgm 38 rfl))
      refine so_join (jf := fun (h12 : PH) => j68 x9 h12) (fun (j : PH → Option (Int32 × PH)) => ∀  (h12 : PH), SWo (QM mkI below args s D cA ad A) p l e (rmd 5) s m args below meth c 0 0 4 D cA ad A 60 [(3, .int x9)] [] h12 (j h12)) ?_ (fun j60 hj60 => ?_)
      · intro h12
        refine so_iload_n (i := 3) X 0 (dkX12_hearts (60, .iload_n 3, 1) (pgm 34 rfl)) rfl rfl ?_
        refine so_goto (tgt := 68) X (dkX12_hearts (61, .goto 7, 3) (pgm 35 rfl)) rfl ?_
        exact so_pick X [] rfl (hj68 x9 h12)
      refine so_icmp_eq (tgt := 60) X (dkX12_hearts (52, .if_icmp .eq 8, 3) (pgm 30 rfl)) rfl (fun _ => ?_) (fun _ => ?_)
      · exact so_pick X [0] rfl (hj60 h8)
      · refine so_iload_n (i := 2) X 3 (dkX12_hearts (55, .iload_n 2, 1) (pgm 31 rfl)) rfl rfl ?_
        refine so_iconst (v := (1 : Int32)) X (dkX12_hearts (56, .iconst 1, 1) (pgm 32 rfl)) ic_1 ?_
        refine so_icmp_ne (tgt := 64) X (dkX12_hearts (57, .if_icmp .ne 7, 3) (pgm 33 rfl)) rfl (fun _ => ?_) (fun _ => ?_)
        · refine so_iload_n (i := 3) X 0 (dkX12_hearts (64, .iload_n 3, 1) (pgm 36 rfl)) rfl rfl ?_
          refine so_callS (n := 1) (As := [.int x9]) X (ct_X12_size l x9 h8 ) lk_1687 lk_1688 lk_134 lk_1689 (by decide +kernel) rfl rfl rfl (rm_ok (by omega) (by decide)) ⟨Nat.zero_le _, Nat.zero_le _⟩ (Nat.le_of_ble_eq_true rfl) (dkX12_hearts (65, .invokestatic 269, 3) (pgm 37 rfl)) (fun r13 h14 => ?_) rfl
          exact so_pick X [] rfl (hj68 r13 h14)
        · exact so_pick X [0] rfl (hj60 h8)
    · refine so_iconst (v := (0 : Int32)) X (dkX12_hearts (38, .iconst 0, 1) (pgm 20 rfl)) ic_0 ?_
      exact so_iret X hr hlk (dkX12_hearts (39, .ireturn, 1) (pgm 21 rfl))
  refine so_if_ne (tgt := 31) X (dkX12_hearts (13, .ifCond .ne 18, 3) (pgm 7 rfl)) rfl (fun _ => ?_) (fun _ => ?_)
  · exact so_pick X [0, 1, 2] rfl (hj31 h3)
  · refine so_iload_n (i := 2) X 2 (dkX12_hearts (16, .iload_n 2, 1) (pgm 8 rfl)) rfl rfl ?_
    refine so_i2l X (dkX12_hearts (17, .i2l, 1) (pgm 9 rfl)) ?_
    refine so_lconst (v := (0 : Int64)) X (dkX12_hearts (18, .lconst 0, 1) (pgm 10 rfl)) lc_0 ?_
    refine so_lconst (v := (1 : Int64)) X (dkX12_hearts (19, .lconst 1, 1) (pgm 11 rfl)) lc_1 ?_
    refine so_callS (n := 3) (As := [.long a2.toInt64, .long (0 : Int64), .long (1 : Int64)]) X (ct_X12_within l a2.toInt64 (0 : Int64) (1 : Int64) h3 ) lk_1832 lk_1833 lk_134 lk_1834 (by decide +kernel) rfl rfl rfl (rm_ok (by omega) (by decide)) ⟨Nat.zero_le _, Nat.zero_le _⟩ (Nat.le_of_ble_eq_true rfl) (dkX12_hearts (20, .invokestatic 156, 3) (pgm 12 rfl)) (fun r15 h16 => ?_) rfl
    refine so_if_ne (tgt := 31) X (dkX12_hearts (23, .ifCond .ne 8, 3) (pgm 13 rfl)) rfl (fun _ => ?_) (fun _ => ?_)
    · exact so_pick X [0, 1, 2] rfl (hj31 h16)
    · refine so_aload_n (i := 0) X 0 (dkX12_hearts (26, .aload_n 0, 1) (pgm 14 rfl)) rfl rfl ?_
      refine so_iconst (v := (2 : Int32)) X (dkX12_hearts (27, .iconst 2, 1) (pgm 15 rfl)) ic_2 ?_
      refine sf_putI X ff_12_5 ft_12 rfl lk_1707 hk rfl rfl (dkX12_hearts (28, .putfield 92, 3) (pgm 16 rfl)) (fun h17 => ?_)
      exact so_pick X [0, 1, 2] rfl (hj31 h17)
def pgX12_follows : List (Nat × Instr × Nat) := [(0, .aload_n 0, 1), (1, .aload_n 0, 1), (2, .iload_n 1, 1), (3, .invokevirtual 322, 3), (6, .putfield 92, 3), (9, .aload_n 0, 1), (10, .getfield 92, 3), (13, .ifCond .le 5, 3), (16, .iconst 0, 1), (17, .ireturn, 1), (18, .aload_n 0, 1), (19, .invokevirtual 316, 3), (22, .aload_n 0, 1), (23, .getfield 9, 3), (26, .bipush 7, 2), (28, .iaload, 1), (29, .istore_n 2, 1), (30, .iconst 0, 1), (31, .istore_n 3, 1), (32, .iload_n 3, 1), (33, .aload_n 0, 1), (34, .invokevirtual 252, 3), (37, .if_icmp .gt 41, 3), (40, .aload_n 0, 1), (41, .getfield 43, 3), (44, .iload_n 3, 1), (45, .iaload, 1), (46, .iconst (-1), 1), (47, .if_icmp .eq 25, 3), (50, .aload_n 0, 1), (51, .getfield 43, 3), (54, .iload_n 3, 1), (55, .iaload, 1), (56, .iload_n 1, 1), (57, .invokestatic 279, 3), (60, .ifCond .eq 12, 3), (63, .iload_n 2, 1), (64, .aload_n 0, 1), (65, .getfield 43, 3), (68, .iload_n 3, 1), (69, .iaload, 1), (70, .iand, 1), (71, .istore_n 2, 1), (72, .iinc 3 1, 3), (75, .goto (-43), 3), (78, .iload_n 2, 1), (79, .iconst 1, 1), (80, .iload_n 1, 1), (81, .ishl, 1), (82, .iconst (-1), 1), (83, .ixor, 1), (84, .iand, 1), (85, .ireturn, 1)]
theorem dkX12_follows : ∀ q ∈ pgX12_follows, decode cX12_follows q.1 = .ok q.2 := by decide +kernel
def b_X12_follows_32 (this : Nat) (a1 : Int32) (rec32 : (Int32 × Int32) → PH → Option (Int32 × PH)) (s32 : Int32 × Int32) (hh32 : PH) : Option (Int32 × PH) :=
  cb (f_X12_everywhere this hh32) (fun (r9 : Int32) (h10 : PH) => if r9 < s32.2 then (some ((s32.1 &&& (((1 : Int32) <<< (a1 &&& 31)) ^^^ (-1 : Int32))), h10)) else (ldI h10 (rt this 21) 4096 s32.2 (fun (x11 : Int32) => lt (fun (y12 : Int32) (h13 : PH) => lt (s32.2 + Int32.ofInt 1) (fun (x14 : Int32) => rec32 (y12, x14) h13)) (fun (j72 : Int32 → PH → Option (Int32 × PH)) => if x11 = (-1 : Int32) then (j72 s32.1 h10) else (ldI h10 (rt this 21) 4096 s32.2 (fun (x15 : Int32) => cb (f_X12_has x15 a1 h10) (fun (r16 : Int32) (h17 : PH) => if r16 = 0 then (j72 s32.1 h17) else (ldI h17 (rt this 21) 4096 s32.2 (fun (x18 : Int32) => lt (s32.1 &&& x18) (fun (x19 : Int32) => j72 x19 h17))))))))))
def f_X12_follows (this : Nat) (a1 : Int32) (h0 : PH) : Option (Int32 × PH) :=
  cb (f_X12_openFault this a1 h0) (fun (r1 : Int32) (h2 : PH) => lt (pI h2 this 5 r1) (fun (h3 : PH) => if (h3.1 this 5) ≤ 0 then (cb (f_X12_laysPlans this h3) (fun (r4 : Unit) (h5 : PH) => ldI h5 (rt this 0) 1200 (7 : Int32) (fun (x6 : Int32) => lt x6 (fun (x7 : Int32) => lt (0 : Int32) (fun (x8 : Int32) => lp (b_X12_follows_32 this a1) FU (x7, x8) h5))))) else (some ((0 : Int32), h3))))
set_option maxRecDepth 100000 in
set_option maxHeartbeats 4000000 in
theorem ct_X12_follows (l : Launch) (this : Nat) (a1 : Int32) (h0 : PH) (hk : (kd this).1 = 12) : CT mkI l yX12_follows cX12_follows 4 (some .int) (rmd 5) [.ref this, .int a1] h0 (f_X12_follows this a1 h0) := by
  refine ct_of (by decide) (Nat.le_of_ble_eq_true rfl) ?_
  intro p e s m args below meth c D cA ad A X hr hlk
  have X : Cx p s m args c RX12 cX12_follows 4 D cA ad A := X
  unfold f_X12_follows
  refine so_pick (L' := [(0, .ref this), (1, .int a1)]) X [0, 1] rfl ?_
  refine so_aload_n (i := 0) X 0 (dkX12_follows (0, .aload_n 0, 1) (pgm 0 rfl)) rfl rfl ?_
  refine so_aload_n (i := 0) X 0 (dkX12_follows (1, .aload_n 0, 1) (pgm 1 rfl)) rfl rfl ?_
  refine so_iload_n (i := 1) X 1 (dkX12_follows (2, .iload_n 1, 1) (pgm 2 rfl)) rfl rfl ?_
  refine so_callV (n := 1) (As := [.int a1]) X (ct_X12_openFault l this a1 h0 hk) hk (by decide) rfl lk_2026 lk_2028 lk_92 lk_134 lk_2029 (by decide +kernel) rfl rfl rfl (rm_ok (by omega) (by decide)) ⟨Nat.zero_le _, Nat.zero_le _⟩ (Nat.le_of_ble_eq_true rfl) (dkX12_follows (3, .invokevirtual 322, 3) (pgm 3 rfl)) (fun r1 h2 => ?_) rfl
  refine sf_putI X ff_12_5 ft_12 rfl lk_1707 hk rfl rfl (dkX12_follows (6, .putfield 92, 3) (pgm 4 rfl)) (fun h3 => ?_)
  refine so_aload_n (i := 0) X 0 (dkX12_follows (9, .aload_n 0, 1) (pgm 5 rfl)) rfl rfl ?_
  refine sf_getI X ff_12_5 lk_1707 hk (dkX12_follows (10, .getfield 92, 3) (pgm 6 rfl)) ?_
  refine so_if_le (tgt := 18) X (dkX12_follows (13, .ifCond .le 5, 3) (pgm 7 rfl)) rfl (fun _ => ?_) (fun _ => ?_)
  · refine so_aload_n (i := 0) X 0 (dkX12_follows (18, .aload_n 0, 1) (pgm 10 rfl)) rfl rfl ?_
    refine so_callV (n := 0) (As := []) X (ct_X12_laysPlans l this h3 hk) hk (by decide) rfl lk_2010 lk_2012 lk_90 lk_134 lk_2013 (by decide +kernel) rfl rfl rfl (rm_ok (by omega) (by decide)) ⟨Nat.zero_le _, Nat.zero_le _⟩ (Nat.le_of_ble_eq_true rfl) (dkX12_follows (19, .invokevirtual 316, 3) (pgm 11 rfl)) (fun r4 h5 => ?_) rfl
    refine so_aload_n (i := 0) X 0 (dkX12_follows (22, .aload_n 0, 1) (pgm 12 rfl)) rfl rfl ?_
    refine sf_getR X ff_12_0 lk_1702 hk (dkX12_follows (23, .getfield 9, 3) (pgm 13 rfl)) ?_
    refine so_bipush (v := (7 : Int32)) X (dkX12_follows (26, .bipush 7, 2) (pgm 14 rfl)) bp_7 ?_
    refine so_iald X (rk_12_0 this hk) (dkX12_follows (28, .iaload, 1) (pgm 15 rfl)) (fun x6 => ?_)
    refine so_istore_n (i := 2) X (dkX12_follows (29, .istore_n 2, 1) (pgm 16 rfl)) rfl (by decide) (Lf := fun x7 => [(2, .int x7), (0, .ref this), (1, .int a1)]) (fun _ => rfl) (fun x7 => ?_)
    refine so_iconst (v := (0 : Int32)) X (dkX12_follows (30, .iconst 0, 1) (pgm 17 rfl)) ic_0 ?_
    refine so_istore_n (i := 3) X (dkX12_follows (31, .istore_n 3, 1) (pgm 18 rfl)) rfl (by decide) (Lf := fun x8 => [(3, .int x8), (2, .int x7), (0, .ref this), (1, .int a1)]) (fun _ => rfl) (fun x8 => ?_)
    refine so_pick (L' := [(0, .ref this), (1, .int a1), (2, .int x7), (3, .int x8)]) X [2, 3, 1, 0] rfl ?_
    refine so_loop (body := b_X12_follows_32 this a1) (fun (s32 : Int32 × Int32) => [(0, .ref this), (1, .int a1), (2, .int s32.1), (3, .int s32.2)]) (fun rec32 hrec32 s32 hh32 => ?_) FU (x7, x8) h5
    unfold b_X12_follows_32
    refine so_iload_n (i := 3) X 3 (dkX12_follows (32, .iload_n 3, 1) (pgm 19 rfl)) rfl rfl ?_
    refine so_aload_n (i := 0) X 0 (dkX12_follows (33, .aload_n 0, 1) (pgm 20 rfl)) rfl rfl ?_
    refine so_callV (n := 0) (As := []) X (ct_X12_everywhere l this hh32 hk) hk (by decide) rfl lk_1664 lk_1666 lk_56 lk_134 lk_1667 (by decide +kernel) rfl rfl rfl (rm_ok (by omega) (by decide)) ⟨Nat.zero_le _, Nat.zero_le _⟩ (Nat.le_of_ble_eq_true rfl) (dkX12_follows (34, .invokevirtual 252, 3) (pgm 21 rfl)) (fun r9 h10 => ?_) rfl
    refine so_icmp_gt (tgt := 78) X (dkX12_follows (37, .if_icmp .gt 41, 3) (pgm 22 rfl)) rfl (fun _ => ?_) (fun _ => ?_)
    · refine so_iload_n (i := 2) X 2 (dkX12_follows (78, .iload_n 2, 1) (pgm 45 rfl)) rfl rfl ?_
      refine so_iconst (v := (1 : Int32)) X (dkX12_follows (79, .iconst 1, 1) (pgm 46 rfl)) ic_1 ?_
      refine so_iload_n (i := 1) X 1 (dkX12_follows (80, .iload_n 1, 1) (pgm 47 rfl)) rfl rfl ?_
      refine so_ishl X (dkX12_follows (81, .ishl, 1) (pgm 48 rfl)) ?_
      refine so_iconst (v := (-1 : Int32)) X (dkX12_follows (82, .iconst (-1), 1) (pgm 49 rfl)) ic_m1 ?_
      refine so_ixor X (dkX12_follows (83, .ixor, 1) (pgm 50 rfl)) ?_
      refine so_iand X (dkX12_follows (84, .iand, 1) (pgm 51 rfl)) ?_
      exact so_iret X hr hlk (dkX12_follows (85, .ireturn, 1) (pgm 52 rfl))
    · refine so_aload_n (i := 0) X 0 (dkX12_follows (40, .aload_n 0, 1) (pgm 23 rfl)) rfl rfl ?_
      refine sf_getR X ff_12_21 lk_1723 hk (dkX12_follows (41, .getfield 43, 3) (pgm 24 rfl)) ?_
      refine so_iload_n (i := 3) X 3 (dkX12_follows (44, .iload_n 3, 1) (pgm 25 rfl)) rfl rfl ?_
      refine so_iald X (rk_12_21 this hk) (dkX12_follows (45, .iaload, 1) (pgm 26 rfl)) (fun x11 => ?_)
      refine so_iconst (v := (-1 : Int32)) X (dkX12_follows (46, .iconst (-1), 1) (pgm 27 rfl)) ic_m1 ?_
      refine so_join (jf := fun (y12 : Int32) (h13 : PH) => lt (s32.2 + Int32.ofInt 1) (fun (x14 : Int32) => rec32 (y12, x14) h13)) (fun (j : Int32 → PH → Option (Int32 × PH)) => ∀ (y12 : Int32) (h13 : PH), SWo (QM mkI below args s D cA ad A) p l e (rmd 5) s m args below meth c 0 0 4 D cA ad A 72 [(0, .ref this), (1, .int a1), (2, .int y12), (3, .int s32.2)] [] h13 (j y12 h13)) ?_ (fun j72 hj72 => ?_)
      · intro y12 h13
        refine so_iinc (i := 3) X 3 (dkX12_follows (72, .iinc 3 1, 3) (pgm 43 rfl)) rfl rfl (by decide) (Lf := fun x14 => [(3, .int x14), (0, .ref this), (1, .int a1), (2, .int y12)]) (fun _ => rfl) (fun x14 => ?_)
        refine so_goto (tgt := 32) X (dkX12_follows (75, .goto (-43), 3) (pgm 44 rfl)) rfl ?_
        exact so_pick X [1, 2, 3, 0] rfl (hrec32 (y12, x14) h13)
      refine so_icmp_eq (tgt := 72) X (dkX12_follows (47, .if_icmp .eq 25, 3) (pgm 28 rfl)) rfl (fun _ => ?_) (fun _ => ?_)
      · exact so_pick X [0, 1, 2, 3] rfl (hj72 s32.1 h10)
      · refine so_aload_n (i := 0) X 0 (dkX12_follows (50, .aload_n 0, 1) (pgm 29 rfl)) rfl rfl ?_
        refine sf_getR X ff_12_21 lk_1723 hk (dkX12_follows (51, .getfield 43, 3) (pgm 30 rfl)) ?_
        refine so_iload_n (i := 3) X 3 (dkX12_follows (54, .iload_n 3, 1) (pgm 31 rfl)) rfl rfl ?_
        refine so_iald X (rk_12_21 this hk) (dkX12_follows (55, .iaload, 1) (pgm 32 rfl)) (fun x15 => ?_)
        refine so_iload_n (i := 1) X 1 (dkX12_follows (56, .iload_n 1, 1) (pgm 33 rfl)) rfl rfl ?_
        refine so_callS (n := 2) (As := [.int x15, .int a1]) X (ct_X12_has l x15 a1 h10 ) lk_1676 lk_1677 lk_134 lk_1678 (by decide +kernel) rfl rfl rfl (rm_ok (by omega) (by decide)) ⟨Nat.zero_le _, Nat.zero_le _⟩ (Nat.le_of_ble_eq_true rfl) (dkX12_follows (57, .invokestatic 279, 3) (pgm 34 rfl)) (fun r16 h17 => ?_) rfl
        refine so_if_eq (tgt := 72) X (dkX12_follows (60, .ifCond .eq 12, 3) (pgm 35 rfl)) rfl (fun _ => ?_) (fun _ => ?_)
        · exact so_pick X [0, 1, 2, 3] rfl (hj72 s32.1 h17)
        · refine so_iload_n (i := 2) X 2 (dkX12_follows (63, .iload_n 2, 1) (pgm 36 rfl)) rfl rfl ?_
          refine so_aload_n (i := 0) X 0 (dkX12_follows (64, .aload_n 0, 1) (pgm 37 rfl)) rfl rfl ?_
          refine sf_getR X ff_12_21 lk_1723 hk (dkX12_follows (65, .getfield 43, 3) (pgm 38 rfl)) ?_
          refine so_iload_n (i := 3) X 3 (dkX12_follows (68, .iload_n 3, 1) (pgm 39 rfl)) rfl rfl ?_
          refine so_iald X (rk_12_21 this hk) (dkX12_follows (69, .iaload, 1) (pgm 40 rfl)) (fun x18 => ?_)
          refine so_iand X (dkX12_follows (70, .iand, 1) (pgm 41 rfl)) ?_
          refine so_istore_n (i := 2) X (dkX12_follows (71, .istore_n 2, 1) (pgm 42 rfl)) rfl (by decide) (Lf := fun x19 => [(2, .int x19), (0, .ref this), (1, .int a1), (3, .int s32.2)]) (fun _ => rfl) (fun x19 => ?_)
          exact so_pick X [1, 2, 0, 3] rfl (hj72 x19 h17)
  · refine so_iconst (v := (0 : Int32)) X (dkX12_follows (16, .iconst 0, 1) (pgm 8 rfl)) ic_0 ?_
    exact so_iret X hr hlk (dkX12_follows (17, .ireturn, 1) (pgm 9 rfl))
def pgX12_sure : List (Nat × Instr × Nat) := [(0, .aload_n 0, 1), (1, .iconst 0, 1), (2, .putfield 92, 3), (5, .aload_n 0, 1), (6, .iload_n 1, 1), (7, .invokevirtual 313, 3), (10, .ifCond .ne 9, 3), (13, .aload_n 0, 1), (14, .iconst 1, 1), (15, .invokevirtual 233, 3), (18, .ireturn, 1), (19, .aload_n 0, 1), (20, .invokevirtual 316, 3), (23, .aload_n 0, 1), (24, .getfield 46, 3), (27, .iload_n 1, 1), (28, .baload, 1), (29, .ifCond .ne 5, 3), (32, .iconst (-1), 1), (33, .ireturn, 1), (34, .aload_n 0, 1), (35, .invokevirtual 252, 3), (38, .istore_n 3, 1), (39, .iconst 0, 1), (40, .istore 4, 2), (42, .iload 4, 2), (44, .aload_n 0, 1), (45, .invokevirtual 252, 3), (48, .if_icmp .gt 60, 3), (51, .aload_n 0, 1), (52, .getfield 43, 3), (55, .iload 4, 2), (57, .iaload, 1), (58, .iconst (-1), 1), (59, .if_icmp .eq 43, 3), (62, .iload_n 1, 1), (63, .aload_n 0, 1), (64, .getfield 43, 3), (67, .iload 4, 2), (69, .iaload, 1), (70, .iconst (-1), 1), (71, .ixor, 1), (72, .iand, 1), (73, .ifCond .ne 29, 3), (76, .iload_n 3, 1), (77, .iload_n 2, 1), (78, .ifCond .eq 13, 3), (81, .aload_n 0, 1), (82, .getfield 37, 3), (85, .iload 4, 2), (87, .iaload, 1), (88, .goto 12, 3), (91, .aload_n 0, 1), (92, .getfield 37, 3), (95, .iload 4, 2), (97, .iaload, 1), (98, .iconst (-1), 1), (99, .ixor, 1), (100, .iand, 1), (101, .istore_n 3, 1), (102, .iinc 4 1, 3), (105, .goto (-63), 3), (108, .iload_n 3, 1), (109, .ireturn, 1)]
theorem dkX12_sure : ∀ q ∈ pgX12_sure, decode cX12_sure q.1 = .ok q.2 := by decide +kernel
def b_X12_sure_42 (this : Nat) (a1 : Int32) (a2 : Int32) (rec42 : (Int32 × Int32) → PH → Option (Int32 × PH)) (s42 : Int32 × Int32) (hh42 : PH) : Option (Int32 × PH) :=
  cb (f_X12_everywhere this hh42) (fun (r11 : Int32) (h12 : PH) => if r11 < s42.2 then (some (s42.1, h12)) else (ldI h12 (rt this 21) 4096 s42.2 (fun (x13 : Int32) => lt (fun (y14 : Int32) (h15 : PH) => lt (s42.2 + Int32.ofInt 1) (fun (x16 : Int32) => rec42 (y14, x16) h15)) (fun (j102 : Int32 → PH → Option (Int32 × PH)) => if x13 = (-1 : Int32) then (j102 s42.1 h12) else (ldI h12 (rt this 21) 4096 s42.2 (fun (x17 : Int32) => if (a1 &&& (x17 ^^^ (-1 : Int32))) = 0 then (lt (fun (t18 : Int32) (h19 : PH) => lt (s42.1 &&& t18) (fun (x20 : Int32) => j102 x20 h19)) (fun (j100 : Int32 → PH → Option (Int32 × PH)) => if a2 = 0 then (ldI h12 (rt this 19) 4096 s42.2 (fun (x21 : Int32) => j100 (x21 ^^^ (-1 : Int32)) h12)) else (ldI h12 (rt this 19) 4096 s42.2 (fun (x22 : Int32) => j100 x22 h12)))) else (j102 s42.1 h12)))))))
def f_X12_sure (this : Nat) (a1 : Int32) (a2 : Int32) (h0 : PH) : Option (Int32 × PH) :=
  lt (pI h0 this 5 (0 : Int32)) (fun (h1 : PH) => cb (f_X12_isAsked this a1 h1) (fun (r2 : Int32) (h3 : PH) => if r2 = 0 then (cb (f_X12_fails this (1 : Int32) h3) (fun (r23 : Int32) (h24 : PH) => some (r23, h24))) else (cb (f_X12_laysPlans this h3) (fun (r4 : Unit) (h5 : PH) => ldI h5 (rt this 22) 1024 a1 (fun (x6 : Int32) => if x6 = 0 then (some ((-1 : Int32), h5)) else (cb (f_X12_everywhere this h5) (fun (r7 : Int32) (h8 : PH) => lt r7 (fun (x9 : Int32) => lt (0 : Int32) (fun (x10 : Int32) => lp (b_X12_sure_42 this a1 a2) FU (x9, x10) h8)))))))))
set_option maxRecDepth 100000 in
set_option maxHeartbeats 4000000 in
theorem ct_X12_sure (l : Launch) (this : Nat) (a1 : Int32) (a2 : Int32) (h0 : PH) (hk : (kd this).1 = 12) : CT mkI l yX12_sure cX12_sure 5 (some .int) (rmd 5) [.ref this, .int a1, .int a2] h0 (f_X12_sure this a1 a2 h0) := by
  refine ct_of (by decide) (Nat.le_of_ble_eq_true rfl) ?_
  intro p e s m args below meth c D cA ad A X hr hlk
  have X : Cx p s m args c RX12 cX12_sure 5 D cA ad A := X
  unfold f_X12_sure
  refine so_pick (L' := [(0, .ref this), (1, .int a1), (2, .int a2)]) X [0, 1, 2] rfl ?_
  refine so_aload_n (i := 0) X 0 (dkX12_sure (0, .aload_n 0, 1) (pgm 0 rfl)) rfl rfl ?_
  refine so_iconst (v := (0 : Int32)) X (dkX12_sure (1, .iconst 0, 1) (pgm 1 rfl)) ic_0 ?_
  refine sf_putI X ff_12_5 ft_12 rfl lk_1707 hk rfl rfl (dkX12_sure (2, .putfield 92, 3) (pgm 2 rfl)) (fun h1 => ?_)
  refine so_aload_n (i := 0) X 0 (dkX12_sure (5, .aload_n 0, 1) (pgm 3 rfl)) rfl rfl ?_
  refine so_iload_n (i := 1) X 1 (dkX12_sure (6, .iload_n 1, 1) (pgm 4 rfl)) rfl rfl ?_
  refine so_callV (n := 1) (As := [.int a1]) X (ct_X12_isAsked l this a1 h1 hk) hk (by decide) rfl lk_2006 lk_2008 lk_89 lk_134 lk_2009 (by decide +kernel) rfl rfl rfl (rm_ok (by omega) (by decide)) ⟨Nat.zero_le _, Nat.zero_le _⟩ (Nat.le_of_ble_eq_true rfl) (dkX12_sure (7, .invokevirtual 313, 3) (pgm 5 rfl)) (fun r2 h3 => ?_) rfl
  refine so_if_ne (tgt := 19) X (dkX12_sure (10, .ifCond .ne 9, 3) (pgm 6 rfl)) rfl (fun _ => ?_) (fun _ => ?_)
  · refine so_aload_n (i := 0) X 0 (dkX12_sure (19, .aload_n 0, 1) (pgm 11 rfl)) rfl rfl ?_
    refine so_callV (n := 0) (As := []) X (ct_X12_laysPlans l this h3 hk) hk (by decide) rfl lk_2010 lk_2012 lk_90 lk_134 lk_2013 (by decide +kernel) rfl rfl rfl (rm_ok (by omega) (by decide)) ⟨Nat.zero_le _, Nat.zero_le _⟩ (Nat.le_of_ble_eq_true rfl) (dkX12_sure (20, .invokevirtual 316, 3) (pgm 12 rfl)) (fun r4 h5 => ?_) rfl
    refine so_aload_n (i := 0) X 0 (dkX12_sure (23, .aload_n 0, 1) (pgm 13 rfl)) rfl rfl ?_
    refine sf_getR X ff_12_22 lk_1724 hk (dkX12_sure (24, .getfield 46, 3) (pgm 14 rfl)) ?_
    refine so_iload_n (i := 1) X 1 (dkX12_sure (27, .iload_n 1, 1) (pgm 15 rfl)) rfl rfl ?_
    refine so_zald X (rk_12_22 this hk) (dkX12_sure (28, .baload, 1) (pgm 16 rfl)) (fun x6 => ?_)
    refine so_if_ne (tgt := 34) X (dkX12_sure (29, .ifCond .ne 5, 3) (pgm 17 rfl)) rfl (fun _ => ?_) (fun _ => ?_)
    · refine so_aload_n (i := 0) X 0 (dkX12_sure (34, .aload_n 0, 1) (pgm 20 rfl)) rfl rfl ?_
      refine so_callV (n := 0) (As := []) X (ct_X12_everywhere l this h5 hk) hk (by decide) rfl lk_1664 lk_1666 lk_56 lk_134 lk_1667 (by decide +kernel) rfl rfl rfl (rm_ok (by omega) (by decide)) ⟨Nat.zero_le _, Nat.zero_le _⟩ (Nat.le_of_ble_eq_true rfl) (dkX12_sure (35, .invokevirtual 252, 3) (pgm 21 rfl)) (fun r7 h8 => ?_) rfl
      refine so_istore_n (i := 3) X (dkX12_sure (38, .istore_n 3, 1) (pgm 22 rfl)) rfl (by decide) (Lf := fun x9 => [(3, .int x9), (0, .ref this), (1, .int a1), (2, .int a2)]) (fun _ => rfl) (fun x9 => ?_)
      refine so_iconst (v := (0 : Int32)) X (dkX12_sure (39, .iconst 0, 1) (pgm 23 rfl)) ic_0 ?_
      refine so_istore (i := 4) X (dkX12_sure (40, .istore 4, 2) (pgm 24 rfl)) (by decide) (Lf := fun x10 => [(4, .int x10), (3, .int x9), (0, .ref this), (1, .int a1), (2, .int a2)]) (fun _ => rfl) (fun x10 => ?_)
      refine so_pick (L' := [(0, .ref this), (1, .int a1), (2, .int a2), (3, .int x9), (4, .int x10)]) X [2, 3, 4, 1, 0] rfl ?_
      refine so_loop (body := b_X12_sure_42 this a1 a2) (fun (s42 : Int32 × Int32) => [(0, .ref this), (1, .int a1), (2, .int a2), (3, .int s42.1), (4, .int s42.2)]) (fun rec42 hrec42 s42 hh42 => ?_) FU (x9, x10) h8
      unfold b_X12_sure_42
      refine so_iload (i := 4) X 4 (dkX12_sure (42, .iload 4, 2) (pgm 25 rfl)) rfl ?_
      refine so_aload_n (i := 0) X 0 (dkX12_sure (44, .aload_n 0, 1) (pgm 26 rfl)) rfl rfl ?_
      refine so_callV (n := 0) (As := []) X (ct_X12_everywhere l this hh42 hk) hk (by decide) rfl lk_1664 lk_1666 lk_56 lk_134 lk_1667 (by decide +kernel) rfl rfl rfl (rm_ok (by omega) (by decide)) ⟨Nat.zero_le _, Nat.zero_le _⟩ (Nat.le_of_ble_eq_true rfl) (dkX12_sure (45, .invokevirtual 252, 3) (pgm 27 rfl)) (fun r11 h12 => ?_) rfl
      refine so_icmp_gt (tgt := 108) X (dkX12_sure (48, .if_icmp .gt 60, 3) (pgm 28 rfl)) rfl (fun _ => ?_) (fun _ => ?_)
      · refine so_iload_n (i := 3) X 3 (dkX12_sure (108, .iload_n 3, 1) (pgm 62 rfl)) rfl rfl ?_
        exact so_iret X hr hlk (dkX12_sure (109, .ireturn, 1) (pgm 63 rfl))
      · refine so_aload_n (i := 0) X 0 (dkX12_sure (51, .aload_n 0, 1) (pgm 29 rfl)) rfl rfl ?_
        refine sf_getR X ff_12_21 lk_1723 hk (dkX12_sure (52, .getfield 43, 3) (pgm 30 rfl)) ?_
        refine so_iload (i := 4) X 4 (dkX12_sure (55, .iload 4, 2) (pgm 31 rfl)) rfl ?_
        refine so_iald X (rk_12_21 this hk) (dkX12_sure (57, .iaload, 1) (pgm 32 rfl)) (fun x13 => ?_)
        refine so_iconst (v := (-1 : Int32)) X (dkX12_sure (58, .iconst (-1), 1) (pgm 33 rfl)) ic_m1 ?_
        refine so_join (jf := fun (y14 : Int32) (h15 : PH) => lt (s42.2 + Int32.ofInt 1) (fun (x16 : Int32) => rec42 (y14, x16) h15)) (fun (j : Int32 → PH → Option (Int32 × PH)) => ∀ (y14 : Int32) (h15 : PH), SWo (QM mkI below args s D cA ad A) p l e (rmd 5) s m args below meth c 0 0 5 D cA ad A 102 [(0, .ref this), (1, .int a1), (2, .int a2), (3, .int y14), (4, .int s42.2)] [] h15 (j y14 h15)) ?_ (fun j102 hj102 => ?_)
        · intro y14 h15
          refine so_iinc (i := 4) X 4 (dkX12_sure (102, .iinc 4 1, 3) (pgm 60 rfl)) rfl rfl (by decide) (Lf := fun x16 => [(4, .int x16), (0, .ref this), (1, .int a1), (2, .int a2), (3, .int y14)]) (fun _ => rfl) (fun x16 => ?_)
          refine so_goto (tgt := 42) X (dkX12_sure (105, .goto (-63), 3) (pgm 61 rfl)) rfl ?_
          exact so_pick X [1, 2, 3, 4, 0] rfl (hrec42 (y14, x16) h15)
        refine so_icmp_eq (tgt := 102) X (dkX12_sure (59, .if_icmp .eq 43, 3) (pgm 34 rfl)) rfl (fun _ => ?_) (fun _ => ?_)
        · exact so_pick X [0, 1, 2, 3, 4] rfl (hj102 s42.1 h12)
        · refine so_iload_n (i := 1) X 1 (dkX12_sure (62, .iload_n 1, 1) (pgm 35 rfl)) rfl rfl ?_
          refine so_aload_n (i := 0) X 0 (dkX12_sure (63, .aload_n 0, 1) (pgm 36 rfl)) rfl rfl ?_
          refine sf_getR X ff_12_21 lk_1723 hk (dkX12_sure (64, .getfield 43, 3) (pgm 37 rfl)) ?_
          refine so_iload (i := 4) X 4 (dkX12_sure (67, .iload 4, 2) (pgm 38 rfl)) rfl ?_
          refine so_iald X (rk_12_21 this hk) (dkX12_sure (69, .iaload, 1) (pgm 39 rfl)) (fun x17 => ?_)
          refine so_iconst (v := (-1 : Int32)) X (dkX12_sure (70, .iconst (-1), 1) (pgm 40 rfl)) ic_m1 ?_
          refine so_ixor X (dkX12_sure (71, .ixor, 1) (pgm 41 rfl)) ?_
          refine so_iand X (dkX12_sure (72, .iand, 1) (pgm 42 rfl)) ?_
          refine so_if_ne (tgt := 102) X (dkX12_sure (73, .ifCond .ne 29, 3) (pgm 43 rfl)) rfl (fun _ => ?_) (fun _ => ?_)
          · exact so_pick X [0, 1, 2, 3, 4] rfl (hj102 s42.1 h12)
          · refine so_iload_n (i := 3) X 3 (dkX12_sure (76, .iload_n 3, 1) (pgm 44 rfl)) rfl rfl ?_
            refine so_iload_n (i := 2) X 2 (dkX12_sure (77, .iload_n 2, 1) (pgm 45 rfl)) rfl rfl ?_
            refine so_join (jf := fun (t18 : Int32) (h19 : PH) => lt (s42.1 &&& t18) (fun (x20 : Int32) => j102 x20 h19)) (fun (j : Int32 → PH → Option (Int32 × PH)) => ∀ (t18 : Int32) (h19 : PH), SWo (QM mkI below args s D cA ad A) p l e (rmd 5) s m args below meth c 0 0 5 D cA ad A 100 [(0, .ref this), (1, .int a1), (2, .int a2), (4, .int s42.2)] [.int t18, .int s42.1] h19 (j t18 h19)) ?_ (fun j100 hj100 => ?_)
            · intro t18 h19
              refine so_iand X (dkX12_sure (100, .iand, 1) (pgm 58 rfl)) ?_
              refine so_istore_n (i := 3) X (dkX12_sure (101, .istore_n 3, 1) (pgm 59 rfl)) rfl (by decide) (Lf := fun x20 => [(3, .int x20), (0, .ref this), (1, .int a1), (2, .int a2), (4, .int s42.2)]) (fun _ => rfl) (fun x20 => ?_)
              exact so_pick X [1, 2, 3, 0, 4] rfl (hj102 x20 h19)
            refine so_if_eq (tgt := 91) X (dkX12_sure (78, .ifCond .eq 13, 3) (pgm 46 rfl)) rfl (fun _ => ?_) (fun _ => ?_)
            · refine so_aload_n (i := 0) X 0 (dkX12_sure (91, .aload_n 0, 1) (pgm 52 rfl)) rfl rfl ?_
              refine sf_getR X ff_12_19 lk_1721 hk (dkX12_sure (92, .getfield 37, 3) (pgm 53 rfl)) ?_
              refine so_iload (i := 4) X 4 (dkX12_sure (95, .iload 4, 2) (pgm 54 rfl)) rfl ?_
              refine so_iald X (rk_12_19 this hk) (dkX12_sure (97, .iaload, 1) (pgm 55 rfl)) (fun x21 => ?_)
              refine so_iconst (v := (-1 : Int32)) X (dkX12_sure (98, .iconst (-1), 1) (pgm 56 rfl)) ic_m1 ?_
              refine so_ixor X (dkX12_sure (99, .ixor, 1) (pgm 57 rfl)) ?_
              exact so_pick X [0, 1, 2, 4] rfl (hj100 (x21 ^^^ (-1 : Int32)) h12)
            · refine so_aload_n (i := 0) X 0 (dkX12_sure (81, .aload_n 0, 1) (pgm 47 rfl)) rfl rfl ?_
              refine sf_getR X ff_12_19 lk_1721 hk (dkX12_sure (82, .getfield 37, 3) (pgm 48 rfl)) ?_
              refine so_iload (i := 4) X 4 (dkX12_sure (85, .iload 4, 2) (pgm 49 rfl)) rfl ?_
              refine so_iald X (rk_12_19 this hk) (dkX12_sure (87, .iaload, 1) (pgm 50 rfl)) (fun x22 => ?_)
              refine so_goto (tgt := 100) X (dkX12_sure (88, .goto 12, 3) (pgm 51 rfl)) rfl ?_
              exact so_pick X [0, 1, 2, 4] rfl (hj100 x22 h12)
    · refine so_iconst (v := (-1 : Int32)) X (dkX12_sure (32, .iconst (-1), 1) (pgm 18 rfl)) ic_m1 ?_
      exact so_iret X hr hlk (dkX12_sure (33, .ireturn, 1) (pgm 19 rfl))
  · refine so_aload_n (i := 0) X 0 (dkX12_sure (13, .aload_n 0, 1) (pgm 7 rfl)) rfl rfl ?_
    refine so_iconst (v := (1 : Int32)) X (dkX12_sure (14, .iconst 1, 1) (pgm 8 rfl)) ic_1 ?_
    refine so_callV (n := 1) (As := [.int (1 : Int32)]) X (ct_X12_fails l this (1 : Int32) h3 hk) hk (by decide) rfl lk_1835 lk_1837 lk_61 lk_134 lk_1838 (by decide +kernel) rfl rfl rfl (rm_ok (by omega) (by decide)) ⟨Nat.zero_le _, Nat.zero_le _⟩ (Nat.le_of_ble_eq_true rfl) (dkX12_sure (15, .invokevirtual 233, 3) (pgm 9 rfl)) (fun r23 h24 => ?_) rfl
    exact so_iret X hr hlk (dkX12_sure (18, .ireturn, 1) (pgm 10 rfl))
def pgX12_power : List (Nat × Instr × Nat) := [(0, .lconst 1, 1), (1, .lstore_n 3, 1), (2, .iconst 0, 1), (3, .istore 5, 2), (5, .iload 5, 2), (7, .iload_n 2, 1), (8, .if_icmp .ge 13, 3), (11, .lload_n 3, 1), (12, .lload_n 0, 1), (13, .lmul, 1), (14, .lstore_n 3, 1), (15, .iinc 5 1, 3), (18, .goto (-13), 3), (21, .lload_n 3, 1), (22, .lreturn, 1)]
theorem dkX12_power : ∀ q ∈ pgX12_power, decode cX12_power q.1 = .ok q.2 := by decide +kernel
def b_X12_power_5 (a1 : Int64) (a2 : Int32) (rec5 : (Int64 × Int32) → PH → Option (Int64 × PH)) (s5 : Int64 × Int32) (hh5 : PH) : Option (Int64 × PH) :=
  if a2 ≤ s5.2 then (some (s5.1, hh5)) else (lt (s5.1 * a1) (fun (x3 : Int64) => lt (s5.2 + Int32.ofInt 1) (fun (x4 : Int32) => rec5 (x3, x4) hh5)))
def f_X12_power (a1 : Int64) (a2 : Int32) (h0 : PH) : Option (Int64 × PH) :=
  lt (1 : Int64) (fun (x1 : Int64) => lt (0 : Int32) (fun (x2 : Int32) => lp (b_X12_power_5 a1 a2) FU (x1, x2) h0))
set_option maxRecDepth 100000 in
set_option maxHeartbeats 4000000 in
theorem ct_X12_power (l : Launch) (a1 : Int64) (a2 : Int32) (h0 : PH)  : CT mkL l yX12_power cX12_power 6 (some .long) (rmd 0) [.long a1, .int a2] h0 (f_X12_power a1 a2 h0) := by
  refine ct_of (by decide) (Nat.le_of_ble_eq_true rfl) ?_
  intro p e s m args below meth c D cA ad A X hr hlk
  have X : Cx p s m args c RX12 cX12_power 6 D cA ad A := X
  unfold f_X12_power
  refine so_pick (L' := [(0, .long a1), (2, .int a2)]) X [0, 1] rfl ?_
  refine so_lconst (v := (1 : Int64)) X (dkX12_power (0, .lconst 1, 1) (pgm 0 rfl)) lc_1 ?_
  refine so_lstore_n (i := 3) X (dkX12_power (1, .lstore_n 3, 1) (pgm 1 rfl)) rfl (by decide) (Lf := fun x1 => [(3, .long x1), (0, .long a1), (2, .int a2)]) (fun _ => rfl) (fun x1 => ?_)
  refine so_iconst (v := (0 : Int32)) X (dkX12_power (2, .iconst 0, 1) (pgm 2 rfl)) ic_0 ?_
  refine so_istore (i := 5) X (dkX12_power (3, .istore 5, 2) (pgm 3 rfl)) (by decide) (Lf := fun x2 => [(5, .int x2), (3, .long x1), (0, .long a1), (2, .int a2)]) (fun _ => rfl) (fun x2 => ?_)
  refine so_pick (L' := [(0, .long a1), (2, .int a2), (3, .long x1), (5, .int x2)]) X [2, 3, 1, 0] rfl ?_
  refine so_loop (body := b_X12_power_5 a1 a2) (fun (s5 : Int64 × Int32) => [(0, .long a1), (2, .int a2), (3, .long s5.1), (5, .int s5.2)]) (fun rec5 hrec5 s5 hh5 => ?_) FU (x1, x2) h0
  unfold b_X12_power_5
  refine so_iload (i := 5) X 3 (dkX12_power (5, .iload 5, 2) (pgm 4 rfl)) rfl ?_
  refine so_iload_n (i := 2) X 1 (dkX12_power (7, .iload_n 2, 1) (pgm 5 rfl)) rfl rfl ?_
  refine so_icmp_ge (tgt := 21) X (dkX12_power (8, .if_icmp .ge 13, 3) (pgm 6 rfl)) rfl (fun _ => ?_) (fun _ => ?_)
  · refine so_lload_n (i := 3) X 2 (dkX12_power (21, .lload_n 3, 1) (pgm 13 rfl)) rfl rfl ?_
    exact so_lret X hr hlk (dkX12_power (22, .lreturn, 1) (pgm 14 rfl))
  · refine so_lload_n (i := 3) X 2 (dkX12_power (11, .lload_n 3, 1) (pgm 7 rfl)) rfl rfl ?_
    refine so_lload_n (i := 0) X 0 (dkX12_power (12, .lload_n 0, 1) (pgm 8 rfl)) rfl rfl ?_
    refine so_lmul X (dkX12_power (13, .lmul, 1) (pgm 9 rfl)) ?_
    refine so_lstore_n (i := 3) X (dkX12_power (14, .lstore_n 3, 1) (pgm 10 rfl)) rfl (by decide) (Lf := fun x3 => [(3, .long x3), (0, .long a1), (2, .int a2), (5, .int s5.2)]) (fun _ => rfl) (fun x3 => ?_)
    refine so_iinc (i := 5) X 3 (dkX12_power (15, .iinc 5 1, 3) (pgm 11 rfl)) rfl rfl (by decide) (Lf := fun x4 => [(5, .int x4), (3, .long x3), (0, .long a1), (2, .int a2)]) (fun _ => rfl) (fun x4 => ?_)
    refine so_goto (tgt := 5) X (dkX12_power (18, .goto (-13), 3) (pgm 12 rfl)) rfl ?_
    exact so_pick X [2, 3, 1, 0] rfl (hrec5 (x3, x4) hh5)
def pgX12_expects : List (Nat × Instr × Nat) := [(0, .lconst 0, 1), (1, .lstore_n 3, 1), (2, .iconst 0, 1), (3, .istore 5, 2), (5, .iload 5, 2), (7, .iload_n 1, 1), (8, .if_icmp .gt 74, 3), (11, .iload 5, 2), (13, .iload_n 1, 1), (14, .iconst (-1), 1), (15, .ixor, 1), (16, .iand, 1), (17, .ifCond .eq 6, 3), (20, .goto 56, 3), (23, .iload_n 2, 1), (24, .i2l, 1), (25, .iload 5, 2), (27, .invokestatic 269, 3), (30, .invokestatic 332, 3), (33, .bipush 100, 2), (35, .iload_n 2, 1), (36, .isub, 1), (37, .i2l, 1), (38, .iload_n 1, 1), (39, .invokestatic 269, 3), (42, .iload 5, 2), (44, .invokestatic 269, 3), (47, .isub, 1), (48, .invokestatic 332, 3), (51, .lmul, 1), (52, .lstore 6, 2), (54, .lload_n 3, 1), (55, .lload 6, 2), (57, .aload_n 0, 1), (58, .aload_n 0, 1), (59, .aload_n 0, 1), (60, .getfield 37, 3), (63, .iload 5, 2), (65, .iaload, 1), (66, .invokevirtual 302, 3), (69, .invokevirtual 327, 3), (72, .i2l, 1), (73, .lmul, 1), (74, .ladd, 1), (75, .lstore_n 3, 1), (76, .iinc 5 1, 3), (79, .goto (-74), 3), (82, .lload_n 3, 1), (83, .lreturn, 1)]
theorem dkX12_expects : ∀ q ∈ pgX12_expects, decode cX12_expects q.1 = .ok q.2 := by decide +kernel
def b_X12_expects_5 (this : Nat) (a1 : Int32) (a2 : Int32) (rec5 : (Int64 × Int32) → PH → Option (Int64 × PH)) (s5 : Int64 × Int32) (hh5 : PH) : Option (Int64 × PH) :=
  if a1 < s5.2 then (some (s5.1, hh5)) else (lt (fun (y3 : Int64) (h4 : PH) => lt (s5.2 + Int32.ofInt 1) (fun (x5 : Int32) => rec5 (y3, x5) h4)) (fun (j76 : Int64 → PH → Option (Int64 × PH)) => if (s5.2 &&& (a1 ^^^ (-1 : Int32))) = 0 then (cb (f_X12_size s5.2 hh5) (fun (r6 : Int32) (h7 : PH) => cb (f_X12_power a2.toInt64 r6 h7) (fun (r8 : Int64) (h9 : PH) => cb (f_X12_size a1 h9) (fun (r10 : Int32) (h11 : PH) => cb (f_X12_size s5.2 h11) (fun (r12 : Int32) (h13 : PH) => cb (f_X12_power (((100 : Int32) - a2).toInt64) (r10 - r12) h13) (fun (r14 : Int64) (h15 : PH) => lt (r8 * r14) (fun (x16 : Int64) => ldI h15 (rt this 19) 4096 s5.2 (fun (x17 : Int32) => cb (f_X12_grantedIn this x17 h15) (fun (r18 : Int32) (h19 : PH) => cb (f_X12_weight this r18 h19) (fun (r20 : Int32) (h21 : PH) => lt (s5.1 + (x16 * r20.toInt64)) (fun (x22 : Int64) => j76 x22 h21))))))))))) else (j76 s5.1 hh5)))
def f_X12_expects (this : Nat) (a1 : Int32) (a2 : Int32) (h0 : PH) : Option (Int64 × PH) :=
  lt (0 : Int64) (fun (x1 : Int64) => lt (0 : Int32) (fun (x2 : Int32) => lp (b_X12_expects_5 this a1 a2) FU (x1, x2) h0))
set_option maxRecDepth 100000 in
set_option maxHeartbeats 4000000 in
theorem ct_X12_expects (l : Launch) (this : Nat) (a1 : Int32) (a2 : Int32) (h0 : PH) (hk : (kd this).1 = 12) : CT mkL l yX12_expects cX12_expects 8 (some .long) (rmd 3) [.ref this, .int a1, .int a2] h0 (f_X12_expects this a1 a2 h0) := by
  refine ct_of (by decide) (Nat.le_of_ble_eq_true rfl) ?_
  intro p e s m args below meth c D cA ad A X hr hlk
  have X : Cx p s m args c RX12 cX12_expects 8 D cA ad A := X
  unfold f_X12_expects
  refine so_pick (L' := [(0, .ref this), (1, .int a1), (2, .int a2)]) X [0, 1, 2] rfl ?_
  refine so_lconst (v := (0 : Int64)) X (dkX12_expects (0, .lconst 0, 1) (pgm 0 rfl)) lc_0 ?_
  refine so_lstore_n (i := 3) X (dkX12_expects (1, .lstore_n 3, 1) (pgm 1 rfl)) rfl (by decide) (Lf := fun x1 => [(3, .long x1), (0, .ref this), (1, .int a1), (2, .int a2)]) (fun _ => rfl) (fun x1 => ?_)
  refine so_iconst (v := (0 : Int32)) X (dkX12_expects (2, .iconst 0, 1) (pgm 2 rfl)) ic_0 ?_
  refine so_istore (i := 5) X (dkX12_expects (3, .istore 5, 2) (pgm 3 rfl)) (by decide) (Lf := fun x2 => [(5, .int x2), (3, .long x1), (0, .ref this), (1, .int a1), (2, .int a2)]) (fun _ => rfl) (fun x2 => ?_)
  refine so_pick (L' := [(0, .ref this), (1, .int a1), (2, .int a2), (3, .long x1), (5, .int x2)]) X [2, 3, 4, 1, 0] rfl ?_
  refine so_loop (body := b_X12_expects_5 this a1 a2) (fun (s5 : Int64 × Int32) => [(0, .ref this), (1, .int a1), (2, .int a2), (3, .long s5.1), (5, .int s5.2)]) (fun rec5 hrec5 s5 hh5 => ?_) FU (x1, x2) h0
  unfold b_X12_expects_5
  refine so_iload (i := 5) X 4 (dkX12_expects (5, .iload 5, 2) (pgm 4 rfl)) rfl ?_
  refine so_iload_n (i := 1) X 1 (dkX12_expects (7, .iload_n 1, 1) (pgm 5 rfl)) rfl rfl ?_
  refine so_icmp_gt (tgt := 82) X (dkX12_expects (8, .if_icmp .gt 74, 3) (pgm 6 rfl)) rfl (fun _ => ?_) (fun _ => ?_)
  · refine so_lload_n (i := 3) X 3 (dkX12_expects (82, .lload_n 3, 1) (pgm 47 rfl)) rfl rfl ?_
    exact so_lret X hr hlk (dkX12_expects (83, .lreturn, 1) (pgm 48 rfl))
  · refine so_iload (i := 5) X 4 (dkX12_expects (11, .iload 5, 2) (pgm 7 rfl)) rfl ?_
    refine so_iload_n (i := 1) X 1 (dkX12_expects (13, .iload_n 1, 1) (pgm 8 rfl)) rfl rfl ?_
    refine so_iconst (v := (-1 : Int32)) X (dkX12_expects (14, .iconst (-1), 1) (pgm 9 rfl)) ic_m1 ?_
    refine so_ixor X (dkX12_expects (15, .ixor, 1) (pgm 10 rfl)) ?_
    refine so_iand X (dkX12_expects (16, .iand, 1) (pgm 11 rfl)) ?_
    refine so_join (jf := fun (y3 : Int64) (h4 : PH) => lt (s5.2 + Int32.ofInt 1) (fun (x5 : Int32) => rec5 (y3, x5) h4)) (fun (j : Int64 → PH → Option (Int64 × PH)) => ∀ (y3 : Int64) (h4 : PH), SWo (QM mkL below args s D cA ad A) p l e (rmd 3) s m args below meth c 0 0 8 D cA ad A 76 [(0, .ref this), (1, .int a1), (2, .int a2), (3, .long y3), (5, .int s5.2)] [] h4 (j y3 h4)) ?_ (fun j76 hj76 => ?_)
    · intro y3 h4
      refine so_iinc (i := 5) X 4 (dkX12_expects (76, .iinc 5 1, 3) (pgm 45 rfl)) rfl rfl (by decide) (Lf := fun x5 => [(5, .int x5), (0, .ref this), (1, .int a1), (2, .int a2), (3, .long y3)]) (fun _ => rfl) (fun x5 => ?_)
      refine so_goto (tgt := 5) X (dkX12_expects (79, .goto (-74), 3) (pgm 46 rfl)) rfl ?_
      exact so_pick X [1, 2, 3, 4, 0] rfl (hrec5 (y3, x5) h4)
    refine so_if_eq (tgt := 23) X (dkX12_expects (17, .ifCond .eq 6, 3) (pgm 12 rfl)) rfl (fun _ => ?_) (fun _ => ?_)
    · refine so_iload_n (i := 2) X 2 (dkX12_expects (23, .iload_n 2, 1) (pgm 14 rfl)) rfl rfl ?_
      refine so_i2l X (dkX12_expects (24, .i2l, 1) (pgm 15 rfl)) ?_
      refine so_iload (i := 5) X 4 (dkX12_expects (25, .iload 5, 2) (pgm 16 rfl)) rfl ?_
      refine so_callS (n := 1) (As := [.int s5.2]) X (ct_X12_size l s5.2 hh5 ) lk_1687 lk_1688 lk_134 lk_1689 (by decide +kernel) rfl rfl rfl (rm_ok (by omega) (by decide)) ⟨Nat.zero_le _, Nat.zero_le _⟩ (Nat.le_of_ble_eq_true rfl) (dkX12_expects (27, .invokestatic 269, 3) (pgm 17 rfl)) (fun r6 h7 => ?_) rfl
      refine so_callS (n := 2) (As := [.long a2.toInt64, .int r6]) X (ct_X12_power l a2.toInt64 r6 h7 ) lk_2068 lk_2069 lk_134 lk_2070 (by decide +kernel) rfl rfl rfl (rm_ok (by omega) (by decide)) ⟨Nat.zero_le _, Nat.zero_le _⟩ (Nat.le_of_ble_eq_true rfl) (dkX12_expects (30, .invokestatic 332, 3) (pgm 18 rfl)) (fun r8 h9 => ?_) rfl
      refine so_bipush (v := (100 : Int32)) X (dkX12_expects (33, .bipush 100, 2) (pgm 19 rfl)) bp_100 ?_
      refine so_iload_n (i := 2) X 2 (dkX12_expects (35, .iload_n 2, 1) (pgm 20 rfl)) rfl rfl ?_
      refine so_isub X (dkX12_expects (36, .isub, 1) (pgm 21 rfl)) ?_
      refine so_i2l X (dkX12_expects (37, .i2l, 1) (pgm 22 rfl)) ?_
      refine so_iload_n (i := 1) X 1 (dkX12_expects (38, .iload_n 1, 1) (pgm 23 rfl)) rfl rfl ?_
      refine so_callS (n := 1) (As := [.int a1]) X (ct_X12_size l a1 h9 ) lk_1687 lk_1688 lk_134 lk_1689 (by decide +kernel) rfl rfl rfl (rm_ok (by omega) (by decide)) ⟨Nat.zero_le _, Nat.zero_le _⟩ (Nat.le_of_ble_eq_true rfl) (dkX12_expects (39, .invokestatic 269, 3) (pgm 24 rfl)) (fun r10 h11 => ?_) rfl
      refine so_iload (i := 5) X 4 (dkX12_expects (42, .iload 5, 2) (pgm 25 rfl)) rfl ?_
      refine so_callS (n := 1) (As := [.int s5.2]) X (ct_X12_size l s5.2 h11 ) lk_1687 lk_1688 lk_134 lk_1689 (by decide +kernel) rfl rfl rfl (rm_ok (by omega) (by decide)) ⟨Nat.zero_le _, Nat.zero_le _⟩ (Nat.le_of_ble_eq_true rfl) (dkX12_expects (44, .invokestatic 269, 3) (pgm 26 rfl)) (fun r12 h13 => ?_) rfl
      refine so_isub X (dkX12_expects (47, .isub, 1) (pgm 27 rfl)) ?_
      refine so_callS (n := 2) (As := [.long (((100 : Int32) - a2).toInt64), .int (r10 - r12)]) X (ct_X12_power l (((100 : Int32) - a2).toInt64) (r10 - r12) h13 ) lk_2068 lk_2069 lk_134 lk_2070 (by decide +kernel) rfl rfl rfl (rm_ok (by omega) (by decide)) ⟨Nat.zero_le _, Nat.zero_le _⟩ (Nat.le_of_ble_eq_true rfl) (dkX12_expects (48, .invokestatic 332, 3) (pgm 28 rfl)) (fun r14 h15 => ?_) rfl
      refine so_lmul X (dkX12_expects (51, .lmul, 1) (pgm 29 rfl)) ?_
      refine so_lstore (i := 6) X (dkX12_expects (52, .lstore 6, 2) (pgm 30 rfl)) (by decide) (Lf := fun x16 => [(6, .long x16), (0, .ref this), (1, .int a1), (2, .int a2), (3, .long s5.1), (5, .int s5.2)]) (fun _ => rfl) (fun x16 => ?_)
      refine so_lload_n (i := 3) X 4 (dkX12_expects (54, .lload_n 3, 1) (pgm 31 rfl)) rfl rfl ?_
      refine so_lload (i := 6) X 0 (dkX12_expects (55, .lload 6, 2) (pgm 32 rfl)) rfl ?_
      refine so_aload_n (i := 0) X 1 (dkX12_expects (57, .aload_n 0, 1) (pgm 33 rfl)) rfl rfl ?_
      refine so_aload_n (i := 0) X 1 (dkX12_expects (58, .aload_n 0, 1) (pgm 34 rfl)) rfl rfl ?_
      refine so_aload_n (i := 0) X 1 (dkX12_expects (59, .aload_n 0, 1) (pgm 35 rfl)) rfl rfl ?_
      refine sf_getR X ff_12_19 lk_1721 hk (dkX12_expects (60, .getfield 37, 3) (pgm 36 rfl)) ?_
      refine so_iload (i := 5) X 5 (dkX12_expects (63, .iload 5, 2) (pgm 37 rfl)) rfl ?_
      refine so_iald X (rk_12_19 this hk) (dkX12_expects (65, .iaload, 1) (pgm 38 rfl)) (fun x17 => ?_)
      refine so_callV (n := 1) (As := [.int x17]) X (ct_X12_grantedIn l this x17 h15 hk) hk (by decide) rfl lk_1990 lk_1992 lk_88 lk_134 lk_1993 (by decide +kernel) rfl rfl rfl (rm_ok (by omega) (by decide)) ⟨Nat.zero_le _, Nat.zero_le _⟩ (Nat.le_of_ble_eq_true rfl) (dkX12_expects (66, .invokevirtual 302, 3) (pgm 39 rfl)) (fun r18 h19 => ?_) rfl
      refine so_callV (n := 1) (As := [.int r18]) X (ct_X12_weight l this r18 h19 hk) hk (by decide) rfl lk_2035 lk_2037 lk_93 lk_134 lk_2038 (by decide +kernel) rfl rfl rfl (rm_ok (by omega) (by decide)) ⟨Nat.zero_le _, Nat.zero_le _⟩ (Nat.le_of_ble_eq_true rfl) (dkX12_expects (69, .invokevirtual 327, 3) (pgm 40 rfl)) (fun r20 h21 => ?_) rfl
      refine so_i2l X (dkX12_expects (72, .i2l, 1) (pgm 41 rfl)) ?_
      refine so_lmul X (dkX12_expects (73, .lmul, 1) (pgm 42 rfl)) ?_
      refine so_ladd X (dkX12_expects (74, .ladd, 1) (pgm 43 rfl)) ?_
      refine so_lstore_n (i := 3) X (dkX12_expects (75, .lstore_n 3, 1) (pgm 44 rfl)) rfl (by decide) (Lf := fun x22 => [(3, .long x22), (6, .long x16), (0, .ref this), (1, .int a1), (2, .int a2), (5, .int s5.2)]) (fun _ => rfl) (fun x22 => ?_)
      exact so_pick X [2, 3, 4, 0, 5] rfl (hj76 x22 h21)
    · refine so_goto (tgt := 76) X (dkX12_expects (20, .goto 56, 3) (pgm 13 rfl)) rfl ?_
      exact so_pick X [0, 1, 2, 3, 4] rfl (hj76 s5.1 hh5)
def pgX12_expected : List (Nat × Instr × Nat) := [(0, .aload_n 0, 1), (1, .iconst 0, 1), (2, .putfield 92, 3), (5, .aload_n 0, 1), (6, .iload_n 1, 1), (7, .i2l, 1), (8, .invokevirtual 295, 3), (11, .ifCond .eq 23, 3), (14, .iload_n 1, 1), (15, .invokestatic 269, 3), (18, .iconst 4, 1), (19, .if_icmp .gt 15, 3), (22, .iload_n 2, 1), (23, .i2l, 1), (24, .lconst 0, 1), (25, .ldc2_w 336, 3), (28, .invokestatic 156, 3), (31, .ifCond .ne 10, 3), (34, .aload_n 0, 1), (35, .iconst 1, 1), (36, .invokevirtual 233, 3), (39, .i2l, 1), (40, .lreturn, 1), (41, .aload_n 0, 1), (42, .iload_n 1, 1), (43, .iload_n 2, 1), (44, .invokevirtual 338, 3), (47, .lreturn, 1)]
theorem dkX12_expected : ∀ q ∈ pgX12_expected, decode cX12_expected q.1 = .ok q.2 := by decide +kernel
def f_X12_expected (this : Nat) (a1 : Int32) (a2 : Int32) (h0 : PH) : Option (Int64 × PH) :=
  lt (pI h0 this 5 (0 : Int32)) (fun (h1 : PH) => cb (f_X12_isSky this a1.toInt64 h1) (fun (r2 : Int32) (h3 : PH) => lt (fun (h4 : PH) => cb (f_X12_fails this (1 : Int32) h4) (fun (r5 : Int32) (h6 : PH) => some (r5.toInt64, h6))) (fun (j34 : PH → Option (Int64 × PH)) => if r2 = 0 then (j34 h3) else (cb (f_X12_size a1 h3) (fun (r7 : Int32) (h8 : PH) => if (4 : Int32) < r7 then (j34 h8) else (cb (f_X12_within a2.toInt64 (0 : Int64) (100 : Int64) h8) (fun (r9 : Int32) (h10 : PH) => if r9 = 0 then (j34 h10) else (cb (f_X12_expects this a1 a2 h10) (fun (r11 : Int64) (h12 : PH) => some (r11, h12))))))))))
set_option maxRecDepth 100000 in
set_option maxHeartbeats 4000000 in
theorem ct_X12_expected (l : Launch) (this : Nat) (a1 : Int32) (a2 : Int32) (h0 : PH) (hk : (kd this).1 = 12) : CT mkL l yX12_expected cX12_expected 3 (some .long) (rmd 4) [.ref this, .int a1, .int a2] h0 (f_X12_expected this a1 a2 h0) := by
  refine ct_of (by decide) (Nat.le_of_ble_eq_true rfl) ?_
  intro p e s m args below meth c D cA ad A X hr hlk
  have X : Cx p s m args c RX12 cX12_expected 3 D cA ad A := X
  unfold f_X12_expected
  refine so_pick (L' := [(0, .ref this), (1, .int a1), (2, .int a2)]) X [0, 1, 2] rfl ?_
  refine so_aload_n (i := 0) X 0 (dkX12_expected (0, .aload_n 0, 1) (pgm 0 rfl)) rfl rfl ?_
  refine so_iconst (v := (0 : Int32)) X (dkX12_expected (1, .iconst 0, 1) (pgm 1 rfl)) ic_0 ?_
  refine sf_putI X ff_12_5 ft_12 rfl lk_1707 hk rfl rfl (dkX12_expected (2, .putfield 92, 3) (pgm 2 rfl)) (fun h1 => ?_)
  refine so_aload_n (i := 0) X 0 (dkX12_expected (5, .aload_n 0, 1) (pgm 3 rfl)) rfl rfl ?_
  refine so_iload_n (i := 1) X 1 (dkX12_expected (6, .iload_n 1, 1) (pgm 4 rfl)) rfl rfl ?_
  refine so_i2l X (dkX12_expected (7, .i2l, 1) (pgm 5 rfl)) ?_
  refine so_callV (n := 1) (As := [.long a1.toInt64]) X (ct_X12_isSky l this a1.toInt64 h1 hk) hk (by decide) rfl lk_1970 lk_1972 lk_85 lk_134 lk_1973 (by decide +kernel) rfl rfl rfl (rm_ok (by omega) (by decide)) ⟨Nat.zero_le _, Nat.zero_le _⟩ (Nat.le_of_ble_eq_true rfl) (dkX12_expected (8, .invokevirtual 295, 3) (pgm 6 rfl)) (fun r2 h3 => ?_) rfl
  refine so_join (jf := fun (h4 : PH) => cb (f_X12_fails this (1 : Int32) h4) (fun (r5 : Int32) (h6 : PH) => some (r5.toInt64, h6))) (fun (j : PH → Option (Int64 × PH)) => ∀  (h4 : PH), SWo (QM mkL below args s D cA ad A) p l e (rmd 4) s m args below meth c 0 0 3 D cA ad A 34 [(0, .ref this)] [] h4 (j h4)) ?_ (fun j34 hj34 => ?_)
  · intro h4
    refine so_aload_n (i := 0) X 0 (dkX12_expected (34, .aload_n 0, 1) (pgm 18 rfl)) rfl rfl ?_
    refine so_iconst (v := (1 : Int32)) X (dkX12_expected (35, .iconst 1, 1) (pgm 19 rfl)) ic_1 ?_
    refine so_callV (n := 1) (As := [.int (1 : Int32)]) X (ct_X12_fails l this (1 : Int32) h4 hk) hk (by decide) rfl lk_1835 lk_1837 lk_61 lk_134 lk_1838 (by decide +kernel) rfl rfl rfl (rm_ok (by omega) (by decide)) ⟨Nat.zero_le _, Nat.zero_le _⟩ (Nat.le_of_ble_eq_true rfl) (dkX12_expected (36, .invokevirtual 233, 3) (pgm 20 rfl)) (fun r5 h6 => ?_) rfl
    refine so_i2l X (dkX12_expected (39, .i2l, 1) (pgm 21 rfl)) ?_
    exact so_lret X hr hlk (dkX12_expected (40, .lreturn, 1) (pgm 22 rfl))
  refine so_if_eq (tgt := 34) X (dkX12_expected (11, .ifCond .eq 23, 3) (pgm 7 rfl)) rfl (fun _ => ?_) (fun _ => ?_)
  · exact so_pick X [0] rfl (hj34 h3)
  · refine so_iload_n (i := 1) X 1 (dkX12_expected (14, .iload_n 1, 1) (pgm 8 rfl)) rfl rfl ?_
    refine so_callS (n := 1) (As := [.int a1]) X (ct_X12_size l a1 h3 ) lk_1687 lk_1688 lk_134 lk_1689 (by decide +kernel) rfl rfl rfl (rm_ok (by omega) (by decide)) ⟨Nat.zero_le _, Nat.zero_le _⟩ (Nat.le_of_ble_eq_true rfl) (dkX12_expected (15, .invokestatic 269, 3) (pgm 9 rfl)) (fun r7 h8 => ?_) rfl
    refine so_iconst (v := (4 : Int32)) X (dkX12_expected (18, .iconst 4, 1) (pgm 10 rfl)) ic_4 ?_
    refine so_icmp_gt (tgt := 34) X (dkX12_expected (19, .if_icmp .gt 15, 3) (pgm 11 rfl)) rfl (fun _ => ?_) (fun _ => ?_)
    · exact so_pick X [0] rfl (hj34 h8)
    · refine so_iload_n (i := 2) X 2 (dkX12_expected (22, .iload_n 2, 1) (pgm 12 rfl)) rfl rfl ?_
      refine so_i2l X (dkX12_expected (23, .i2l, 1) (pgm 13 rfl)) ?_
      refine so_lconst (v := (0 : Int64)) X (dkX12_expected (24, .lconst 0, 1) (pgm 14 rfl)) lc_0 ?_
      refine so_ldc2 X lk_2063 (dkX12_expected (25, .ldc2_w 336, 3) (pgm 15 rfl)) ?_
      refine so_callS (n := 3) (As := [.long a2.toInt64, .long (0 : Int64), .long (100 : Int64)]) X (ct_X12_within l a2.toInt64 (0 : Int64) (100 : Int64) h8 ) lk_1832 lk_1833 lk_134 lk_1834 (by decide +kernel) rfl rfl rfl (rm_ok (by omega) (by decide)) ⟨Nat.zero_le _, Nat.zero_le _⟩ (Nat.le_of_ble_eq_true rfl) (dkX12_expected (28, .invokestatic 156, 3) (pgm 16 rfl)) (fun r9 h10 => ?_) rfl
      refine so_if_ne (tgt := 41) X (dkX12_expected (31, .ifCond .ne 10, 3) (pgm 17 rfl)) rfl (fun _ => ?_) (fun _ => ?_)
      · refine so_aload_n (i := 0) X 0 (dkX12_expected (41, .aload_n 0, 1) (pgm 23 rfl)) rfl rfl ?_
        refine so_iload_n (i := 1) X 1 (dkX12_expected (42, .iload_n 1, 1) (pgm 24 rfl)) rfl rfl ?_
        refine so_iload_n (i := 2) X 2 (dkX12_expected (43, .iload_n 2, 1) (pgm 25 rfl)) rfl rfl ?_
        refine so_callV (n := 2) (As := [.int a1, .int a2]) X (ct_X12_expects l this a1 a2 h10 hk) hk (by decide) rfl lk_2064 lk_2066 lk_95 lk_134 lk_2067 (by decide +kernel) rfl rfl rfl (rm_ok (by omega) (by decide)) ⟨Nat.zero_le _, Nat.zero_le _⟩ (Nat.le_of_ble_eq_true rfl) (dkX12_expected (44, .invokevirtual 338, 3) (pgm 26 rfl)) (fun r11 h12 => ?_) rfl
        exact so_lret X hr hlk (dkX12_expected (47, .lreturn, 1) (pgm 27 rfl))
      · exact so_pick X [0] rfl (hj34 h10)
def pgX12_bestChance : List (Nat × Instr × Nat) := [(0, .aload_n 0, 1), (1, .iconst 0, 1), (2, .putfield 92, 3), (5, .iload_n 1, 1), (6, .i2l, 1), (7, .lconst 0, 1), (8, .ldc2_w 336, 3), (11, .invokestatic 156, 3), (14, .ifCond .ne 9, 3), (17, .aload_n 0, 1), (18, .iconst 1, 1), (19, .invokevirtual 233, 3), (22, .ireturn, 1), (23, .iconst (-1), 1), (24, .istore_n 2, 1), (25, .lconst 0, 1), (26, .lstore_n 3, 1), (27, .iconst 0, 1), (28, .istore 5, 2), (30, .iload 5, 2), (32, .aload_n 0, 1), (33, .invokevirtual 252, 3), (36, .if_icmp .gt 94, 3), (39, .iload 5, 2), (41, .invokestatic 269, 3), (44, .iconst 3, 1), (45, .if_icmp .gt 79, 3), (48, .aload_n 0, 1), (49, .iload 5, 2), (51, .i2l, 1), (52, .invokevirtual 310, 3), (55, .ifCond .eq 6, 3), (58, .goto 66, 3), (61, .aload_n 0, 1), (62, .iload 5, 2), (64, .iload_n 1, 1), (65, .invokevirtual 338, 3), (68, .ldc2_w 336, 3), (71, .iconst 3, 1), (72, .iload 5, 2), (74, .invokestatic 269, 3), (77, .isub, 1), (78, .invokestatic 332, 3), (81, .lmul, 1), (82, .lstore 6, 2), (84, .iload_n 2, 1), (85, .iconst (-1), 1), (86, .if_icmp .eq 32, 3), (89, .lload 6, 2), (91, .lload_n 3, 1), (92, .lcmp, 1), (93, .ifCond .lt 31, 3), (96, .lload 6, 2), (98, .lload_n 3, 1), (99, .lcmp, 1), (100, .ifCond .ne 18, 3), (103, .iload 5, 2), (105, .invokestatic 269, 3), (108, .iload_n 2, 1), (109, .invokestatic 269, 3), (112, .if_icmp .lt 6, 3), (115, .goto 9, 3), (118, .iload 5, 2), (120, .istore_n 2, 1), (121, .lload 6, 2), (123, .lstore_n 3, 1), (124, .iinc 5 1, 3), (127, .goto (-97), 3), (130, .iload_n 2, 1), (131, .ireturn, 1)]
theorem dkX12_bestChance : ∀ q ∈ pgX12_bestChance, decode cX12_bestChance q.1 = .ok q.2 := by decide +kernel
def b_X12_bestChance_30 (this : Nat) (a1 : Int32) (rec30 : (Int32 × Int64 × Int32) → PH → Option (Int32 × PH)) (s30 : Int32 × Int64 × Int32) (hh30 : PH) : Option (Int32 × PH) :=
  cb (f_X12_everywhere this hh30) (fun (r7 : Int32) (h8 : PH) => if r7 < s30.2.2 then (some (s30.1, h8)) else (cb (f_X12_size s30.2.2 h8) (fun (r9 : Int32) (h10 : PH) => lt (fun (y11 : Int32) (y12 : Int64) (h13 : PH) => lt (s30.2.2 + Int32.ofInt 1) (fun (x14 : Int32) => rec30 (y11, y12, x14) h13)) (fun (j124 : Int32 → Int64 → PH → Option (Int32 × PH)) => if (3 : Int32) < r9 then (j124 s30.1 s30.2.1 h10) else (cb (f_X12_whyNot this s30.2.2.toInt64 h10) (fun (r15 : Int32) (h16 : PH) => if r15 = 0 then (cb (f_X12_expects this s30.2.2 a1 h16) (fun (r17 : Int64) (h18 : PH) => cb (f_X12_size s30.2.2 h18) (fun (r19 : Int32) (h20 : PH) => cb (f_X12_power (100 : Int64) ((3 : Int32) - r19) h20) (fun (r21 : Int64) (h22 : PH) => lt (r17 * r21) (fun (x23 : Int64) => lt (fun (h24 : PH) => lt s30.2.2 (fun (x25 : Int32) => lt x23 (fun (x26 : Int64) => j124 x25 x26 h24))) (fun (j118 : PH → Option (Int32 × PH)) => if s30.1 = (-1 : Int32) then (j118 h22) else (if (lg_cmp x23 s30.2.1) < 0 then (j124 s30.1 s30.2.1 h22) else (if (lg_cmp x23 s30.2.1) = 0 then (cb (f_X12_size s30.2.2 h22) (fun (r27 : Int32) (h28 : PH) => cb (f_X12_size s30.1 h28) (fun (r29 : Int32) (h30 : PH) => if r27 < r29 then (j118 h30) else (j124 s30.1 s30.2.1 h30)))) else (j118 h22))))))))) else (j124 s30.1 s30.2.1 h16)))))))
def f_X12_bestChance (this : Nat) (a1 : Int32) (h0 : PH) : Option (Int32 × PH) :=
  lt (pI h0 this 5 (0 : Int32)) (fun (h1 : PH) => cb (f_X12_within a1.toInt64 (0 : Int64) (100 : Int64) h1) (fun (r2 : Int32) (h3 : PH) => if r2 = 0 then (cb (f_X12_fails this (1 : Int32) h3) (fun (r31 : Int32) (h32 : PH) => some (r31, h32))) else (lt (-1 : Int32) (fun (x4 : Int32) => lt (0 : Int64) (fun (x5 : Int64) => lt (0 : Int32) (fun (x6 : Int32) => lp (b_X12_bestChance_30 this a1) FU (x4, x5, x6) h3))))))
set_option maxRecDepth 100000 in
set_option maxHeartbeats 4000000 in
theorem ct_X12_bestChance (l : Launch) (this : Nat) (a1 : Int32) (h0 : PH) (hk : (kd this).1 = 12) : CT mkI l yX12_bestChance cX12_bestChance 8 (some .int) (rmd 4) [.ref this, .int a1] h0 (f_X12_bestChance this a1 h0) := by
  refine ct_of (by decide) (Nat.le_of_ble_eq_true rfl) ?_
  intro p e s m args below meth c D cA ad A X hr hlk
  have X : Cx p s m args c RX12 cX12_bestChance 8 D cA ad A := X
  unfold f_X12_bestChance
  refine so_pick (L' := [(0, .ref this), (1, .int a1)]) X [0, 1] rfl ?_
  refine so_aload_n (i := 0) X 0 (dkX12_bestChance (0, .aload_n 0, 1) (pgm 0 rfl)) rfl rfl ?_
  refine so_iconst (v := (0 : Int32)) X (dkX12_bestChance (1, .iconst 0, 1) (pgm 1 rfl)) ic_0 ?_
  refine sf_putI X ff_12_5 ft_12 rfl lk_1707 hk rfl rfl (dkX12_bestChance (2, .putfield 92, 3) (pgm 2 rfl)) (fun h1 => ?_)
  refine so_iload_n (i := 1) X 1 (dkX12_bestChance (5, .iload_n 1, 1) (pgm 3 rfl)) rfl rfl ?_
  refine so_i2l X (dkX12_bestChance (6, .i2l, 1) (pgm 4 rfl)) ?_
  refine so_lconst (v := (0 : Int64)) X (dkX12_bestChance (7, .lconst 0, 1) (pgm 5 rfl)) lc_0 ?_
  refine so_ldc2 X lk_2063 (dkX12_bestChance (8, .ldc2_w 336, 3) (pgm 6 rfl)) ?_
  refine so_callS (n := 3) (As := [.long a1.toInt64, .long (0 : Int64), .long (100 : Int64)]) X (ct_X12_within l a1.toInt64 (0 : Int64) (100 : Int64) h1 ) lk_1832 lk_1833 lk_134 lk_1834 (by decide +kernel) rfl rfl rfl (rm_ok (by omega) (by decide)) ⟨Nat.zero_le _, Nat.zero_le _⟩ (Nat.le_of_ble_eq_true rfl) (dkX12_bestChance (11, .invokestatic 156, 3) (pgm 7 rfl)) (fun r2 h3 => ?_) rfl
  refine so_if_ne (tgt := 23) X (dkX12_bestChance (14, .ifCond .ne 9, 3) (pgm 8 rfl)) rfl (fun _ => ?_) (fun _ => ?_)
  · refine so_iconst (v := (-1 : Int32)) X (dkX12_bestChance (23, .iconst (-1), 1) (pgm 13 rfl)) ic_m1 ?_
    refine so_istore_n (i := 2) X (dkX12_bestChance (24, .istore_n 2, 1) (pgm 14 rfl)) rfl (by decide) (Lf := fun x4 => [(2, .int x4), (0, .ref this), (1, .int a1)]) (fun _ => rfl) (fun x4 => ?_)
    refine so_lconst (v := (0 : Int64)) X (dkX12_bestChance (25, .lconst 0, 1) (pgm 15 rfl)) lc_0 ?_
    refine so_lstore_n (i := 3) X (dkX12_bestChance (26, .lstore_n 3, 1) (pgm 16 rfl)) rfl (by decide) (Lf := fun x5 => [(3, .long x5), (2, .int x4), (0, .ref this), (1, .int a1)]) (fun _ => rfl) (fun x5 => ?_)
    refine so_iconst (v := (0 : Int32)) X (dkX12_bestChance (27, .iconst 0, 1) (pgm 17 rfl)) ic_0 ?_
    refine so_istore (i := 5) X (dkX12_bestChance (28, .istore 5, 2) (pgm 18 rfl)) (by decide) (Lf := fun x6 => [(5, .int x6), (3, .long x5), (2, .int x4), (0, .ref this), (1, .int a1)]) (fun _ => rfl) (fun x6 => ?_)
    refine so_pick (L' := [(0, .ref this), (1, .int a1), (2, .int x4), (3, .long x5), (5, .int x6)]) X [3, 4, 2, 1, 0] rfl ?_
    refine so_loop (body := b_X12_bestChance_30 this a1) (fun (s30 : Int32 × Int64 × Int32) => [(0, .ref this), (1, .int a1), (2, .int s30.1), (3, .long s30.2.1), (5, .int s30.2.2)]) (fun rec30 hrec30 s30 hh30 => ?_) FU (x4, x5, x6) h3
    unfold b_X12_bestChance_30
    refine so_iload (i := 5) X 4 (dkX12_bestChance (30, .iload 5, 2) (pgm 19 rfl)) rfl ?_
    refine so_aload_n (i := 0) X 0 (dkX12_bestChance (32, .aload_n 0, 1) (pgm 20 rfl)) rfl rfl ?_
    refine so_callV (n := 0) (As := []) X (ct_X12_everywhere l this hh30 hk) hk (by decide) rfl lk_1664 lk_1666 lk_56 lk_134 lk_1667 (by decide +kernel) rfl rfl rfl (rm_ok (by omega) (by decide)) ⟨Nat.zero_le _, Nat.zero_le _⟩ (Nat.le_of_ble_eq_true rfl) (dkX12_bestChance (33, .invokevirtual 252, 3) (pgm 21 rfl)) (fun r7 h8 => ?_) rfl
    refine so_icmp_gt (tgt := 130) X (dkX12_bestChance (36, .if_icmp .gt 94, 3) (pgm 22 rfl)) rfl (fun _ => ?_) (fun _ => ?_)
    · refine so_iload_n (i := 2) X 2 (dkX12_bestChance (130, .iload_n 2, 1) (pgm 68 rfl)) rfl rfl ?_
      exact so_iret X hr hlk (dkX12_bestChance (131, .ireturn, 1) (pgm 69 rfl))
    · refine so_iload (i := 5) X 4 (dkX12_bestChance (39, .iload 5, 2) (pgm 23 rfl)) rfl ?_
      refine so_callS (n := 1) (As := [.int s30.2.2]) X (ct_X12_size l s30.2.2 h8 ) lk_1687 lk_1688 lk_134 lk_1689 (by decide +kernel) rfl rfl rfl (rm_ok (by omega) (by decide)) ⟨Nat.zero_le _, Nat.zero_le _⟩ (Nat.le_of_ble_eq_true rfl) (dkX12_bestChance (41, .invokestatic 269, 3) (pgm 24 rfl)) (fun r9 h10 => ?_) rfl
      refine so_iconst (v := (3 : Int32)) X (dkX12_bestChance (44, .iconst 3, 1) (pgm 25 rfl)) ic_3 ?_
      refine so_join (jf := fun (y11 : Int32) (y12 : Int64) (h13 : PH) => lt (s30.2.2 + Int32.ofInt 1) (fun (x14 : Int32) => rec30 (y11, y12, x14) h13)) (fun (j : Int32 → Int64 → PH → Option (Int32 × PH)) => ∀ (y11 : Int32) (y12 : Int64) (h13 : PH), SWo (QM mkI below args s D cA ad A) p l e (rmd 4) s m args below meth c 0 0 8 D cA ad A 124 [(0, .ref this), (1, .int a1), (2, .int y11), (3, .long y12), (5, .int s30.2.2)] [] h13 (j y11 y12 h13)) ?_ (fun j124 hj124 => ?_)
      · intro y11 y12 h13
        refine so_iinc (i := 5) X 4 (dkX12_bestChance (124, .iinc 5 1, 3) (pgm 66 rfl)) rfl rfl (by decide) (Lf := fun x14 => [(5, .int x14), (0, .ref this), (1, .int a1), (2, .int y11), (3, .long y12)]) (fun _ => rfl) (fun x14 => ?_)
        refine so_goto (tgt := 30) X (dkX12_bestChance (127, .goto (-97), 3) (pgm 67 rfl)) rfl ?_
        exact so_pick X [1, 2, 3, 4, 0] rfl (hrec30 (y11, y12, x14) h13)
      refine so_icmp_gt (tgt := 124) X (dkX12_bestChance (45, .if_icmp .gt 79, 3) (pgm 26 rfl)) rfl (fun _ => ?_) (fun _ => ?_)
      · exact so_pick X [0, 1, 2, 3, 4] rfl (hj124 s30.1 s30.2.1 h10)
      · refine so_aload_n (i := 0) X 0 (dkX12_bestChance (48, .aload_n 0, 1) (pgm 27 rfl)) rfl rfl ?_
        refine so_iload (i := 5) X 4 (dkX12_bestChance (49, .iload 5, 2) (pgm 28 rfl)) rfl ?_
        refine so_i2l X (dkX12_bestChance (51, .i2l, 1) (pgm 29 rfl)) ?_
        refine so_callV (n := 1) (As := [.long s30.2.2.toInt64]) X (ct_X12_whyNot l this s30.2.2.toInt64 h10 hk) hk (by decide) rfl lk_1982 lk_1984 lk_86 lk_134 lk_1985 (by decide +kernel) rfl rfl rfl (rm_ok (by omega) (by decide)) ⟨Nat.zero_le _, Nat.zero_le _⟩ (Nat.le_of_ble_eq_true rfl) (dkX12_bestChance (52, .invokevirtual 310, 3) (pgm 30 rfl)) (fun r15 h16 => ?_) rfl
        refine so_if_eq (tgt := 61) X (dkX12_bestChance (55, .ifCond .eq 6, 3) (pgm 31 rfl)) rfl (fun _ => ?_) (fun _ => ?_)
        · refine so_aload_n (i := 0) X 0 (dkX12_bestChance (61, .aload_n 0, 1) (pgm 33 rfl)) rfl rfl ?_
          refine so_iload (i := 5) X 4 (dkX12_bestChance (62, .iload 5, 2) (pgm 34 rfl)) rfl ?_
          refine so_iload_n (i := 1) X 1 (dkX12_bestChance (64, .iload_n 1, 1) (pgm 35 rfl)) rfl rfl ?_
          refine so_callV (n := 2) (As := [.int s30.2.2, .int a1]) X (ct_X12_expects l this s30.2.2 a1 h16 hk) hk (by decide) rfl lk_2064 lk_2066 lk_95 lk_134 lk_2067 (by decide +kernel) rfl rfl rfl (rm_ok (by omega) (by decide)) ⟨Nat.zero_le _, Nat.zero_le _⟩ (Nat.le_of_ble_eq_true rfl) (dkX12_bestChance (65, .invokevirtual 338, 3) (pgm 36 rfl)) (fun r17 h18 => ?_) rfl
          refine so_ldc2 X lk_2063 (dkX12_bestChance (68, .ldc2_w 336, 3) (pgm 37 rfl)) ?_
          refine so_iconst (v := (3 : Int32)) X (dkX12_bestChance (71, .iconst 3, 1) (pgm 38 rfl)) ic_3 ?_
          refine so_iload (i := 5) X 4 (dkX12_bestChance (72, .iload 5, 2) (pgm 39 rfl)) rfl ?_
          refine so_callS (n := 1) (As := [.int s30.2.2]) X (ct_X12_size l s30.2.2 h18 ) lk_1687 lk_1688 lk_134 lk_1689 (by decide +kernel) rfl rfl rfl (rm_ok (by omega) (by decide)) ⟨Nat.zero_le _, Nat.zero_le _⟩ (Nat.le_of_ble_eq_true rfl) (dkX12_bestChance (74, .invokestatic 269, 3) (pgm 40 rfl)) (fun r19 h20 => ?_) rfl
          refine so_isub X (dkX12_bestChance (77, .isub, 1) (pgm 41 rfl)) ?_
          refine so_callS (n := 2) (As := [.long (100 : Int64), .int ((3 : Int32) - r19)]) X (ct_X12_power l (100 : Int64) ((3 : Int32) - r19) h20 ) lk_2068 lk_2069 lk_134 lk_2070 (by decide +kernel) rfl rfl rfl (rm_ok (by omega) (by decide)) ⟨Nat.zero_le _, Nat.zero_le _⟩ (Nat.le_of_ble_eq_true rfl) (dkX12_bestChance (78, .invokestatic 332, 3) (pgm 42 rfl)) (fun r21 h22 => ?_) rfl
          refine so_lmul X (dkX12_bestChance (81, .lmul, 1) (pgm 43 rfl)) ?_
          refine so_lstore (i := 6) X (dkX12_bestChance (82, .lstore 6, 2) (pgm 44 rfl)) (by decide) (Lf := fun x23 => [(6, .long x23), (0, .ref this), (1, .int a1), (2, .int s30.1), (3, .long s30.2.1), (5, .int s30.2.2)]) (fun _ => rfl) (fun x23 => ?_)
          refine so_iload_n (i := 2) X 3 (dkX12_bestChance (84, .iload_n 2, 1) (pgm 45 rfl)) rfl rfl ?_
          refine so_iconst (v := (-1 : Int32)) X (dkX12_bestChance (85, .iconst (-1), 1) (pgm 46 rfl)) ic_m1 ?_
          refine so_join (jf := fun (h24 : PH) => lt s30.2.2 (fun (x25 : Int32) => lt x23 (fun (x26 : Int64) => j124 x25 x26 h24))) (fun (j : PH → Option (Int32 × PH)) => ∀  (h24 : PH), SWo (QM mkI below args s D cA ad A) p l e (rmd 4) s m args below meth c 0 0 8 D cA ad A 118 [(0, .ref this), (1, .int a1), (5, .int s30.2.2), (6, .long x23)] [] h24 (j h24)) ?_ (fun j118 hj118 => ?_)
          · intro h24
            refine so_iload (i := 5) X 2 (dkX12_bestChance (118, .iload 5, 2) (pgm 62 rfl)) rfl ?_
            refine so_istore_n (i := 2) X (dkX12_bestChance (120, .istore_n 2, 1) (pgm 63 rfl)) rfl (by decide) (Lf := fun x25 => [(2, .int x25), (0, .ref this), (1, .int a1), (5, .int s30.2.2), (6, .long x23)]) (fun _ => rfl) (fun x25 => ?_)
            refine so_lload (i := 6) X 4 (dkX12_bestChance (121, .lload 6, 2) (pgm 64 rfl)) rfl ?_
            refine so_lstore_n (i := 3) X (dkX12_bestChance (123, .lstore_n 3, 1) (pgm 65 rfl)) rfl (by decide) (Lf := fun x26 => [(3, .long x26), (2, .int x25), (0, .ref this), (1, .int a1), (5, .int s30.2.2), (6, .long x23)]) (fun _ => rfl) (fun x26 => ?_)
            exact so_pick X [2, 3, 1, 0, 4] rfl (hj124 x25 x26 h24)
          refine so_icmp_eq (tgt := 118) X (dkX12_bestChance (86, .if_icmp .eq 32, 3) (pgm 47 rfl)) rfl (fun _ => ?_) (fun _ => ?_)
          · exact so_pick X [1, 2, 5, 0] rfl (hj118 h22)
          · refine so_lload (i := 6) X 0 (dkX12_bestChance (89, .lload 6, 2) (pgm 48 rfl)) rfl ?_
            refine so_lload_n (i := 3) X 4 (dkX12_bestChance (91, .lload_n 3, 1) (pgm 49 rfl)) rfl rfl ?_
            refine so_lcmp X (dkX12_bestChance (92, .lcmp, 1) (pgm 50 rfl)) ?_
            refine so_if_lt (tgt := 124) X (dkX12_bestChance (93, .ifCond .lt 31, 3) (pgm 51 rfl)) rfl (fun _ => ?_) (fun _ => ?_)
            · exact so_pick X [1, 2, 3, 4, 5] rfl (hj124 s30.1 s30.2.1 h22)
            · refine so_lload (i := 6) X 0 (dkX12_bestChance (96, .lload 6, 2) (pgm 52 rfl)) rfl ?_
              refine so_lload_n (i := 3) X 4 (dkX12_bestChance (98, .lload_n 3, 1) (pgm 53 rfl)) rfl rfl ?_
              refine so_lcmp X (dkX12_bestChance (99, .lcmp, 1) (pgm 54 rfl)) ?_
              refine so_if_ne (tgt := 118) X (dkX12_bestChance (100, .ifCond .ne 18, 3) (pgm 55 rfl)) rfl (fun _ => ?_) (fun _ => ?_)
              · exact so_pick X [1, 2, 5, 0] rfl (hj118 h22)
              · refine so_iload (i := 5) X 5 (dkX12_bestChance (103, .iload 5, 2) (pgm 56 rfl)) rfl ?_
                refine so_callS (n := 1) (As := [.int s30.2.2]) X (ct_X12_size l s30.2.2 h22 ) lk_1687 lk_1688 lk_134 lk_1689 (by decide +kernel) rfl rfl rfl (rm_ok (by omega) (by decide)) ⟨Nat.zero_le _, Nat.zero_le _⟩ (Nat.le_of_ble_eq_true rfl) (dkX12_bestChance (105, .invokestatic 269, 3) (pgm 57 rfl)) (fun r27 h28 => ?_) rfl
                refine so_iload_n (i := 2) X 3 (dkX12_bestChance (108, .iload_n 2, 1) (pgm 58 rfl)) rfl rfl ?_
                refine so_callS (n := 1) (As := [.int s30.1]) X (ct_X12_size l s30.1 h28 ) lk_1687 lk_1688 lk_134 lk_1689 (by decide +kernel) rfl rfl rfl (rm_ok (by omega) (by decide)) ⟨Nat.zero_le _, Nat.zero_le _⟩ (Nat.le_of_ble_eq_true rfl) (dkX12_bestChance (109, .invokestatic 269, 3) (pgm 59 rfl)) (fun r29 h30 => ?_) rfl
                refine so_icmp_lt (tgt := 118) X (dkX12_bestChance (112, .if_icmp .lt 6, 3) (pgm 60 rfl)) rfl (fun _ => ?_) (fun _ => ?_)
                · exact so_pick X [1, 2, 5, 0] rfl (hj118 h30)
                · refine so_goto (tgt := 124) X (dkX12_bestChance (115, .goto 9, 3) (pgm 61 rfl)) rfl ?_
                  exact so_pick X [1, 2, 3, 4, 5] rfl (hj124 s30.1 s30.2.1 h30)
        · refine so_goto (tgt := 124) X (dkX12_bestChance (58, .goto 66, 3) (pgm 32 rfl)) rfl ?_
          exact so_pick X [0, 1, 2, 3, 4] rfl (hj124 s30.1 s30.2.1 h16)
  · refine so_aload_n (i := 0) X 0 (dkX12_bestChance (17, .aload_n 0, 1) (pgm 9 rfl)) rfl rfl ?_
    refine so_iconst (v := (1 : Int32)) X (dkX12_bestChance (18, .iconst 1, 1) (pgm 10 rfl)) ic_1 ?_
    refine so_callV (n := 1) (As := [.int (1 : Int32)]) X (ct_X12_fails l this (1 : Int32) h3 hk) hk (by decide) rfl lk_1835 lk_1837 lk_61 lk_134 lk_1838 (by decide +kernel) rfl rfl rfl (rm_ok (by omega) (by decide)) ⟨Nat.zero_le _, Nat.zero_le _⟩ (Nat.le_of_ble_eq_true rfl) (dkX12_bestChance (19, .invokevirtual 233, 3) (pgm 11 rfl)) (fun r31 h32 => ?_) rfl
    exact so_iret X hr hlk (dkX12_bestChance (22, .ireturn, 1) (pgm 12 rfl))

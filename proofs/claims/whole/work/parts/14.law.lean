def br_0 (xs : Nat → Int32) (L : Nat) (i : Int32) (hb : PH) (j2584 : PH → Option (Int32 × PH)) : Option (Int32 × PH) :=
  ldX xs L (i + (1 : Int32)) (fun (x4 : Int32) => ldX xs L (i + (2 : Int32)) (fun (x5 : Int32) => ldX xs L (i + (3 : Int32)) (fun (x6 : Int32) => ldX xs L (i + (4 : Int32)) (fun (x7 : Int32) => ldX xs L (i + (5 : Int32)) (fun (x8 : Int32) => cb (f_X11_feed 0 x4 x5 x6 x7 x8 hb) (fun (r9 : Int32) (h10 : PH) => ldX xs L (i + (1 : Int32)) (fun (x11 : Int32) => ldX xs L (i + (2 : Int32)) (fun (x12 : Int32) => ldX xs L (i + (3 : Int32)) (fun (x13 : Int32) => ldX xs L (i + (4 : Int32)) (fun (x14 : Int32) => ldX xs L (i + (5 : Int32)) (fun (x15 : Int32) => cb (f_X12_feed 152 x11 x12 x13 x14 x15 h10) (fun (r16 : Int32) (h17 : PH) => if r9 = r16 then (j2584 h17) else (some ((0 : Int32), h17))))))))))))))
set_option maxRecDepth 100000 in
set_option maxHeartbeats 4000000 in
theorem lb_0 {p : Program} {l : Launch} {e : Env} {s : State} {m : MethodId} {args : Array Value} {below : List Frame} {meth : Method} {c : Code} {D : va_G} {cA : Nat → ClassId} {ad : Nat → Nat} {A : Nat → Prop} {L : Nat} {xs : Nat → Int32} (hlt : l.stackTraces = false) (X : Cx p s m args c RL cL_law 8 D cA ad A) (hnc : nc cA = NC + 1) (hargs : ∃ b0 : Nat, args = #[Value.ref b0]) (hAs : ∀ q, A q → s.heap.size ≤ q) (hr : meth.sig.returnType = ret) (hlk : meth.locks = false) (hSc : va_X (ad 197) L xs s s.heap) (hSb : ad 197 < s.heap.size) (hSA : ¬ A (ad 197)) (cells slots : Nat) (hC : cells + 3 ≤ room_1.cells) (hS : slots + 18 ≤ room_1.slots) (i : Int32) (hb : PH) (j2584 : PH → Option (Int32 × PH)) (hj2584 : ∀ (h2 : PH), SWo (QL below args s) p l e room_1 s m args below meth c (cells + 3) (slots + 18) 8 D cA ad A 2584 [(0, .ref 197), (1, .ref 0), (2, .ref 152), (3, .ref NC), (4, .int i)] [] h2 (j2584 h2)) : SWo (QL below args s) p l e room_1 s m args below meth c cells slots 8 D cA ad A 224 [(0, .ref 197), (1, .ref 0), (2, .ref 152), (3, .ref NC), (4, .int i)] [] hb (br_0 xs L i hb j2584) := by
  have hroom1 : room_1.cells = 601024 := rfl
  have hroom2 : room_1.slots = 7293034 := rfl
  unfold br_0
  refine so_aload_n (i := 1) X 1 (dkL_law_0 (224, .aload_n 1, 1) (pgm 25 rfl)) rfl rfl ?_
  refine so_aload_n (i := 0) X 0 (dkL_law_0 (225, .aload_n 0, 1) (pgm 26 rfl)) rfl rfl ?_
  refine so_iload (i := 4) X 4 (dkL_law_0 (226, .iload 4, 2) (pgm 27 rfl)) rfl ?_
  refine so_iconst (v := (1 : Int32)) X (dkL_law_0 (228, .iconst 1, 1) (pgm 28 rfl)) ic_1 ?_
  refine so_iadd X (dkL_law_0 (229, .iadd, 1) (pgm 29 rfl)) ?_
  refine so_sld X hSc hSb hSA (dkL_law_0 (230, .iaload, 1) (pgm 30 rfl)) (fun x4 => ?_)
  refine so_aload_n (i := 0) X 0 (dkL_law_0 (231, .aload_n 0, 1) (pgm 31 rfl)) rfl rfl ?_
  refine so_iload (i := 4) X 4 (dkL_law_0 (232, .iload 4, 2) (pgm 32 rfl)) rfl ?_
  refine so_iconst (v := (2 : Int32)) X (dkL_law_0 (234, .iconst 2, 1) (pgm 33 rfl)) ic_2 ?_
  refine so_iadd X (dkL_law_0 (235, .iadd, 1) (pgm 34 rfl)) ?_
  refine so_sld X hSc hSb hSA (dkL_law_0 (236, .iaload, 1) (pgm 35 rfl)) (fun x5 => ?_)
  refine so_aload_n (i := 0) X 0 (dkL_law_0 (237, .aload_n 0, 1) (pgm 36 rfl)) rfl rfl ?_
  refine so_iload (i := 4) X 4 (dkL_law_0 (238, .iload 4, 2) (pgm 37 rfl)) rfl ?_
  refine so_iconst (v := (3 : Int32)) X (dkL_law_0 (240, .iconst 3, 1) (pgm 38 rfl)) ic_3 ?_
  refine so_iadd X (dkL_law_0 (241, .iadd, 1) (pgm 39 rfl)) ?_
  refine so_sld X hSc hSb hSA (dkL_law_0 (242, .iaload, 1) (pgm 40 rfl)) (fun x6 => ?_)
  refine so_aload_n (i := 0) X 0 (dkL_law_0 (243, .aload_n 0, 1) (pgm 41 rfl)) rfl rfl ?_
  refine so_iload (i := 4) X 4 (dkL_law_0 (244, .iload 4, 2) (pgm 42 rfl)) rfl ?_
  refine so_iconst (v := (4 : Int32)) X (dkL_law_0 (246, .iconst 4, 1) (pgm 43 rfl)) ic_4 ?_
  refine so_iadd X (dkL_law_0 (247, .iadd, 1) (pgm 44 rfl)) ?_
  refine so_sld X hSc hSb hSA (dkL_law_0 (248, .iaload, 1) (pgm 45 rfl)) (fun x7 => ?_)
  refine so_aload_n (i := 0) X 0 (dkL_law_0 (249, .aload_n 0, 1) (pgm 46 rfl)) rfl rfl ?_
  refine so_iload (i := 4) X 4 (dkL_law_0 (250, .iload 4, 2) (pgm 47 rfl)) rfl ?_
  refine so_iconst (v := (5 : Int32)) X (dkL_law_0 (252, .iconst 5, 1) (pgm 48 rfl)) ic_5 ?_
  refine so_iadd X (dkL_law_0 (253, .iadd, 1) (pgm 49 rfl)) ?_
  refine so_sld X hSc hSb hSA (dkL_law_1 (254, .iaload, 1) (pgm 0 rfl)) (fun x8 => ?_)
  refine so_callV (n := 5) (As := [.int x4, .int x5, .int x6, .int x7, .int x8]) X (ct_X11_feed l 0 x4 x5 x6 x7 x8 hb kx0) kx0 (by decide) rfl lk_614 lk_615 lk_616 lk_121 lk_617 (by decide +kernel) rfl rfl rfl ⟨Nat.le_of_ble_eq_true rfl, Nat.le_of_ble_eq_true rfl⟩ ⟨by omega, by omega⟩ (Nat.le_of_ble_eq_true rfl) (dkL_law_1 (255, .invokevirtual 133, 3) (pgm 1 rfl)) (fun r9 h10 => ?_) rfl
  refine so_aload_n (i := 2) X 2 (dkL_law_1 (258, .aload_n 2, 1) (pgm 2 rfl)) rfl rfl ?_
  refine so_aload_n (i := 0) X 0 (dkL_law_1 (259, .aload_n 0, 1) (pgm 3 rfl)) rfl rfl ?_
  refine so_iload (i := 4) X 4 (dkL_law_1 (260, .iload 4, 2) (pgm 4 rfl)) rfl ?_
  refine so_iconst (v := (1 : Int32)) X (dkL_law_1 (262, .iconst 1, 1) (pgm 5 rfl)) ic_1 ?_
  refine so_iadd X (dkL_law_1 (263, .iadd, 1) (pgm 6 rfl)) ?_
  refine so_sld X hSc hSb hSA (dkL_law_1 (264, .iaload, 1) (pgm 7 rfl)) (fun x11 => ?_)
  refine so_aload_n (i := 0) X 0 (dkL_law_1 (265, .aload_n 0, 1) (pgm 8 rfl)) rfl rfl ?_
  refine so_iload (i := 4) X 4 (dkL_law_1 (266, .iload 4, 2) (pgm 9 rfl)) rfl ?_
  refine so_iconst (v := (2 : Int32)) X (dkL_law_1 (268, .iconst 2, 1) (pgm 10 rfl)) ic_2 ?_
  refine so_iadd X (dkL_law_1 (269, .iadd, 1) (pgm 11 rfl)) ?_
  refine so_sld X hSc hSb hSA (dkL_law_1 (270, .iaload, 1) (pgm 12 rfl)) (fun x12 => ?_)
  refine so_aload_n (i := 0) X 0 (dkL_law_1 (271, .aload_n 0, 1) (pgm 13 rfl)) rfl rfl ?_
  refine so_iload (i := 4) X 4 (dkL_law_1 (272, .iload 4, 2) (pgm 14 rfl)) rfl ?_
  refine so_iconst (v := (3 : Int32)) X (dkL_law_1 (274, .iconst 3, 1) (pgm 15 rfl)) ic_3 ?_
  refine so_iadd X (dkL_law_1 (275, .iadd, 1) (pgm 16 rfl)) ?_
  refine so_sld X hSc hSb hSA (dkL_law_1 (276, .iaload, 1) (pgm 17 rfl)) (fun x13 => ?_)
  refine so_aload_n (i := 0) X 0 (dkL_law_1 (277, .aload_n 0, 1) (pgm 18 rfl)) rfl rfl ?_
  refine so_iload (i := 4) X 4 (dkL_law_1 (278, .iload 4, 2) (pgm 19 rfl)) rfl ?_
  refine so_iconst (v := (4 : Int32)) X (dkL_law_1 (280, .iconst 4, 1) (pgm 20 rfl)) ic_4 ?_
  refine so_iadd X (dkL_law_1 (281, .iadd, 1) (pgm 21 rfl)) ?_
  refine so_sld X hSc hSb hSA (dkL_law_1 (282, .iaload, 1) (pgm 22 rfl)) (fun x14 => ?_)
  refine so_aload_n (i := 0) X 0 (dkL_law_1 (283, .aload_n 0, 1) (pgm 23 rfl)) rfl rfl ?_
  refine so_iload (i := 4) X 4 (dkL_law_1 (284, .iload 4, 2) (pgm 24 rfl)) rfl ?_
  refine so_iconst (v := (5 : Int32)) X (dkL_law_1 (286, .iconst 5, 1) (pgm 25 rfl)) ic_5 ?_
  refine so_iadd X (dkL_law_1 (287, .iadd, 1) (pgm 26 rfl)) ?_
  refine so_sld X hSc hSb hSA (dkL_law_1 (288, .iaload, 1) (pgm 27 rfl)) (fun x15 => ?_)
  refine so_callV (n := 5) (As := [.int x11, .int x12, .int x13, .int x14, .int x15]) X (ct_X12_feed l 152 x11 x12 x13 x14 x15 h10 km0) km0 (by decide) rfl lk_1824 lk_1825 lk_1826 lk_134 lk_1827 (by decide +kernel) rfl rfl rfl ⟨Nat.le_of_ble_eq_true rfl, Nat.le_of_ble_eq_true rfl⟩ ⟨by omega, by omega⟩ (Nat.le_of_ble_eq_true rfl) (dkL_law_1 (289, .invokevirtual 137, 3) (pgm 28 rfl)) (fun r16 h17 => ?_) rfl
  refine so_icmp_eq (tgt := 2584) X (dkL_law_1 (292, .if_icmp .eq 2292, 3) (pgm 29 rfl)) rfl (fun _ => ?_) (fun _ => ?_)
  · refine so_widen (c1 := cells + 3) (s1 := slots + 18) (Nat.le_add_right _ _) (Nat.le_add_right _ _) ?_
    exact so_pick X [0, 1, 2, 3, 4] rfl (hj2584 h17)
  · refine so_iconst (v := (0 : Int32)) X (dkL_law_1 (295, .iconst 0, 1) (pgm 30 rfl)) ic_0 ?_
    exact so_lawret X hargs rfl hAs hr hlk (by omega) (by omega) (dkL_law_1 (296, .ireturn, 1) (pgm 31 rfl))
def br_1 (xs : Nat → Int32) (L : Nat) (i : Int32) (hb : PH) (j2584 : PH → Option (Int32 × PH)) : Option (Int32 × PH) :=
  ldX xs L (i + (1 : Int32)) (fun (x18 : Int32) => cb (f_L_sky x18 hb) (fun (r19 : Int32) (h20 : PH) => lt r19 (fun (x21 : Int32) => ldX xs L (i + (1 : Int32)) (fun (x22 : Int32) => cb (f_X12_sky 152 x22 h20) (fun (r23 : Int32) (h24 : PH) => lt r23 (fun (x25 : Int32) => cb (f_X12_thrown 152 h24) (fun (r26 : Int32) (h27 : PH) => if r26 = x21 then (lt (fun (h28 : PH) => j2584 h28) (fun (j350 : PH → Option (Int32 × PH)) => if x21 = 0 then (if (lg_cmp (h27.2 NC 0) x25.toInt64) = 0 then (j350 h27) else (some ((0 : Int32), h27))) else (j350 h27))) else (some ((0 : Int32), h27)))))))))
set_option maxRecDepth 100000 in
set_option maxHeartbeats 4000000 in
theorem lb_1 {p : Program} {l : Launch} {e : Env} {s : State} {m : MethodId} {args : Array Value} {below : List Frame} {meth : Method} {c : Code} {D : va_G} {cA : Nat → ClassId} {ad : Nat → Nat} {A : Nat → Prop} {L : Nat} {xs : Nat → Int32} (hlt : l.stackTraces = false) (X : Cx p s m args c RL cL_law 8 D cA ad A) (hnc : nc cA = NC + 1) (hargs : ∃ b0 : Nat, args = #[Value.ref b0]) (hAs : ∀ q, A q → s.heap.size ≤ q) (hr : meth.sig.returnType = ret) (hlk : meth.locks = false) (hSc : va_X (ad 197) L xs s s.heap) (hSb : ad 197 < s.heap.size) (hSA : ¬ A (ad 197)) (cells slots : Nat) (hC : cells + 3 ≤ room_1.cells) (hS : slots + 18 ≤ room_1.slots) (i : Int32) (hb : PH) (j2584 : PH → Option (Int32 × PH)) (hj2584 : ∀ (h2 : PH), SWo (QL below args s) p l e room_1 s m args below meth c (cells + 3) (slots + 18) 8 D cA ad A 2584 [(0, .ref 197), (1, .ref 0), (2, .ref 152), (3, .ref NC), (4, .int i)] [] h2 (j2584 h2)) : SWo (QL below args s) p l e room_1 s m args below meth c cells slots 8 D cA ad A 297 [(0, .ref 197), (1, .ref 0), (2, .ref 152), (3, .ref NC), (4, .int i)] [] hb (br_1 xs L i hb j2584) := by
  have hroom1 : room_1.cells = 601024 := rfl
  have hroom2 : room_1.slots = 7293034 := rfl
  unfold br_1
  refine so_aload_n (i := 1) X 1 (dkL_law_1 (297, .aload_n 1, 1) (pgm 32 rfl)) rfl rfl ?_
  refine so_aload_n (i := 0) X 0 (dkL_law_1 (298, .aload_n 0, 1) (pgm 33 rfl)) rfl rfl ?_
  refine so_iload (i := 4) X 4 (dkL_law_1 (299, .iload 4, 2) (pgm 34 rfl)) rfl ?_
  refine so_iconst (v := (1 : Int32)) X (dkL_law_1 (301, .iconst 1, 1) (pgm 35 rfl)) ic_1 ?_
  refine so_iadd X (dkL_law_1 (302, .iadd, 1) (pgm 36 rfl)) ?_
  refine so_sld X hSc hSb hSA (dkL_law_1 (303, .iaload, 1) (pgm 37 rfl)) (fun x18 => ?_)
  refine so_aload_n (i := 3) X 3 (dkL_law_1 (304, .aload_n 3, 1) (pgm 38 rfl)) rfl rfl ?_
  refine so_callW (n := 3) (As := [.ref 0, .int x18, .ref NC]) X hnc (ct_L_sky l hlt x18 hb) lk_771 lk_772 lk_120 lk_773 (by decide +kernel) rfl rfl rfl ⟨Nat.le_of_ble_eq_true rfl, Nat.le_of_ble_eq_true rfl⟩ ⟨hC, hS⟩ (by decide) (dkL_law_1 (305, .invokestatic 138, 3) (pgm 39 rfl)) (fun r19 h20 => ?_) rfl
  refine so_istore (i := 5) X (dkL_law_1 (308, .istore 5, 2) (pgm 40 rfl)) (by decide) (Lf := fun x21 => [(5, .int x21), (0, .ref 197), (1, .ref 0), (2, .ref 152), (3, .ref NC), (4, .int i)]) (fun _ => rfl) (fun x21 => ?_)
  refine so_aload_n (i := 2) X 3 (dkL_law_1 (310, .aload_n 2, 1) (pgm 41 rfl)) rfl rfl ?_
  refine so_aload_n (i := 0) X 1 (dkL_law_1 (311, .aload_n 0, 1) (pgm 42 rfl)) rfl rfl ?_
  refine so_iload (i := 4) X 5 (dkL_law_1 (312, .iload 4, 2) (pgm 43 rfl)) rfl ?_
  refine so_iconst (v := (1 : Int32)) X (dkL_law_1 (314, .iconst 1, 1) (pgm 44 rfl)) ic_1 ?_
  refine so_iadd X (dkL_law_1 (315, .iadd, 1) (pgm 45 rfl)) ?_
  refine so_sld X hSc hSb hSA (dkL_law_1 (316, .iaload, 1) (pgm 46 rfl)) (fun x22 => ?_)
  refine so_callV (n := 1) (As := [.int x22]) X (ct_X12_sky l 152 x22 h20 km0) km0 (by decide) rfl lk_1828 lk_1829 lk_1830 lk_134 lk_1831 (by decide +kernel) rfl rfl rfl ⟨Nat.le_of_ble_eq_true rfl, Nat.le_of_ble_eq_true rfl⟩ ⟨by omega, by omega⟩ (Nat.le_of_ble_eq_true rfl) (dkL_law_1 (317, .invokevirtual 143, 3) (pgm 47 rfl)) (fun r23 h24 => ?_) rfl
  refine so_istore (i := 6) X (dkL_law_1 (320, .istore 6, 2) (pgm 48 rfl)) (by decide) (Lf := fun x25 => [(6, .int x25), (5, .int x21), (0, .ref 197), (1, .ref 0), (2, .ref 152), (3, .ref NC), (4, .int i)]) (fun _ => rfl) (fun x25 => ?_)
  refine so_aload_n (i := 2) X 4 (dkL_law_1 (322, .aload_n 2, 1) (pgm 49 rfl)) rfl rfl ?_
  refine so_callV (n := 0) (As := []) X (ct_X12_thrown l 152 h24 km0) km0 (by decide) rfl lk_1820 lk_1821 lk_1822 lk_134 lk_1823 (by decide +kernel) rfl rfl rfl ⟨Nat.le_of_ble_eq_true rfl, Nat.le_of_ble_eq_true rfl⟩ ⟨by omega, by omega⟩ (Nat.le_of_ble_eq_true rfl) (dkL_law_2 (323, .invokevirtual 144, 3) (pgm 0 rfl)) (fun r26 h27 => ?_) rfl
  refine so_iload (i := 5) X 1 (dkL_law_2 (326, .iload 5, 2) (pgm 1 rfl)) rfl ?_
  refine so_icmp_eq (tgt := 333) X (dkL_law_2 (328, .if_icmp .eq 5, 3) (pgm 2 rfl)) rfl (fun _ => ?_) (fun _ => ?_)
  · refine so_iload (i := 5) X 1 (dkL_law_2 (333, .iload 5, 2) (pgm 5 rfl)) rfl ?_
    refine so_join (jf := fun (h28 : PH) => j2584 h28) (fun (j : PH → Option (Int32 × PH)) => ∀  (h28 : PH), SWo (QL below args s) p l e room_1 s m args below meth c (cells + 3) (slots + 18) 8 D cA ad A 350 [(0, .ref 197), (1, .ref 0), (2, .ref 152), (3, .ref NC), (4, .int i)] [] h28 (j h28)) ?_ (fun j350 hj350 => ?_)
    · intro h28
      refine so_goto (tgt := 2584) X (dkL_law_2 (350, .goto 2234, 3) (pgm 16 rfl)) rfl ?_
      exact so_pick X [0, 1, 2, 3, 4] rfl (hj2584 h28)
    refine so_if_ne (tgt := 350) X (dkL_law_2 (335, .ifCond .ne 15, 3) (pgm 6 rfl)) rfl (fun _ => ?_) (fun _ => ?_)
    · exact so_pick X [2, 3, 4, 5, 6] rfl (hj350 h27)
    · refine so_aload_n (i := 3) X 5 (dkL_law_2 (338, .aload_n 3, 1) (pgm 7 rfl)) rfl rfl ?_
      refine so_iconst (v := (0 : Int32)) X (dkL_law_2 (339, .iconst 0, 1) (pgm 8 rfl)) ic_0 ?_
      refine so_outLd X hnc (dkL_law_2 (340, .laload, 1) (pgm 9 rfl)) ?_
      refine so_iload (i := 6) X 0 (dkL_law_2 (341, .iload 6, 2) (pgm 10 rfl)) rfl ?_
      refine so_i2l X (dkL_law_2 (343, .i2l, 1) (pgm 11 rfl)) ?_
      refine so_lcmp X (dkL_law_2 (344, .lcmp, 1) (pgm 12 rfl)) ?_
      refine so_if_eq (tgt := 350) X (dkL_law_2 (345, .ifCond .eq 5, 3) (pgm 13 rfl)) rfl (fun _ => ?_) (fun _ => ?_)
      · exact so_pick X [2, 3, 4, 5, 6] rfl (hj350 h27)
      · refine so_iconst (v := (0 : Int32)) X (dkL_law_2 (348, .iconst 0, 1) (pgm 14 rfl)) ic_0 ?_
        exact so_lawret X hargs rfl hAs hr hlk (by omega) (by omega) (dkL_law_2 (349, .ireturn, 1) (pgm 15 rfl))
  · refine so_iconst (v := (0 : Int32)) X (dkL_law_2 (331, .iconst 0, 1) (pgm 3 rfl)) ic_0 ?_
    exact so_lawret X hargs rfl hAs hr hlk (by omega) (by omega) (dkL_law_2 (332, .ireturn, 1) (pgm 4 rfl))
def br_2 (xs : Nat → Int32) (L : Nat) (i : Int32) (hb : PH) (j2584 : PH → Option (Int32 × PH)) : Option (Int32 × PH) :=
  ldX xs L (i + (1 : Int32)) (fun (x29 : Int32) => cb (f_X11_fault 0 x29 hb) (fun (r30 : Int32) (h31 : PH) => ldX xs L (i + (1 : Int32)) (fun (x32 : Int32) => cb (f_X12_fault 152 x32 h31) (fun (r33 : Int32) (h34 : PH) => if r30 = r33 then (j2584 h34) else (some ((0 : Int32), h34))))))
set_option maxRecDepth 100000 in
set_option maxHeartbeats 4000000 in
theorem lb_2 {p : Program} {l : Launch} {e : Env} {s : State} {m : MethodId} {args : Array Value} {below : List Frame} {meth : Method} {c : Code} {D : va_G} {cA : Nat → ClassId} {ad : Nat → Nat} {A : Nat → Prop} {L : Nat} {xs : Nat → Int32} (hlt : l.stackTraces = false) (X : Cx p s m args c RL cL_law 8 D cA ad A) (hnc : nc cA = NC + 1) (hargs : ∃ b0 : Nat, args = #[Value.ref b0]) (hAs : ∀ q, A q → s.heap.size ≤ q) (hr : meth.sig.returnType = ret) (hlk : meth.locks = false) (hSc : va_X (ad 197) L xs s s.heap) (hSb : ad 197 < s.heap.size) (hSA : ¬ A (ad 197)) (cells slots : Nat) (hC : cells + 3 ≤ room_1.cells) (hS : slots + 18 ≤ room_1.slots) (i : Int32) (hb : PH) (j2584 : PH → Option (Int32 × PH)) (hj2584 : ∀ (h2 : PH), SWo (QL below args s) p l e room_1 s m args below meth c (cells + 3) (slots + 18) 8 D cA ad A 2584 [(0, .ref 197), (1, .ref 0), (2, .ref 152), (3, .ref NC), (4, .int i)] [] h2 (j2584 h2)) : SWo (QL below args s) p l e room_1 s m args below meth c cells slots 8 D cA ad A 353 [(0, .ref 197), (1, .ref 0), (2, .ref 152), (3, .ref NC), (4, .int i)] [] hb (br_2 xs L i hb j2584) := by
  have hroom1 : room_1.cells = 601024 := rfl
  have hroom2 : room_1.slots = 7293034 := rfl
  unfold br_2
  refine so_aload_n (i := 1) X 1 (dkL_law_2 (353, .aload_n 1, 1) (pgm 17 rfl)) rfl rfl ?_
  refine so_aload_n (i := 0) X 0 (dkL_law_2 (354, .aload_n 0, 1) (pgm 18 rfl)) rfl rfl ?_
  refine so_iload (i := 4) X 4 (dkL_law_2 (355, .iload 4, 2) (pgm 19 rfl)) rfl ?_
  refine so_iconst (v := (1 : Int32)) X (dkL_law_2 (357, .iconst 1, 1) (pgm 20 rfl)) ic_1 ?_
  refine so_iadd X (dkL_law_2 (358, .iadd, 1) (pgm 21 rfl)) ?_
  refine so_sld X hSc hSb hSA (dkL_law_2 (359, .iaload, 1) (pgm 22 rfl)) (fun x29 => ?_)
  refine so_callV (n := 1) (As := [.int x29]) X (ct_X11_fault l 0 x29 hb kx0) kx0 (by decide) rfl lk_622 lk_623 lk_624 lk_121 lk_625 (by decide +kernel) rfl rfl rfl ⟨Nat.le_of_ble_eq_true rfl, Nat.le_of_ble_eq_true rfl⟩ ⟨by omega, by omega⟩ (Nat.le_of_ble_eq_true rfl) (dkL_law_2 (360, .invokevirtual 148, 3) (pgm 23 rfl)) (fun r30 h31 => ?_) rfl
  refine so_aload_n (i := 2) X 2 (dkL_law_2 (363, .aload_n 2, 1) (pgm 24 rfl)) rfl rfl ?_
  refine so_aload_n (i := 0) X 0 (dkL_law_2 (364, .aload_n 0, 1) (pgm 25 rfl)) rfl rfl ?_
  refine so_iload (i := 4) X 4 (dkL_law_2 (365, .iload 4, 2) (pgm 26 rfl)) rfl ?_
  refine so_iconst (v := (1 : Int32)) X (dkL_law_2 (367, .iconst 1, 1) (pgm 27 rfl)) ic_1 ?_
  refine so_iadd X (dkL_law_2 (368, .iadd, 1) (pgm 28 rfl)) ?_
  refine so_sld X hSc hSb hSA (dkL_law_2 (369, .iaload, 1) (pgm 29 rfl)) (fun x32 => ?_)
  refine so_callV (n := 1) (As := [.int x32]) X (ct_X12_fault l 152 x32 h31 km0) km0 (by decide) rfl lk_1945 lk_1946 lk_1947 lk_134 lk_1948 (by decide +kernel) rfl rfl rfl ⟨Nat.le_of_ble_eq_true rfl, Nat.le_of_ble_eq_true rfl⟩ ⟨by omega, by omega⟩ (Nat.le_of_ble_eq_true rfl) (dkL_law_2 (370, .invokevirtual 151, 3) (pgm 30 rfl)) (fun r33 h34 => ?_) rfl
  refine so_icmp_eq (tgt := 2584) X (dkL_law_2 (373, .if_icmp .eq 2211, 3) (pgm 31 rfl)) rfl (fun _ => ?_) (fun _ => ?_)
  · refine so_widen (c1 := cells + 3) (s1 := slots + 18) (Nat.le_add_right _ _) (Nat.le_add_right _ _) ?_
    exact so_pick X [0, 1, 2, 3, 4] rfl (hj2584 h34)
  · refine so_iconst (v := (0 : Int32)) X (dkL_law_2 (376, .iconst 0, 1) (pgm 32 rfl)) ic_0 ?_
    exact so_lawret X hargs rfl hAs hr hlk (by omega) (by omega) (dkL_law_2 (377, .ireturn, 1) (pgm 33 rfl))
def br_3 (xs : Nat → Int32) (L : Nat) (i : Int32) (hb : PH) (j2584 : PH → Option (Int32 × PH)) : Option (Int32 × PH) :=
  ldX xs L (i + (1 : Int32)) (fun (x35 : Int32) => ldX xs L (i + (2 : Int32)) (fun (x36 : Int32) => cb (f_L_wish x35 x36 hb) (fun (r37 : Int32) (h38 : PH) => lt r37 (fun (x39 : Int32) => ldX xs L (i + (1 : Int32)) (fun (x40 : Int32) => ldX xs L (i + (2 : Int32)) (fun (x41 : Int32) => cb (f_X12_wish 152 x40 x41 h38) (fun (r42 : Int32) (h43 : PH) => lt r42 (fun (x44 : Int32) => cb (f_X12_thrown 152 h43) (fun (r45 : Int32) (h46 : PH) => if r45 = x39 then (lt (fun (h47 : PH) => j2584 h47) (fun (j443 : PH → Option (Int32 × PH)) => if x39 = 0 then (if (lg_cmp (h46.2 NC 0) x44.toInt64) = 0 then (j443 h46) else (some ((0 : Int32), h46))) else (j443 h46))) else (some ((0 : Int32), h46)))))))))))
set_option maxRecDepth 100000 in
set_option maxHeartbeats 4000000 in
theorem lb_3 {p : Program} {l : Launch} {e : Env} {s : State} {m : MethodId} {args : Array Value} {below : List Frame} {meth : Method} {c : Code} {D : va_G} {cA : Nat → ClassId} {ad : Nat → Nat} {A : Nat → Prop} {L : Nat} {xs : Nat → Int32} (hlt : l.stackTraces = false) (X : Cx p s m args c RL cL_law 8 D cA ad A) (hnc : nc cA = NC + 1) (hargs : ∃ b0 : Nat, args = #[Value.ref b0]) (hAs : ∀ q, A q → s.heap.size ≤ q) (hr : meth.sig.returnType = ret) (hlk : meth.locks = false) (hSc : va_X (ad 197) L xs s s.heap) (hSb : ad 197 < s.heap.size) (hSA : ¬ A (ad 197)) (cells slots : Nat) (hC : cells + 3 ≤ room_1.cells) (hS : slots + 18 ≤ room_1.slots) (i : Int32) (hb : PH) (j2584 : PH → Option (Int32 × PH)) (hj2584 : ∀ (h2 : PH), SWo (QL below args s) p l e room_1 s m args below meth c (cells + 3) (slots + 18) 8 D cA ad A 2584 [(0, .ref 197), (1, .ref 0), (2, .ref 152), (3, .ref NC), (4, .int i)] [] h2 (j2584 h2)) : SWo (QL below args s) p l e room_1 s m args below meth c cells slots 8 D cA ad A 378 [(0, .ref 197), (1, .ref 0), (2, .ref 152), (3, .ref NC), (4, .int i)] [] hb (br_3 xs L i hb j2584) := by
  have hroom1 : room_1.cells = 601024 := rfl
  have hroom2 : room_1.slots = 7293034 := rfl
  unfold br_3
  refine so_aload_n (i := 1) X 1 (dkL_law_2 (378, .aload_n 1, 1) (pgm 34 rfl)) rfl rfl ?_
  refine so_aload_n (i := 0) X 0 (dkL_law_2 (379, .aload_n 0, 1) (pgm 35 rfl)) rfl rfl ?_
  refine so_iload (i := 4) X 4 (dkL_law_2 (380, .iload 4, 2) (pgm 36 rfl)) rfl ?_
  refine so_iconst (v := (1 : Int32)) X (dkL_law_2 (382, .iconst 1, 1) (pgm 37 rfl)) ic_1 ?_
  refine so_iadd X (dkL_law_2 (383, .iadd, 1) (pgm 38 rfl)) ?_
  refine so_sld X hSc hSb hSA (dkL_law_2 (384, .iaload, 1) (pgm 39 rfl)) (fun x35 => ?_)
  refine so_aload_n (i := 0) X 0 (dkL_law_2 (385, .aload_n 0, 1) (pgm 40 rfl)) rfl rfl ?_
  refine so_iload (i := 4) X 4 (dkL_law_2 (386, .iload 4, 2) (pgm 41 rfl)) rfl ?_
  refine so_iconst (v := (2 : Int32)) X (dkL_law_2 (388, .iconst 2, 1) (pgm 42 rfl)) ic_2 ?_
  refine so_iadd X (dkL_law_2 (389, .iadd, 1) (pgm 43 rfl)) ?_
  refine so_sld X hSc hSb hSA (dkL_law_2 (390, .iaload, 1) (pgm 44 rfl)) (fun x36 => ?_)
  refine so_aload_n (i := 3) X 3 (dkL_law_2 (391, .aload_n 3, 1) (pgm 45 rfl)) rfl rfl ?_
  refine so_callW (n := 4) (As := [.ref 0, .int x35, .int x36, .ref NC]) X hnc (ct_L_wish l hlt x35 x36 hb) lk_1124 lk_1125 lk_120 lk_1126 (by decide +kernel) rfl rfl rfl ⟨Nat.le_of_ble_eq_true rfl, Nat.le_of_ble_eq_true rfl⟩ ⟨hC, hS⟩ (by decide) (dkL_law_2 (392, .invokestatic 152, 3) (pgm 46 rfl)) (fun r37 h38 => ?_) rfl
  refine so_istore (i := 5) X (dkL_law_2 (395, .istore 5, 2) (pgm 47 rfl)) (by decide) (Lf := fun x39 => [(5, .int x39), (0, .ref 197), (1, .ref 0), (2, .ref 152), (3, .ref NC), (4, .int i)]) (fun _ => rfl) (fun x39 => ?_)
  refine so_aload_n (i := 2) X 3 (dkL_law_2 (397, .aload_n 2, 1) (pgm 48 rfl)) rfl rfl ?_
  refine so_aload_n (i := 0) X 1 (dkL_law_2 (398, .aload_n 0, 1) (pgm 49 rfl)) rfl rfl ?_
  refine so_iload (i := 4) X 5 (dkL_law_3 (399, .iload 4, 2) (pgm 0 rfl)) rfl ?_
  refine so_iconst (v := (1 : Int32)) X (dkL_law_3 (401, .iconst 1, 1) (pgm 1 rfl)) ic_1 ?_
  refine so_iadd X (dkL_law_3 (402, .iadd, 1) (pgm 2 rfl)) ?_
  refine so_sld X hSc hSb hSA (dkL_law_3 (403, .iaload, 1) (pgm 3 rfl)) (fun x40 => ?_)
  refine so_aload_n (i := 0) X 1 (dkL_law_3 (404, .aload_n 0, 1) (pgm 4 rfl)) rfl rfl ?_
  refine so_iload (i := 4) X 5 (dkL_law_3 (405, .iload 4, 2) (pgm 5 rfl)) rfl ?_
  refine so_iconst (v := (2 : Int32)) X (dkL_law_3 (407, .iconst 2, 1) (pgm 6 rfl)) ic_2 ?_
  refine so_iadd X (dkL_law_3 (408, .iadd, 1) (pgm 7 rfl)) ?_
  refine so_sld X hSc hSb hSA (dkL_law_3 (409, .iaload, 1) (pgm 8 rfl)) (fun x41 => ?_)
  refine so_callV (n := 2) (As := [.int x40, .int x41]) X (ct_X12_wish l 152 x40 x41 h38 km0) km0 (by decide) rfl lk_1949 lk_1950 lk_1951 lk_134 lk_1952 (by decide +kernel) rfl rfl rfl ⟨Nat.le_of_ble_eq_true rfl, Nat.le_of_ble_eq_true rfl⟩ ⟨by omega, by omega⟩ (Nat.le_of_ble_eq_true rfl) (dkL_law_3 (410, .invokevirtual 155, 3) (pgm 9 rfl)) (fun r42 h43 => ?_) rfl
  refine so_istore (i := 6) X (dkL_law_3 (413, .istore 6, 2) (pgm 10 rfl)) (by decide) (Lf := fun x44 => [(6, .int x44), (5, .int x39), (0, .ref 197), (1, .ref 0), (2, .ref 152), (3, .ref NC), (4, .int i)]) (fun _ => rfl) (fun x44 => ?_)
  refine so_aload_n (i := 2) X 4 (dkL_law_3 (415, .aload_n 2, 1) (pgm 11 rfl)) rfl rfl ?_
  refine so_callV (n := 0) (As := []) X (ct_X12_thrown l 152 h43 km0) km0 (by decide) rfl lk_1820 lk_1821 lk_1822 lk_134 lk_1823 (by decide +kernel) rfl rfl rfl ⟨Nat.le_of_ble_eq_true rfl, Nat.le_of_ble_eq_true rfl⟩ ⟨by omega, by omega⟩ (Nat.le_of_ble_eq_true rfl) (dkL_law_3 (416, .invokevirtual 144, 3) (pgm 12 rfl)) (fun r45 h46 => ?_) rfl
  refine so_iload (i := 5) X 1 (dkL_law_3 (419, .iload 5, 2) (pgm 13 rfl)) rfl ?_
  refine so_icmp_eq (tgt := 426) X (dkL_law_3 (421, .if_icmp .eq 5, 3) (pgm 14 rfl)) rfl (fun _ => ?_) (fun _ => ?_)
  · refine so_iload (i := 5) X 1 (dkL_law_3 (426, .iload 5, 2) (pgm 17 rfl)) rfl ?_
    refine so_join (jf := fun (h47 : PH) => j2584 h47) (fun (j : PH → Option (Int32 × PH)) => ∀  (h47 : PH), SWo (QL below args s) p l e room_1 s m args below meth c (cells + 3) (slots + 18) 8 D cA ad A 443 [(0, .ref 197), (1, .ref 0), (2, .ref 152), (3, .ref NC), (4, .int i)] [] h47 (j h47)) ?_ (fun j443 hj443 => ?_)
    · intro h47
      refine so_goto (tgt := 2584) X (dkL_law_3 (443, .goto 2141, 3) (pgm 28 rfl)) rfl ?_
      exact so_pick X [0, 1, 2, 3, 4] rfl (hj2584 h47)
    refine so_if_ne (tgt := 443) X (dkL_law_3 (428, .ifCond .ne 15, 3) (pgm 18 rfl)) rfl (fun _ => ?_) (fun _ => ?_)
    · exact so_pick X [2, 3, 4, 5, 6] rfl (hj443 h46)
    · refine so_aload_n (i := 3) X 5 (dkL_law_3 (431, .aload_n 3, 1) (pgm 19 rfl)) rfl rfl ?_
      refine so_iconst (v := (0 : Int32)) X (dkL_law_3 (432, .iconst 0, 1) (pgm 20 rfl)) ic_0 ?_
      refine so_outLd X hnc (dkL_law_3 (433, .laload, 1) (pgm 21 rfl)) ?_
      refine so_iload (i := 6) X 0 (dkL_law_3 (434, .iload 6, 2) (pgm 22 rfl)) rfl ?_
      refine so_i2l X (dkL_law_3 (436, .i2l, 1) (pgm 23 rfl)) ?_
      refine so_lcmp X (dkL_law_3 (437, .lcmp, 1) (pgm 24 rfl)) ?_
      refine so_if_eq (tgt := 443) X (dkL_law_3 (438, .ifCond .eq 5, 3) (pgm 25 rfl)) rfl (fun _ => ?_) (fun _ => ?_)
      · exact so_pick X [2, 3, 4, 5, 6] rfl (hj443 h46)
      · refine so_iconst (v := (0 : Int32)) X (dkL_law_3 (441, .iconst 0, 1) (pgm 26 rfl)) ic_0 ?_
        exact so_lawret X hargs rfl hAs hr hlk (by omega) (by omega) (dkL_law_3 (442, .ireturn, 1) (pgm 27 rfl))
  · refine so_iconst (v := (0 : Int32)) X (dkL_law_3 (424, .iconst 0, 1) (pgm 15 rfl)) ic_0 ?_
    exact so_lawret X hargs rfl hAs hr hlk (by omega) (by omega) (dkL_law_3 (425, .ireturn, 1) (pgm 16 rfl))
def br_4 (xs : Nat → Int32) (L : Nat) (i : Int32) (hb : PH) (j2584 : PH → Option (Int32 × PH)) : Option (Int32 × PH) :=
  ldX xs L (i + (1 : Int32)) (fun (x48 : Int32) => cb (f_L_weather x48 hb) (fun (r49 : Int32) (h50 : PH) => lt r49 (fun (x51 : Int32) => ldX xs L (i + (1 : Int32)) (fun (x52 : Int32) => cb (f_X12_weather 152 x52 h50) (fun (r53 : Int32) (h54 : PH) => lt r53 (fun (x55 : Int32) => cb (f_X12_thrown 152 h54) (fun (r56 : Int32) (h57 : PH) => if r56 = x51 then (lt (fun (h58 : PH) => j2584 h58) (fun (j499 : PH → Option (Int32 × PH)) => if x51 = 0 then (if (lg_cmp (h57.2 NC 0) x55.toInt64) = 0 then (j499 h57) else (some ((0 : Int32), h57))) else (j499 h57))) else (some ((0 : Int32), h57)))))))))
set_option maxRecDepth 100000 in
set_option maxHeartbeats 4000000 in
theorem lb_4 {p : Program} {l : Launch} {e : Env} {s : State} {m : MethodId} {args : Array Value} {below : List Frame} {meth : Method} {c : Code} {D : va_G} {cA : Nat → ClassId} {ad : Nat → Nat} {A : Nat → Prop} {L : Nat} {xs : Nat → Int32} (hlt : l.stackTraces = false) (X : Cx p s m args c RL cL_law 8 D cA ad A) (hnc : nc cA = NC + 1) (hargs : ∃ b0 : Nat, args = #[Value.ref b0]) (hAs : ∀ q, A q → s.heap.size ≤ q) (hr : meth.sig.returnType = ret) (hlk : meth.locks = false) (hSc : va_X (ad 197) L xs s s.heap) (hSb : ad 197 < s.heap.size) (hSA : ¬ A (ad 197)) (cells slots : Nat) (hC : cells + 3 ≤ room_1.cells) (hS : slots + 18 ≤ room_1.slots) (i : Int32) (hb : PH) (j2584 : PH → Option (Int32 × PH)) (hj2584 : ∀ (h2 : PH), SWo (QL below args s) p l e room_1 s m args below meth c (cells + 3) (slots + 18) 8 D cA ad A 2584 [(0, .ref 197), (1, .ref 0), (2, .ref 152), (3, .ref NC), (4, .int i)] [] h2 (j2584 h2)) : SWo (QL below args s) p l e room_1 s m args below meth c cells slots 8 D cA ad A 446 [(0, .ref 197), (1, .ref 0), (2, .ref 152), (3, .ref NC), (4, .int i)] [] hb (br_4 xs L i hb j2584) := by
  have hroom1 : room_1.cells = 601024 := rfl
  have hroom2 : room_1.slots = 7293034 := rfl
  unfold br_4
  refine so_aload_n (i := 1) X 1 (dkL_law_3 (446, .aload_n 1, 1) (pgm 29 rfl)) rfl rfl ?_
  refine so_aload_n (i := 0) X 0 (dkL_law_3 (447, .aload_n 0, 1) (pgm 30 rfl)) rfl rfl ?_
  refine so_iload (i := 4) X 4 (dkL_law_3 (448, .iload 4, 2) (pgm 31 rfl)) rfl ?_
  refine so_iconst (v := (1 : Int32)) X (dkL_law_3 (450, .iconst 1, 1) (pgm 32 rfl)) ic_1 ?_
  refine so_iadd X (dkL_law_3 (451, .iadd, 1) (pgm 33 rfl)) ?_
  refine so_sld X hSc hSb hSA (dkL_law_3 (452, .iaload, 1) (pgm 34 rfl)) (fun x48 => ?_)
  refine so_aload_n (i := 3) X 3 (dkL_law_3 (453, .aload_n 3, 1) (pgm 35 rfl)) rfl rfl ?_
  refine so_callW (n := 3) (As := [.ref 0, .int x48, .ref NC]) X hnc (ct_L_weather l hlt x48 hb) lk_1157 lk_1158 lk_120 lk_1159 (by decide +kernel) rfl rfl rfl ⟨Nat.le_of_ble_eq_true rfl, Nat.le_of_ble_eq_true rfl⟩ ⟨hC, hS⟩ (by decide) (dkL_law_3 (454, .invokestatic 156, 3) (pgm 36 rfl)) (fun r49 h50 => ?_) rfl
  refine so_istore (i := 5) X (dkL_law_3 (457, .istore 5, 2) (pgm 37 rfl)) (by decide) (Lf := fun x51 => [(5, .int x51), (0, .ref 197), (1, .ref 0), (2, .ref 152), (3, .ref NC), (4, .int i)]) (fun _ => rfl) (fun x51 => ?_)
  refine so_aload_n (i := 2) X 3 (dkL_law_3 (459, .aload_n 2, 1) (pgm 38 rfl)) rfl rfl ?_
  refine so_aload_n (i := 0) X 1 (dkL_law_3 (460, .aload_n 0, 1) (pgm 39 rfl)) rfl rfl ?_
  refine so_iload (i := 4) X 5 (dkL_law_3 (461, .iload 4, 2) (pgm 40 rfl)) rfl ?_
  refine so_iconst (v := (1 : Int32)) X (dkL_law_3 (463, .iconst 1, 1) (pgm 41 rfl)) ic_1 ?_
  refine so_iadd X (dkL_law_3 (464, .iadd, 1) (pgm 42 rfl)) ?_
  refine so_sld X hSc hSb hSA (dkL_law_3 (465, .iaload, 1) (pgm 43 rfl)) (fun x52 => ?_)
  refine so_callV (n := 1) (As := [.int x52]) X (ct_X12_weather l 152 x52 h50 km0) km0 (by decide) rfl lk_1966 lk_1967 lk_1968 lk_134 lk_1969 (by decide +kernel) rfl rfl rfl ⟨Nat.le_of_ble_eq_true rfl, Nat.le_of_ble_eq_true rfl⟩ ⟨by omega, by omega⟩ (Nat.le_of_ble_eq_true rfl) (dkL_law_3 (466, .invokevirtual 158, 3) (pgm 44 rfl)) (fun r53 h54 => ?_) rfl
  refine so_istore (i := 6) X (dkL_law_3 (469, .istore 6, 2) (pgm 45 rfl)) (by decide) (Lf := fun x55 => [(6, .int x55), (5, .int x51), (0, .ref 197), (1, .ref 0), (2, .ref 152), (3, .ref NC), (4, .int i)]) (fun _ => rfl) (fun x55 => ?_)
  refine so_aload_n (i := 2) X 4 (dkL_law_3 (471, .aload_n 2, 1) (pgm 46 rfl)) rfl rfl ?_
  refine so_callV (n := 0) (As := []) X (ct_X12_thrown l 152 h54 km0) km0 (by decide) rfl lk_1820 lk_1821 lk_1822 lk_134 lk_1823 (by decide +kernel) rfl rfl rfl ⟨Nat.le_of_ble_eq_true rfl, Nat.le_of_ble_eq_true rfl⟩ ⟨by omega, by omega⟩ (Nat.le_of_ble_eq_true rfl) (dkL_law_3 (472, .invokevirtual 144, 3) (pgm 47 rfl)) (fun r56 h57 => ?_) rfl
  refine so_iload (i := 5) X 1 (dkL_law_3 (475, .iload 5, 2) (pgm 48 rfl)) rfl ?_
  refine so_icmp_eq (tgt := 482) X (dkL_law_3 (477, .if_icmp .eq 5, 3) (pgm 49 rfl)) rfl (fun _ => ?_) (fun _ => ?_)
  · refine so_iload (i := 5) X 1 (dkL_law_4 (482, .iload 5, 2) (pgm 2 rfl)) rfl ?_
    refine so_join (jf := fun (h58 : PH) => j2584 h58) (fun (j : PH → Option (Int32 × PH)) => ∀  (h58 : PH), SWo (QL below args s) p l e room_1 s m args below meth c (cells + 3) (slots + 18) 8 D cA ad A 499 [(0, .ref 197), (1, .ref 0), (2, .ref 152), (3, .ref NC), (4, .int i)] [] h58 (j h58)) ?_ (fun j499 hj499 => ?_)
    · intro h58
      refine so_goto (tgt := 2584) X (dkL_law_4 (499, .goto 2085, 3) (pgm 13 rfl)) rfl ?_
      exact so_pick X [0, 1, 2, 3, 4] rfl (hj2584 h58)
    refine so_if_ne (tgt := 499) X (dkL_law_4 (484, .ifCond .ne 15, 3) (pgm 3 rfl)) rfl (fun _ => ?_) (fun _ => ?_)
    · exact so_pick X [2, 3, 4, 5, 6] rfl (hj499 h57)
    · refine so_aload_n (i := 3) X 5 (dkL_law_4 (487, .aload_n 3, 1) (pgm 4 rfl)) rfl rfl ?_
      refine so_iconst (v := (0 : Int32)) X (dkL_law_4 (488, .iconst 0, 1) (pgm 5 rfl)) ic_0 ?_
      refine so_outLd X hnc (dkL_law_4 (489, .laload, 1) (pgm 6 rfl)) ?_
      refine so_iload (i := 6) X 0 (dkL_law_4 (490, .iload 6, 2) (pgm 7 rfl)) rfl ?_
      refine so_i2l X (dkL_law_4 (492, .i2l, 1) (pgm 8 rfl)) ?_
      refine so_lcmp X (dkL_law_4 (493, .lcmp, 1) (pgm 9 rfl)) ?_
      refine so_if_eq (tgt := 499) X (dkL_law_4 (494, .ifCond .eq 5, 3) (pgm 10 rfl)) rfl (fun _ => ?_) (fun _ => ?_)
      · exact so_pick X [2, 3, 4, 5, 6] rfl (hj499 h57)
      · refine so_iconst (v := (0 : Int32)) X (dkL_law_4 (497, .iconst 0, 1) (pgm 11 rfl)) ic_0 ?_
        exact so_lawret X hargs rfl hAs hr hlk (by omega) (by omega) (dkL_law_4 (498, .ireturn, 1) (pgm 12 rfl))
  · refine so_iconst (v := (0 : Int32)) X (dkL_law_4 (480, .iconst 0, 1) (pgm 0 rfl)) ic_0 ?_
    exact so_lawret X hargs rfl hAs hr hlk (by omega) (by omega) (dkL_law_4 (481, .ireturn, 1) (pgm 1 rfl))
def br_5 (xs : Nat → Int32) (L : Nat) (i : Int32) (hb : PH) (j2584 : PH → Option (Int32 × PH)) : Option (Int32 × PH) :=
  ldX xs L (i + (1 : Int32)) (fun (x59 : Int32) => ldX xs L (i + (2 : Int32)) (fun (x60 : Int32) => cb (f_L_holds x59 x60 hb) (fun (r61 : Int32) (h62 : PH) => lt r61 (fun (x63 : Int32) => ldX xs L (i + (1 : Int32)) (fun (x64 : Int32) => ldX xs L (i + (2 : Int32)) (fun (x65 : Int32) => cb (f_X12_holds 152 x64 x65 h62) (fun (r66 : Int32) (h67 : PH) => lt r66 (fun (x68 : Int32) => cb (f_X12_thrown 152 h67) (fun (r69 : Int32) (h70 : PH) => if r69 = x63 then (lt (fun (h71 : PH) => j2584 h71) (fun (j574 : PH → Option (Int32 × PH)) => if x63 = 0 then (lt (fun (t72 : Int64) (h73 : PH) => if (lg_cmp (h70.2 NC 0) t72) = 0 then (j574 h73) else (some ((0 : Int32), h73))) (fun (j568 : Int64 → PH → Option (Int32 × PH)) => if x68 = 0 then (j568 (0 : Int64) h70) else (j568 (1 : Int64) h70))) else (j574 h70))) else (some ((0 : Int32), h70)))))))))))
set_option maxRecDepth 100000 in
set_option maxHeartbeats 4000000 in
theorem lb_5 {p : Program} {l : Launch} {e : Env} {s : State} {m : MethodId} {args : Array Value} {below : List Frame} {meth : Method} {c : Code} {D : va_G} {cA : Nat → ClassId} {ad : Nat → Nat} {A : Nat → Prop} {L : Nat} {xs : Nat → Int32} (hlt : l.stackTraces = false) (X : Cx p s m args c RL cL_law 8 D cA ad A) (hnc : nc cA = NC + 1) (hargs : ∃ b0 : Nat, args = #[Value.ref b0]) (hAs : ∀ q, A q → s.heap.size ≤ q) (hr : meth.sig.returnType = ret) (hlk : meth.locks = false) (hSc : va_X (ad 197) L xs s s.heap) (hSb : ad 197 < s.heap.size) (hSA : ¬ A (ad 197)) (cells slots : Nat) (hC : cells + 3 ≤ room_1.cells) (hS : slots + 18 ≤ room_1.slots) (i : Int32) (hb : PH) (j2584 : PH → Option (Int32 × PH)) (hj2584 : ∀ (h2 : PH), SWo (QL below args s) p l e room_1 s m args below meth c (cells + 3) (slots + 18) 8 D cA ad A 2584 [(0, .ref 197), (1, .ref 0), (2, .ref 152), (3, .ref NC), (4, .int i)] [] h2 (j2584 h2)) : SWo (QL below args s) p l e room_1 s m args below meth c cells slots 8 D cA ad A 502 [(0, .ref 197), (1, .ref 0), (2, .ref 152), (3, .ref NC), (4, .int i)] [] hb (br_5 xs L i hb j2584) := by
  have hroom1 : room_1.cells = 601024 := rfl
  have hroom2 : room_1.slots = 7293034 := rfl
  unfold br_5
  refine so_aload_n (i := 1) X 1 (dkL_law_4 (502, .aload_n 1, 1) (pgm 14 rfl)) rfl rfl ?_
  refine so_aload_n (i := 0) X 0 (dkL_law_4 (503, .aload_n 0, 1) (pgm 15 rfl)) rfl rfl ?_
  refine so_iload (i := 4) X 4 (dkL_law_4 (504, .iload 4, 2) (pgm 16 rfl)) rfl ?_
  refine so_iconst (v := (1 : Int32)) X (dkL_law_4 (506, .iconst 1, 1) (pgm 17 rfl)) ic_1 ?_
  refine so_iadd X (dkL_law_4 (507, .iadd, 1) (pgm 18 rfl)) ?_
  refine so_sld X hSc hSb hSA (dkL_law_4 (508, .iaload, 1) (pgm 19 rfl)) (fun x59 => ?_)
  refine so_aload_n (i := 0) X 0 (dkL_law_4 (509, .aload_n 0, 1) (pgm 20 rfl)) rfl rfl ?_
  refine so_iload (i := 4) X 4 (dkL_law_4 (510, .iload 4, 2) (pgm 21 rfl)) rfl ?_
  refine so_iconst (v := (2 : Int32)) X (dkL_law_4 (512, .iconst 2, 1) (pgm 22 rfl)) ic_2 ?_
  refine so_iadd X (dkL_law_4 (513, .iadd, 1) (pgm 23 rfl)) ?_
  refine so_sld X hSc hSb hSA (dkL_law_4 (514, .iaload, 1) (pgm 24 rfl)) (fun x60 => ?_)
  refine so_aload_n (i := 3) X 3 (dkL_law_4 (515, .aload_n 3, 1) (pgm 25 rfl)) rfl rfl ?_
  refine so_callW (n := 4) (As := [.ref 0, .int x59, .int x60, .ref NC]) X hnc (ct_L_holds l hlt x59 x60 hb) lk_1170 lk_1171 lk_120 lk_1172 (by decide +kernel) rfl rfl rfl ⟨Nat.le_of_ble_eq_true rfl, Nat.le_of_ble_eq_true rfl⟩ ⟨hC, hS⟩ (by decide) (dkL_law_4 (516, .invokestatic 159, 3) (pgm 26 rfl)) (fun r61 h62 => ?_) rfl
  refine so_istore (i := 5) X (dkL_law_4 (519, .istore 5, 2) (pgm 27 rfl)) (by decide) (Lf := fun x63 => [(5, .int x63), (0, .ref 197), (1, .ref 0), (2, .ref 152), (3, .ref NC), (4, .int i)]) (fun _ => rfl) (fun x63 => ?_)
  refine so_aload_n (i := 2) X 3 (dkL_law_4 (521, .aload_n 2, 1) (pgm 28 rfl)) rfl rfl ?_
  refine so_aload_n (i := 0) X 1 (dkL_law_4 (522, .aload_n 0, 1) (pgm 29 rfl)) rfl rfl ?_
  refine so_iload (i := 4) X 5 (dkL_law_4 (523, .iload 4, 2) (pgm 30 rfl)) rfl ?_
  refine so_iconst (v := (1 : Int32)) X (dkL_law_4 (525, .iconst 1, 1) (pgm 31 rfl)) ic_1 ?_
  refine so_iadd X (dkL_law_4 (526, .iadd, 1) (pgm 32 rfl)) ?_
  refine so_sld X hSc hSb hSA (dkL_law_4 (527, .iaload, 1) (pgm 33 rfl)) (fun x64 => ?_)
  refine so_aload_n (i := 0) X 1 (dkL_law_4 (528, .aload_n 0, 1) (pgm 34 rfl)) rfl rfl ?_
  refine so_iload (i := 4) X 5 (dkL_law_4 (529, .iload 4, 2) (pgm 35 rfl)) rfl ?_
  refine so_iconst (v := (2 : Int32)) X (dkL_law_4 (531, .iconst 2, 1) (pgm 36 rfl)) ic_2 ?_
  refine so_iadd X (dkL_law_4 (532, .iadd, 1) (pgm 37 rfl)) ?_
  refine so_sld X hSc hSb hSA (dkL_law_4 (533, .iaload, 1) (pgm 38 rfl)) (fun x65 => ?_)
  refine so_callV (n := 2) (As := [.int x64, .int x65]) X (ct_X12_holds l 152 x64 x65 h62 km0) km0 (by decide) rfl lk_1974 lk_1975 lk_1976 lk_134 lk_1977 (by decide +kernel) rfl rfl rfl ⟨Nat.le_of_ble_eq_true rfl, Nat.le_of_ble_eq_true rfl⟩ ⟨by omega, by omega⟩ (Nat.le_of_ble_eq_true rfl) (dkL_law_4 (534, .invokevirtual 161, 3) (pgm 39 rfl)) (fun r66 h67 => ?_) rfl
  refine so_istore (i := 6) X (dkL_law_4 (537, .istore 6, 2) (pgm 40 rfl)) (by decide) (Lf := fun x68 => [(6, .int x68), (5, .int x63), (0, .ref 197), (1, .ref 0), (2, .ref 152), (3, .ref NC), (4, .int i)]) (fun _ => rfl) (fun x68 => ?_)
  refine so_aload_n (i := 2) X 4 (dkL_law_4 (539, .aload_n 2, 1) (pgm 41 rfl)) rfl rfl ?_
  refine so_callV (n := 0) (As := []) X (ct_X12_thrown l 152 h67 km0) km0 (by decide) rfl lk_1820 lk_1821 lk_1822 lk_134 lk_1823 (by decide +kernel) rfl rfl rfl ⟨Nat.le_of_ble_eq_true rfl, Nat.le_of_ble_eq_true rfl⟩ ⟨by omega, by omega⟩ (Nat.le_of_ble_eq_true rfl) (dkL_law_4 (540, .invokevirtual 144, 3) (pgm 42 rfl)) (fun r69 h70 => ?_) rfl
  refine so_iload (i := 5) X 1 (dkL_law_4 (543, .iload 5, 2) (pgm 43 rfl)) rfl ?_
  refine so_icmp_eq (tgt := 550) X (dkL_law_4 (545, .if_icmp .eq 5, 3) (pgm 44 rfl)) rfl (fun _ => ?_) (fun _ => ?_)
  · refine so_iload (i := 5) X 1 (dkL_law_4 (550, .iload 5, 2) (pgm 47 rfl)) rfl ?_
    refine so_join (jf := fun (h71 : PH) => j2584 h71) (fun (j : PH → Option (Int32 × PH)) => ∀  (h71 : PH), SWo (QL below args s) p l e room_1 s m args below meth c (cells + 3) (slots + 18) 8 D cA ad A 574 [(0, .ref 197), (1, .ref 0), (2, .ref 152), (3, .ref NC), (4, .int i)] [] h71 (j h71)) ?_ (fun j574 hj574 => ?_)
    · intro h71
      refine so_goto (tgt := 2584) X (dkL_law_5 (574, .goto 2010, 3) (pgm 11 rfl)) rfl ?_
      exact so_pick X [0, 1, 2, 3, 4] rfl (hj2584 h71)
    refine so_if_ne (tgt := 574) X (dkL_law_4 (552, .ifCond .ne 22, 3) (pgm 48 rfl)) rfl (fun _ => ?_) (fun _ => ?_)
    · exact so_pick X [2, 3, 4, 5, 6] rfl (hj574 h70)
    · refine so_aload_n (i := 3) X 5 (dkL_law_4 (555, .aload_n 3, 1) (pgm 49 rfl)) rfl rfl ?_
      refine so_iconst (v := (0 : Int32)) X (dkL_law_5 (556, .iconst 0, 1) (pgm 0 rfl)) ic_0 ?_
      refine so_outLd X hnc (dkL_law_5 (557, .laload, 1) (pgm 1 rfl)) ?_
      refine so_iload (i := 6) X 0 (dkL_law_5 (558, .iload 6, 2) (pgm 2 rfl)) rfl ?_
      refine so_join (jf := fun (t72 : Int64) (h73 : PH) => if (lg_cmp (h70.2 NC 0) t72) = 0 then (j574 h73) else (some ((0 : Int32), h73))) (fun (j : Int64 → PH → Option (Int32 × PH)) => ∀ (t72 : Int64) (h73 : PH), SWo (QL below args s) p l e room_1 s m args below meth c (cells + 3) (slots + 18) 8 D cA ad A 568 [(0, .ref 197), (1, .ref 0), (2, .ref 152), (3, .ref NC), (4, .int i)] [.long t72, .long (h70.2 NC 0)] h73 (j t72 h73)) ?_ (fun j568 hj568 => ?_)
      · intro t72 h73
        refine so_lcmp X (dkL_law_5 (568, .lcmp, 1) (pgm 7 rfl)) ?_
        refine so_if_eq (tgt := 574) X (dkL_law_5 (569, .ifCond .eq 5, 3) (pgm 8 rfl)) rfl (fun _ => ?_) (fun _ => ?_)
        · exact so_pick X [0, 1, 2, 3, 4] rfl (hj574 h73)
        · refine so_iconst (v := (0 : Int32)) X (dkL_law_5 (572, .iconst 0, 1) (pgm 9 rfl)) ic_0 ?_
          exact so_lawret X hargs rfl hAs hr hlk (by omega) (by omega) (dkL_law_5 (573, .ireturn, 1) (pgm 10 rfl))
      refine so_if_eq (tgt := 567) X (dkL_law_5 (560, .ifCond .eq 7, 3) (pgm 3 rfl)) rfl (fun _ => ?_) (fun _ => ?_)
      · refine so_lconst (v := (0 : Int64)) X (dkL_law_5 (567, .lconst 0, 1) (pgm 6 rfl)) lc_0 ?_
        exact so_pick X [2, 3, 4, 5, 6] rfl (hj568 (0 : Int64) h70)
      · refine so_lconst (v := (1 : Int64)) X (dkL_law_5 (563, .lconst 1, 1) (pgm 4 rfl)) lc_1 ?_
        refine so_goto (tgt := 568) X (dkL_law_5 (564, .goto 4, 3) (pgm 5 rfl)) rfl ?_
        exact so_pick X [2, 3, 4, 5, 6] rfl (hj568 (1 : Int64) h70)
  · refine so_iconst (v := (0 : Int32)) X (dkL_law_4 (548, .iconst 0, 1) (pgm 45 rfl)) ic_0 ?_
    exact so_lawret X hargs rfl hAs hr hlk (by omega) (by omega) (dkL_law_4 (549, .ireturn, 1) (pgm 46 rfl))
def br_6 (xs : Nat → Int32) (L : Nat) (i : Int32) (hb : PH) (j2584 : PH → Option (Int32 × PH)) : Option (Int32 × PH) :=
  ldX xs L (i + (1 : Int32)) (fun (x74 : Int32) => cb (f_X11_why 0 x74 hb) (fun (r75 : Int32) (h76 : PH) => ldX xs L (i + (1 : Int32)) (fun (x77 : Int32) => cb (f_X12_why 152 x77 h76) (fun (r78 : Int32) (h79 : PH) => if r75 = r78 then (j2584 h79) else (some ((0 : Int32), h79))))))
set_option maxRecDepth 100000 in
set_option maxHeartbeats 4000000 in
theorem lb_6 {p : Program} {l : Launch} {e : Env} {s : State} {m : MethodId} {args : Array Value} {below : List Frame} {meth : Method} {c : Code} {D : va_G} {cA : Nat → ClassId} {ad : Nat → Nat} {A : Nat → Prop} {L : Nat} {xs : Nat → Int32} (hlt : l.stackTraces = false) (X : Cx p s m args c RL cL_law 8 D cA ad A) (hnc : nc cA = NC + 1) (hargs : ∃ b0 : Nat, args = #[Value.ref b0]) (hAs : ∀ q, A q → s.heap.size ≤ q) (hr : meth.sig.returnType = ret) (hlk : meth.locks = false) (hSc : va_X (ad 197) L xs s s.heap) (hSb : ad 197 < s.heap.size) (hSA : ¬ A (ad 197)) (cells slots : Nat) (hC : cells + 3 ≤ room_1.cells) (hS : slots + 18 ≤ room_1.slots) (i : Int32) (hb : PH) (j2584 : PH → Option (Int32 × PH)) (hj2584 : ∀ (h2 : PH), SWo (QL below args s) p l e room_1 s m args below meth c (cells + 3) (slots + 18) 8 D cA ad A 2584 [(0, .ref 197), (1, .ref 0), (2, .ref 152), (3, .ref NC), (4, .int i)] [] h2 (j2584 h2)) : SWo (QL below args s) p l e room_1 s m args below meth c cells slots 8 D cA ad A 577 [(0, .ref 197), (1, .ref 0), (2, .ref 152), (3, .ref NC), (4, .int i)] [] hb (br_6 xs L i hb j2584) := by
  have hroom1 : room_1.cells = 601024 := rfl
  have hroom2 : room_1.slots = 7293034 := rfl
  unfold br_6
  refine so_aload_n (i := 1) X 1 (dkL_law_5 (577, .aload_n 1, 1) (pgm 12 rfl)) rfl rfl ?_
  refine so_aload_n (i := 0) X 0 (dkL_law_5 (578, .aload_n 0, 1) (pgm 13 rfl)) rfl rfl ?_
  refine so_iload (i := 4) X 4 (dkL_law_5 (579, .iload 4, 2) (pgm 14 rfl)) rfl ?_
  refine so_iconst (v := (1 : Int32)) X (dkL_law_5 (581, .iconst 1, 1) (pgm 15 rfl)) ic_1 ?_
  refine so_iadd X (dkL_law_5 (582, .iadd, 1) (pgm 16 rfl)) ?_
  refine so_sld X hSc hSb hSA (dkL_law_5 (583, .iaload, 1) (pgm 17 rfl)) (fun x74 => ?_)
  refine so_callV (n := 1) (As := [.int x74]) X (ct_X11_why l 0 x74 hb kx0) kx0 (by decide) rfl lk_626 lk_627 lk_628 lk_121 lk_629 (by decide +kernel) rfl rfl rfl ⟨Nat.le_of_ble_eq_true rfl, Nat.le_of_ble_eq_true rfl⟩ ⟨by omega, by omega⟩ (Nat.le_of_ble_eq_true rfl) (dkL_law_5 (584, .invokevirtual 162, 3) (pgm 18 rfl)) (fun r75 h76 => ?_) rfl
  refine so_aload_n (i := 2) X 2 (dkL_law_5 (587, .aload_n 2, 1) (pgm 19 rfl)) rfl rfl ?_
  refine so_aload_n (i := 0) X 0 (dkL_law_5 (588, .aload_n 0, 1) (pgm 20 rfl)) rfl rfl ?_
  refine so_iload (i := 4) X 4 (dkL_law_5 (589, .iload 4, 2) (pgm 21 rfl)) rfl ?_
  refine so_iconst (v := (1 : Int32)) X (dkL_law_5 (591, .iconst 1, 1) (pgm 22 rfl)) ic_1 ?_
  refine so_iadd X (dkL_law_5 (592, .iadd, 1) (pgm 23 rfl)) ?_
  refine so_sld X hSc hSb hSA (dkL_law_5 (593, .iaload, 1) (pgm 24 rfl)) (fun x77 => ?_)
  refine so_callV (n := 1) (As := [.int x77]) X (ct_X12_why l 152 x77 h76 km0) km0 (by decide) rfl lk_1978 lk_1979 lk_1980 lk_134 lk_1981 (by decide +kernel) rfl rfl rfl ⟨Nat.le_of_ble_eq_true rfl, Nat.le_of_ble_eq_true rfl⟩ ⟨by omega, by omega⟩ (Nat.le_of_ble_eq_true rfl) (dkL_law_5 (594, .invokevirtual 165, 3) (pgm 25 rfl)) (fun r78 h79 => ?_) rfl
  refine so_icmp_eq (tgt := 2584) X (dkL_law_5 (597, .if_icmp .eq 1987, 3) (pgm 26 rfl)) rfl (fun _ => ?_) (fun _ => ?_)
  · refine so_widen (c1 := cells + 3) (s1 := slots + 18) (Nat.le_add_right _ _) (Nat.le_add_right _ _) ?_
    exact so_pick X [0, 1, 2, 3, 4] rfl (hj2584 h79)
  · refine so_iconst (v := (0 : Int32)) X (dkL_law_5 (600, .iconst 0, 1) (pgm 27 rfl)) ic_0 ?_
    exact so_lawret X hargs rfl hAs hr hlk (by omega) (by omega) (dkL_law_5 (601, .ireturn, 1) (pgm 28 rfl))
def br_7 (xs : Nat → Int32) (L : Nat) (i : Int32) (hb : PH) (j2584 : PH → Option (Int32 × PH)) : Option (Int32 × PH) :=
  ldX xs L (i + (1 : Int32)) (fun (x80 : Int32) => cb (f_L_granted x80 hb) (fun (r81 : Int32) (h82 : PH) => lt r81 (fun (x83 : Int32) => ldX xs L (i + (1 : Int32)) (fun (x84 : Int32) => cb (f_X12_granted 152 x84 h82) (fun (r85 : Int32) (h86 : PH) => lt r85 (fun (x87 : Int32) => cb (f_X12_thrown 152 h86) (fun (r88 : Int32) (h89 : PH) => if r88 = x83 then (lt (fun (h90 : PH) => j2584 h90) (fun (j655 : PH → Option (Int32 × PH)) => if x83 = 0 then (if (lg_cmp (h89.2 NC 0) x87.toInt64) = 0 then (j655 h89) else (some ((0 : Int32), h89))) else (j655 h89))) else (some ((0 : Int32), h89)))))))))
set_option maxRecDepth 100000 in
set_option maxHeartbeats 4000000 in
theorem lb_7 {p : Program} {l : Launch} {e : Env} {s : State} {m : MethodId} {args : Array Value} {below : List Frame} {meth : Method} {c : Code} {D : va_G} {cA : Nat → ClassId} {ad : Nat → Nat} {A : Nat → Prop} {L : Nat} {xs : Nat → Int32} (hlt : l.stackTraces = false) (X : Cx p s m args c RL cL_law 8 D cA ad A) (hnc : nc cA = NC + 1) (hargs : ∃ b0 : Nat, args = #[Value.ref b0]) (hAs : ∀ q, A q → s.heap.size ≤ q) (hr : meth.sig.returnType = ret) (hlk : meth.locks = false) (hSc : va_X (ad 197) L xs s s.heap) (hSb : ad 197 < s.heap.size) (hSA : ¬ A (ad 197)) (cells slots : Nat) (hC : cells + 3 ≤ room_1.cells) (hS : slots + 18 ≤ room_1.slots) (i : Int32) (hb : PH) (j2584 : PH → Option (Int32 × PH)) (hj2584 : ∀ (h2 : PH), SWo (QL below args s) p l e room_1 s m args below meth c (cells + 3) (slots + 18) 8 D cA ad A 2584 [(0, .ref 197), (1, .ref 0), (2, .ref 152), (3, .ref NC), (4, .int i)] [] h2 (j2584 h2)) : SWo (QL below args s) p l e room_1 s m args below meth c cells slots 8 D cA ad A 602 [(0, .ref 197), (1, .ref 0), (2, .ref 152), (3, .ref NC), (4, .int i)] [] hb (br_7 xs L i hb j2584) := by
  have hroom1 : room_1.cells = 601024 := rfl
  have hroom2 : room_1.slots = 7293034 := rfl
  unfold br_7
  refine so_aload_n (i := 1) X 1 (dkL_law_5 (602, .aload_n 1, 1) (pgm 29 rfl)) rfl rfl ?_
  refine so_aload_n (i := 0) X 0 (dkL_law_5 (603, .aload_n 0, 1) (pgm 30 rfl)) rfl rfl ?_
  refine so_iload (i := 4) X 4 (dkL_law_5 (604, .iload 4, 2) (pgm 31 rfl)) rfl ?_
  refine so_iconst (v := (1 : Int32)) X (dkL_law_5 (606, .iconst 1, 1) (pgm 32 rfl)) ic_1 ?_
  refine so_iadd X (dkL_law_5 (607, .iadd, 1) (pgm 33 rfl)) ?_
  refine so_sld X hSc hSb hSA (dkL_law_5 (608, .iaload, 1) (pgm 34 rfl)) (fun x80 => ?_)
  refine so_aload_n (i := 3) X 3 (dkL_law_5 (609, .aload_n 3, 1) (pgm 35 rfl)) rfl rfl ?_
  refine so_callW (n := 3) (As := [.ref 0, .int x80, .ref NC]) X hnc (ct_L_granted l hlt x80 hb) lk_1178 lk_1179 lk_120 lk_1180 (by decide +kernel) rfl rfl rfl ⟨Nat.le_of_ble_eq_true rfl, Nat.le_of_ble_eq_true rfl⟩ ⟨hC, hS⟩ (by decide) (dkL_law_5 (610, .invokestatic 166, 3) (pgm 36 rfl)) (fun r81 h82 => ?_) rfl
  refine so_istore (i := 5) X (dkL_law_5 (613, .istore 5, 2) (pgm 37 rfl)) (by decide) (Lf := fun x83 => [(5, .int x83), (0, .ref 197), (1, .ref 0), (2, .ref 152), (3, .ref NC), (4, .int i)]) (fun _ => rfl) (fun x83 => ?_)
  refine so_aload_n (i := 2) X 3 (dkL_law_5 (615, .aload_n 2, 1) (pgm 38 rfl)) rfl rfl ?_
  refine so_aload_n (i := 0) X 1 (dkL_law_5 (616, .aload_n 0, 1) (pgm 39 rfl)) rfl rfl ?_
  refine so_iload (i := 4) X 5 (dkL_law_5 (617, .iload 4, 2) (pgm 40 rfl)) rfl ?_
  refine so_iconst (v := (1 : Int32)) X (dkL_law_5 (619, .iconst 1, 1) (pgm 41 rfl)) ic_1 ?_
  refine so_iadd X (dkL_law_5 (620, .iadd, 1) (pgm 42 rfl)) ?_
  refine so_sld X hSc hSb hSA (dkL_law_5 (621, .iaload, 1) (pgm 43 rfl)) (fun x84 => ?_)
  refine so_callV (n := 1) (As := [.int x84]) X (ct_X12_granted l 152 x84 h82 km0) km0 (by decide) rfl lk_1994 lk_1995 lk_1996 lk_134 lk_1997 (by decide +kernel) rfl rfl rfl ⟨Nat.le_of_ble_eq_true rfl, Nat.le_of_ble_eq_true rfl⟩ ⟨by omega, by omega⟩ (Nat.le_of_ble_eq_true rfl) (dkL_law_5 (622, .invokevirtual 168, 3) (pgm 44 rfl)) (fun r85 h86 => ?_) rfl
  refine so_istore (i := 6) X (dkL_law_5 (625, .istore 6, 2) (pgm 45 rfl)) (by decide) (Lf := fun x87 => [(6, .int x87), (5, .int x83), (0, .ref 197), (1, .ref 0), (2, .ref 152), (3, .ref NC), (4, .int i)]) (fun _ => rfl) (fun x87 => ?_)
  refine so_aload_n (i := 2) X 4 (dkL_law_5 (627, .aload_n 2, 1) (pgm 46 rfl)) rfl rfl ?_
  refine so_callV (n := 0) (As := []) X (ct_X12_thrown l 152 h86 km0) km0 (by decide) rfl lk_1820 lk_1821 lk_1822 lk_134 lk_1823 (by decide +kernel) rfl rfl rfl ⟨Nat.le_of_ble_eq_true rfl, Nat.le_of_ble_eq_true rfl⟩ ⟨by omega, by omega⟩ (Nat.le_of_ble_eq_true rfl) (dkL_law_5 (628, .invokevirtual 144, 3) (pgm 47 rfl)) (fun r88 h89 => ?_) rfl
  refine so_iload (i := 5) X 1 (dkL_law_5 (631, .iload 5, 2) (pgm 48 rfl)) rfl ?_
  refine so_icmp_eq (tgt := 638) X (dkL_law_5 (633, .if_icmp .eq 5, 3) (pgm 49 rfl)) rfl (fun _ => ?_) (fun _ => ?_)
  · refine so_iload (i := 5) X 1 (dkL_law_6 (638, .iload 5, 2) (pgm 2 rfl)) rfl ?_
    refine so_join (jf := fun (h90 : PH) => j2584 h90) (fun (j : PH → Option (Int32 × PH)) => ∀  (h90 : PH), SWo (QL below args s) p l e room_1 s m args below meth c (cells + 3) (slots + 18) 8 D cA ad A 655 [(0, .ref 197), (1, .ref 0), (2, .ref 152), (3, .ref NC), (4, .int i)] [] h90 (j h90)) ?_ (fun j655 hj655 => ?_)
    · intro h90
      refine so_goto (tgt := 2584) X (dkL_law_6 (655, .goto 1929, 3) (pgm 13 rfl)) rfl ?_
      exact so_pick X [0, 1, 2, 3, 4] rfl (hj2584 h90)
    refine so_if_ne (tgt := 655) X (dkL_law_6 (640, .ifCond .ne 15, 3) (pgm 3 rfl)) rfl (fun _ => ?_) (fun _ => ?_)
    · exact so_pick X [2, 3, 4, 5, 6] rfl (hj655 h89)
    · refine so_aload_n (i := 3) X 5 (dkL_law_6 (643, .aload_n 3, 1) (pgm 4 rfl)) rfl rfl ?_
      refine so_iconst (v := (0 : Int32)) X (dkL_law_6 (644, .iconst 0, 1) (pgm 5 rfl)) ic_0 ?_
      refine so_outLd X hnc (dkL_law_6 (645, .laload, 1) (pgm 6 rfl)) ?_
      refine so_iload (i := 6) X 0 (dkL_law_6 (646, .iload 6, 2) (pgm 7 rfl)) rfl ?_
      refine so_i2l X (dkL_law_6 (648, .i2l, 1) (pgm 8 rfl)) ?_
      refine so_lcmp X (dkL_law_6 (649, .lcmp, 1) (pgm 9 rfl)) ?_
      refine so_if_eq (tgt := 655) X (dkL_law_6 (650, .ifCond .eq 5, 3) (pgm 10 rfl)) rfl (fun _ => ?_) (fun _ => ?_)
      · exact so_pick X [2, 3, 4, 5, 6] rfl (hj655 h89)
      · refine so_iconst (v := (0 : Int32)) X (dkL_law_6 (653, .iconst 0, 1) (pgm 11 rfl)) ic_0 ?_
        exact so_lawret X hargs rfl hAs hr hlk (by omega) (by omega) (dkL_law_6 (654, .ireturn, 1) (pgm 12 rfl))
  · refine so_iconst (v := (0 : Int32)) X (dkL_law_6 (636, .iconst 0, 1) (pgm 0 rfl)) ic_0 ?_
    exact so_lawret X hargs rfl hAs hr hlk (by omega) (by omega) (dkL_law_6 (637, .ireturn, 1) (pgm 1 rfl))
def br_8 (xs : Nat → Int32) (L : Nat) (i : Int32) (hb : PH) (j2584 : PH → Option (Int32 × PH)) : Option (Int32 × PH) :=
  cb (f_X11_plans 0 hb) (fun (r91 : Int32) (h92 : PH) => cb (f_X12_plans 152 h92) (fun (r93 : Int32) (h94 : PH) => if r91 = r93 then (j2584 h94) else (some ((0 : Int32), h94))))
set_option maxRecDepth 100000 in
set_option maxHeartbeats 4000000 in
theorem lb_8 {p : Program} {l : Launch} {e : Env} {s : State} {m : MethodId} {args : Array Value} {below : List Frame} {meth : Method} {c : Code} {D : va_G} {cA : Nat → ClassId} {ad : Nat → Nat} {A : Nat → Prop} {L : Nat} {xs : Nat → Int32} (hlt : l.stackTraces = false) (X : Cx p s m args c RL cL_law 8 D cA ad A) (hnc : nc cA = NC + 1) (hargs : ∃ b0 : Nat, args = #[Value.ref b0]) (hAs : ∀ q, A q → s.heap.size ≤ q) (hr : meth.sig.returnType = ret) (hlk : meth.locks = false) (hSc : va_X (ad 197) L xs s s.heap) (hSb : ad 197 < s.heap.size) (hSA : ¬ A (ad 197)) (cells slots : Nat) (hC : cells + 3 ≤ room_1.cells) (hS : slots + 18 ≤ room_1.slots) (i : Int32) (hb : PH) (j2584 : PH → Option (Int32 × PH)) (hj2584 : ∀ (h2 : PH), SWo (QL below args s) p l e room_1 s m args below meth c (cells + 3) (slots + 18) 8 D cA ad A 2584 [(0, .ref 197), (1, .ref 0), (2, .ref 152), (3, .ref NC), (4, .int i)] [] h2 (j2584 h2)) : SWo (QL below args s) p l e room_1 s m args below meth c cells slots 8 D cA ad A 658 [(0, .ref 197), (1, .ref 0), (2, .ref 152), (3, .ref NC), (4, .int i)] [] hb (br_8 xs L i hb j2584) := by
  have hroom1 : room_1.cells = 601024 := rfl
  have hroom2 : room_1.slots = 7293034 := rfl
  unfold br_8
  refine so_aload_n (i := 1) X 1 (dkL_law_6 (658, .aload_n 1, 1) (pgm 14 rfl)) rfl rfl ?_
  refine so_callV (n := 0) (As := []) X (ct_X11_plans l 0 hb kx0) kx0 (by decide) rfl lk_662 lk_663 lk_664 lk_121 lk_665 (by decide +kernel) rfl rfl rfl ⟨Nat.le_of_ble_eq_true rfl, Nat.le_of_ble_eq_true rfl⟩ ⟨by omega, by omega⟩ (Nat.le_of_ble_eq_true rfl) (dkL_law_6 (659, .invokevirtual 169, 3) (pgm 15 rfl)) (fun r91 h92 => ?_) rfl
  refine so_aload_n (i := 2) X 2 (dkL_law_6 (662, .aload_n 2, 1) (pgm 16 rfl)) rfl rfl ?_
  refine so_callV (n := 0) (As := []) X (ct_X12_plans l 152 h92 km0) km0 (by decide) rfl lk_1998 lk_1999 lk_2000 lk_134 lk_2001 (by decide +kernel) rfl rfl rfl ⟨Nat.le_of_ble_eq_true rfl, Nat.le_of_ble_eq_true rfl⟩ ⟨by omega, by omega⟩ (Nat.le_of_ble_eq_true rfl) (dkL_law_6 (663, .invokevirtual 172, 3) (pgm 17 rfl)) (fun r93 h94 => ?_) rfl
  refine so_icmp_eq (tgt := 2584) X (dkL_law_6 (666, .if_icmp .eq 1918, 3) (pgm 18 rfl)) rfl (fun _ => ?_) (fun _ => ?_)
  · refine so_widen (c1 := cells + 3) (s1 := slots + 18) (Nat.le_add_right _ _) (Nat.le_add_right _ _) ?_
    exact so_pick X [0, 1, 2, 3, 4] rfl (hj2584 h94)
  · refine so_iconst (v := (0 : Int32)) X (dkL_law_6 (669, .iconst 0, 1) (pgm 19 rfl)) ic_0 ?_
    exact so_lawret X hargs rfl hAs hr hlk (by omega) (by omega) (dkL_law_6 (670, .ireturn, 1) (pgm 20 rfl))
def br_9 (xs : Nat → Int32) (L : Nat) (i : Int32) (hb : PH) (j2584 : PH → Option (Int32 × PH)) : Option (Int32 × PH) :=
  ldX xs L (i + (1 : Int32)) (fun (x95 : Int32) => cb (f_L_together x95 hb) (fun (r96 : Int32) (h97 : PH) => lt r96 (fun (x98 : Int32) => ldX xs L (i + (1 : Int32)) (fun (x99 : Int32) => cb (f_X12_together 152 x99 h97) (fun (r100 : Int32) (h101 : PH) => lt r100 (fun (x102 : Int32) => cb (f_X12_thrown 152 h101) (fun (r103 : Int32) (h104 : PH) => if r103 = x98 then (lt (fun (h105 : PH) => j2584 h105) (fun (j724 : PH → Option (Int32 × PH)) => if x98 = 0 then (if (lg_cmp (h104.2 NC 0) x102.toInt64) = 0 then (j724 h104) else (some ((0 : Int32), h104))) else (j724 h104))) else (some ((0 : Int32), h104)))))))))
set_option maxRecDepth 100000 in
set_option maxHeartbeats 4000000 in
theorem lb_9 {p : Program} {l : Launch} {e : Env} {s : State} {m : MethodId} {args : Array Value} {below : List Frame} {meth : Method} {c : Code} {D : va_G} {cA : Nat → ClassId} {ad : Nat → Nat} {A : Nat → Prop} {L : Nat} {xs : Nat → Int32} (hlt : l.stackTraces = false) (X : Cx p s m args c RL cL_law 8 D cA ad A) (hnc : nc cA = NC + 1) (hargs : ∃ b0 : Nat, args = #[Value.ref b0]) (hAs : ∀ q, A q → s.heap.size ≤ q) (hr : meth.sig.returnType = ret) (hlk : meth.locks = false) (hSc : va_X (ad 197) L xs s s.heap) (hSb : ad 197 < s.heap.size) (hSA : ¬ A (ad 197)) (cells slots : Nat) (hC : cells + 3 ≤ room_1.cells) (hS : slots + 18 ≤ room_1.slots) (i : Int32) (hb : PH) (j2584 : PH → Option (Int32 × PH)) (hj2584 : ∀ (h2 : PH), SWo (QL below args s) p l e room_1 s m args below meth c (cells + 3) (slots + 18) 8 D cA ad A 2584 [(0, .ref 197), (1, .ref 0), (2, .ref 152), (3, .ref NC), (4, .int i)] [] h2 (j2584 h2)) : SWo (QL below args s) p l e room_1 s m args below meth c cells slots 8 D cA ad A 671 [(0, .ref 197), (1, .ref 0), (2, .ref 152), (3, .ref NC), (4, .int i)] [] hb (br_9 xs L i hb j2584) := by
  have hroom1 : room_1.cells = 601024 := rfl
  have hroom2 : room_1.slots = 7293034 := rfl
  unfold br_9
  refine so_aload_n (i := 1) X 1 (dkL_law_6 (671, .aload_n 1, 1) (pgm 21 rfl)) rfl rfl ?_
  refine so_aload_n (i := 0) X 0 (dkL_law_6 (672, .aload_n 0, 1) (pgm 22 rfl)) rfl rfl ?_
  refine so_iload (i := 4) X 4 (dkL_law_6 (673, .iload 4, 2) (pgm 23 rfl)) rfl ?_
  refine so_iconst (v := (1 : Int32)) X (dkL_law_6 (675, .iconst 1, 1) (pgm 24 rfl)) ic_1 ?_
  refine so_iadd X (dkL_law_6 (676, .iadd, 1) (pgm 25 rfl)) ?_
  refine so_sld X hSc hSb hSA (dkL_law_6 (677, .iaload, 1) (pgm 26 rfl)) (fun x95 => ?_)
  refine so_aload_n (i := 3) X 3 (dkL_law_6 (678, .aload_n 3, 1) (pgm 27 rfl)) rfl rfl ?_
  refine so_callW (n := 3) (As := [.ref 0, .int x95, .ref NC]) X hnc (ct_L_together l hlt x95 hb) lk_1185 lk_1186 lk_120 lk_1187 (by decide +kernel) rfl rfl rfl ⟨Nat.le_of_ble_eq_true rfl, Nat.le_of_ble_eq_true rfl⟩ ⟨hC, hS⟩ (by decide) (dkL_law_6 (679, .invokestatic 173, 3) (pgm 28 rfl)) (fun r96 h97 => ?_) rfl
  refine so_istore (i := 5) X (dkL_law_6 (682, .istore 5, 2) (pgm 29 rfl)) (by decide) (Lf := fun x98 => [(5, .int x98), (0, .ref 197), (1, .ref 0), (2, .ref 152), (3, .ref NC), (4, .int i)]) (fun _ => rfl) (fun x98 => ?_)
  refine so_aload_n (i := 2) X 3 (dkL_law_6 (684, .aload_n 2, 1) (pgm 30 rfl)) rfl rfl ?_
  refine so_aload_n (i := 0) X 1 (dkL_law_6 (685, .aload_n 0, 1) (pgm 31 rfl)) rfl rfl ?_
  refine so_iload (i := 4) X 5 (dkL_law_6 (686, .iload 4, 2) (pgm 32 rfl)) rfl ?_
  refine so_iconst (v := (1 : Int32)) X (dkL_law_6 (688, .iconst 1, 1) (pgm 33 rfl)) ic_1 ?_
  refine so_iadd X (dkL_law_6 (689, .iadd, 1) (pgm 34 rfl)) ?_
  refine so_sld X hSc hSb hSA (dkL_law_6 (690, .iaload, 1) (pgm 35 rfl)) (fun x99 => ?_)
  refine so_callV (n := 1) (As := [.int x99]) X (ct_X12_together l 152 x99 h97 km0) km0 (by decide) rfl lk_2002 lk_2003 lk_2004 lk_134 lk_2005 (by decide +kernel) rfl rfl rfl ⟨Nat.le_of_ble_eq_true rfl, Nat.le_of_ble_eq_true rfl⟩ ⟨by omega, by omega⟩ (Nat.le_of_ble_eq_true rfl) (dkL_law_6 (691, .invokevirtual 175, 3) (pgm 36 rfl)) (fun r100 h101 => ?_) rfl
  refine so_istore (i := 6) X (dkL_law_6 (694, .istore 6, 2) (pgm 37 rfl)) (by decide) (Lf := fun x102 => [(6, .int x102), (5, .int x98), (0, .ref 197), (1, .ref 0), (2, .ref 152), (3, .ref NC), (4, .int i)]) (fun _ => rfl) (fun x102 => ?_)
  refine so_aload_n (i := 2) X 4 (dkL_law_6 (696, .aload_n 2, 1) (pgm 38 rfl)) rfl rfl ?_
  refine so_callV (n := 0) (As := []) X (ct_X12_thrown l 152 h101 km0) km0 (by decide) rfl lk_1820 lk_1821 lk_1822 lk_134 lk_1823 (by decide +kernel) rfl rfl rfl ⟨Nat.le_of_ble_eq_true rfl, Nat.le_of_ble_eq_true rfl⟩ ⟨by omega, by omega⟩ (Nat.le_of_ble_eq_true rfl) (dkL_law_6 (697, .invokevirtual 144, 3) (pgm 39 rfl)) (fun r103 h104 => ?_) rfl
  refine so_iload (i := 5) X 1 (dkL_law_6 (700, .iload 5, 2) (pgm 40 rfl)) rfl ?_
  refine so_icmp_eq (tgt := 707) X (dkL_law_6 (702, .if_icmp .eq 5, 3) (pgm 41 rfl)) rfl (fun _ => ?_) (fun _ => ?_)
  · refine so_iload (i := 5) X 1 (dkL_law_6 (707, .iload 5, 2) (pgm 44 rfl)) rfl ?_
    refine so_join (jf := fun (h105 : PH) => j2584 h105) (fun (j : PH → Option (Int32 × PH)) => ∀  (h105 : PH), SWo (QL below args s) p l e room_1 s m args below meth c (cells + 3) (slots + 18) 8 D cA ad A 724 [(0, .ref 197), (1, .ref 0), (2, .ref 152), (3, .ref NC), (4, .int i)] [] h105 (j h105)) ?_ (fun j724 hj724 => ?_)
    · intro h105
      refine so_goto (tgt := 2584) X (dkL_law_7 (724, .goto 1860, 3) (pgm 5 rfl)) rfl ?_
      exact so_pick X [0, 1, 2, 3, 4] rfl (hj2584 h105)
    refine so_if_ne (tgt := 724) X (dkL_law_6 (709, .ifCond .ne 15, 3) (pgm 45 rfl)) rfl (fun _ => ?_) (fun _ => ?_)
    · exact so_pick X [2, 3, 4, 5, 6] rfl (hj724 h104)
    · refine so_aload_n (i := 3) X 5 (dkL_law_6 (712, .aload_n 3, 1) (pgm 46 rfl)) rfl rfl ?_
      refine so_iconst (v := (0 : Int32)) X (dkL_law_6 (713, .iconst 0, 1) (pgm 47 rfl)) ic_0 ?_
      refine so_outLd X hnc (dkL_law_6 (714, .laload, 1) (pgm 48 rfl)) ?_
      refine so_iload (i := 6) X 0 (dkL_law_6 (715, .iload 6, 2) (pgm 49 rfl)) rfl ?_
      refine so_i2l X (dkL_law_7 (717, .i2l, 1) (pgm 0 rfl)) ?_
      refine so_lcmp X (dkL_law_7 (718, .lcmp, 1) (pgm 1 rfl)) ?_
      refine so_if_eq (tgt := 724) X (dkL_law_7 (719, .ifCond .eq 5, 3) (pgm 2 rfl)) rfl (fun _ => ?_) (fun _ => ?_)
      · exact so_pick X [2, 3, 4, 5, 6] rfl (hj724 h104)
      · refine so_iconst (v := (0 : Int32)) X (dkL_law_7 (722, .iconst 0, 1) (pgm 3 rfl)) ic_0 ?_
        exact so_lawret X hargs rfl hAs hr hlk (by omega) (by omega) (dkL_law_7 (723, .ireturn, 1) (pgm 4 rfl))
  · refine so_iconst (v := (0 : Int32)) X (dkL_law_6 (705, .iconst 0, 1) (pgm 42 rfl)) ic_0 ?_
    exact so_lawret X hargs rfl hAs hr hlk (by omega) (by omega) (dkL_law_6 (706, .ireturn, 1) (pgm 43 rfl))
def br_10 (xs : Nat → Int32) (L : Nat) (i : Int32) (hb : PH) (j2584 : PH → Option (Int32 × PH)) : Option (Int32 × PH) :=
  ldX xs L (i + (1 : Int32)) (fun (x106 : Int32) => cb (f_L_quarrel x106 hb) (fun (r107 : Int32) (h108 : PH) => lt r107 (fun (x109 : Int32) => ldX xs L (i + (1 : Int32)) (fun (x110 : Int32) => cb (f_X12_quarrel 152 x110 h108) (fun (r111 : Int32) (h112 : PH) => lt r111 (fun (x113 : Int32) => cb (f_X12_thrown 152 h112) (fun (r114 : Int32) (h115 : PH) => if r114 = x109 then (lt (fun (h116 : PH) => j2584 h116) (fun (j780 : PH → Option (Int32 × PH)) => if x109 = 0 then (if (lg_cmp (h115.2 NC 0) x113.toInt64) = 0 then (j780 h115) else (some ((0 : Int32), h115))) else (j780 h115))) else (some ((0 : Int32), h115)))))))))
set_option maxRecDepth 100000 in
set_option maxHeartbeats 4000000 in
theorem lb_10 {p : Program} {l : Launch} {e : Env} {s : State} {m : MethodId} {args : Array Value} {below : List Frame} {meth : Method} {c : Code} {D : va_G} {cA : Nat → ClassId} {ad : Nat → Nat} {A : Nat → Prop} {L : Nat} {xs : Nat → Int32} (hlt : l.stackTraces = false) (X : Cx p s m args c RL cL_law 8 D cA ad A) (hnc : nc cA = NC + 1) (hargs : ∃ b0 : Nat, args = #[Value.ref b0]) (hAs : ∀ q, A q → s.heap.size ≤ q) (hr : meth.sig.returnType = ret) (hlk : meth.locks = false) (hSc : va_X (ad 197) L xs s s.heap) (hSb : ad 197 < s.heap.size) (hSA : ¬ A (ad 197)) (cells slots : Nat) (hC : cells + 3 ≤ room_1.cells) (hS : slots + 18 ≤ room_1.slots) (i : Int32) (hb : PH) (j2584 : PH → Option (Int32 × PH)) (hj2584 : ∀ (h2 : PH), SWo (QL below args s) p l e room_1 s m args below meth c (cells + 3) (slots + 18) 8 D cA ad A 2584 [(0, .ref 197), (1, .ref 0), (2, .ref 152), (3, .ref NC), (4, .int i)] [] h2 (j2584 h2)) : SWo (QL below args s) p l e room_1 s m args below meth c cells slots 8 D cA ad A 727 [(0, .ref 197), (1, .ref 0), (2, .ref 152), (3, .ref NC), (4, .int i)] [] hb (br_10 xs L i hb j2584) := by
  have hroom1 : room_1.cells = 601024 := rfl
  have hroom2 : room_1.slots = 7293034 := rfl
  unfold br_10
  refine so_aload_n (i := 1) X 1 (dkL_law_7 (727, .aload_n 1, 1) (pgm 6 rfl)) rfl rfl ?_
  refine so_aload_n (i := 0) X 0 (dkL_law_7 (728, .aload_n 0, 1) (pgm 7 rfl)) rfl rfl ?_
  refine so_iload (i := 4) X 4 (dkL_law_7 (729, .iload 4, 2) (pgm 8 rfl)) rfl ?_
  refine so_iconst (v := (1 : Int32)) X (dkL_law_7 (731, .iconst 1, 1) (pgm 9 rfl)) ic_1 ?_
  refine so_iadd X (dkL_law_7 (732, .iadd, 1) (pgm 10 rfl)) ?_
  refine so_sld X hSc hSb hSA (dkL_law_7 (733, .iaload, 1) (pgm 11 rfl)) (fun x106 => ?_)
  refine so_aload_n (i := 3) X 3 (dkL_law_7 (734, .aload_n 3, 1) (pgm 12 rfl)) rfl rfl ?_
  refine so_callW (n := 3) (As := [.ref 0, .int x106, .ref NC]) X hnc (ct_L_quarrel l hlt x106 hb) lk_1198 lk_1199 lk_120 lk_1200 (by decide +kernel) rfl rfl rfl ⟨Nat.le_of_ble_eq_true rfl, Nat.le_of_ble_eq_true rfl⟩ ⟨hC, hS⟩ (by decide) (dkL_law_7 (735, .invokestatic 176, 3) (pgm 13 rfl)) (fun r107 h108 => ?_) rfl
  refine so_istore (i := 5) X (dkL_law_7 (738, .istore 5, 2) (pgm 14 rfl)) (by decide) (Lf := fun x109 => [(5, .int x109), (0, .ref 197), (1, .ref 0), (2, .ref 152), (3, .ref NC), (4, .int i)]) (fun _ => rfl) (fun x109 => ?_)
  refine so_aload_n (i := 2) X 3 (dkL_law_7 (740, .aload_n 2, 1) (pgm 15 rfl)) rfl rfl ?_
  refine so_aload_n (i := 0) X 1 (dkL_law_7 (741, .aload_n 0, 1) (pgm 16 rfl)) rfl rfl ?_
  refine so_iload (i := 4) X 5 (dkL_law_7 (742, .iload 4, 2) (pgm 17 rfl)) rfl ?_
  refine so_iconst (v := (1 : Int32)) X (dkL_law_7 (744, .iconst 1, 1) (pgm 18 rfl)) ic_1 ?_
  refine so_iadd X (dkL_law_7 (745, .iadd, 1) (pgm 19 rfl)) ?_
  refine so_sld X hSc hSb hSA (dkL_law_7 (746, .iaload, 1) (pgm 20 rfl)) (fun x110 => ?_)
  refine so_callV (n := 1) (As := [.int x110]) X (ct_X12_quarrel l 152 x110 h108 km0) km0 (by decide) rfl lk_2018 lk_2019 lk_2020 lk_134 lk_2021 (by decide +kernel) rfl rfl rfl ⟨Nat.le_of_ble_eq_true rfl, Nat.le_of_ble_eq_true rfl⟩ ⟨by omega, by omega⟩ (Nat.le_of_ble_eq_true rfl) (dkL_law_7 (747, .invokevirtual 178, 3) (pgm 21 rfl)) (fun r111 h112 => ?_) rfl
  refine so_istore (i := 6) X (dkL_law_7 (750, .istore 6, 2) (pgm 22 rfl)) (by decide) (Lf := fun x113 => [(6, .int x113), (5, .int x109), (0, .ref 197), (1, .ref 0), (2, .ref 152), (3, .ref NC), (4, .int i)]) (fun _ => rfl) (fun x113 => ?_)
  refine so_aload_n (i := 2) X 4 (dkL_law_7 (752, .aload_n 2, 1) (pgm 23 rfl)) rfl rfl ?_
  refine so_callV (n := 0) (As := []) X (ct_X12_thrown l 152 h112 km0) km0 (by decide) rfl lk_1820 lk_1821 lk_1822 lk_134 lk_1823 (by decide +kernel) rfl rfl rfl ⟨Nat.le_of_ble_eq_true rfl, Nat.le_of_ble_eq_true rfl⟩ ⟨by omega, by omega⟩ (Nat.le_of_ble_eq_true rfl) (dkL_law_7 (753, .invokevirtual 144, 3) (pgm 24 rfl)) (fun r114 h115 => ?_) rfl
  refine so_iload (i := 5) X 1 (dkL_law_7 (756, .iload 5, 2) (pgm 25 rfl)) rfl ?_
  refine so_icmp_eq (tgt := 763) X (dkL_law_7 (758, .if_icmp .eq 5, 3) (pgm 26 rfl)) rfl (fun _ => ?_) (fun _ => ?_)
  · refine so_iload (i := 5) X 1 (dkL_law_7 (763, .iload 5, 2) (pgm 29 rfl)) rfl ?_
    refine so_join (jf := fun (h116 : PH) => j2584 h116) (fun (j : PH → Option (Int32 × PH)) => ∀  (h116 : PH), SWo (QL below args s) p l e room_1 s m args below meth c (cells + 3) (slots + 18) 8 D cA ad A 780 [(0, .ref 197), (1, .ref 0), (2, .ref 152), (3, .ref NC), (4, .int i)] [] h116 (j h116)) ?_ (fun j780 hj780 => ?_)
    · intro h116
      refine so_goto (tgt := 2584) X (dkL_law_7 (780, .goto 1804, 3) (pgm 40 rfl)) rfl ?_
      exact so_pick X [0, 1, 2, 3, 4] rfl (hj2584 h116)
    refine so_if_ne (tgt := 780) X (dkL_law_7 (765, .ifCond .ne 15, 3) (pgm 30 rfl)) rfl (fun _ => ?_) (fun _ => ?_)
    · exact so_pick X [2, 3, 4, 5, 6] rfl (hj780 h115)
    · refine so_aload_n (i := 3) X 5 (dkL_law_7 (768, .aload_n 3, 1) (pgm 31 rfl)) rfl rfl ?_
      refine so_iconst (v := (0 : Int32)) X (dkL_law_7 (769, .iconst 0, 1) (pgm 32 rfl)) ic_0 ?_
      refine so_outLd X hnc (dkL_law_7 (770, .laload, 1) (pgm 33 rfl)) ?_
      refine so_iload (i := 6) X 0 (dkL_law_7 (771, .iload 6, 2) (pgm 34 rfl)) rfl ?_
      refine so_i2l X (dkL_law_7 (773, .i2l, 1) (pgm 35 rfl)) ?_
      refine so_lcmp X (dkL_law_7 (774, .lcmp, 1) (pgm 36 rfl)) ?_
      refine so_if_eq (tgt := 780) X (dkL_law_7 (775, .ifCond .eq 5, 3) (pgm 37 rfl)) rfl (fun _ => ?_) (fun _ => ?_)
      · exact so_pick X [2, 3, 4, 5, 6] rfl (hj780 h115)
      · refine so_iconst (v := (0 : Int32)) X (dkL_law_7 (778, .iconst 0, 1) (pgm 38 rfl)) ic_0 ?_
        exact so_lawret X hargs rfl hAs hr hlk (by omega) (by omega) (dkL_law_7 (779, .ireturn, 1) (pgm 39 rfl))
  · refine so_iconst (v := (0 : Int32)) X (dkL_law_7 (761, .iconst 0, 1) (pgm 27 rfl)) ic_0 ?_
    exact so_lawret X hargs rfl hAs hr hlk (by omega) (by omega) (dkL_law_7 (762, .ireturn, 1) (pgm 28 rfl))
def br_11 (xs : Nat → Int32) (L : Nat) (i : Int32) (hb : PH) (j2584 : PH → Option (Int32 × PH)) : Option (Int32 × PH) :=
  ldX xs L (i + (1 : Int32)) (fun (x117 : Int32) => cb (f_L_foes x117 hb) (fun (r118 : Int32) (h119 : PH) => lt r118 (fun (x120 : Int32) => ldX xs L (i + (1 : Int32)) (fun (x121 : Int32) => cb (f_X12_foes 152 x121 h119) (fun (r122 : Int32) (h123 : PH) => lt r122 (fun (x124 : Int32) => cb (f_X12_thrown 152 h123) (fun (r125 : Int32) (h126 : PH) => if r125 = x120 then (lt (fun (h127 : PH) => j2584 h127) (fun (j836 : PH → Option (Int32 × PH)) => if x120 = 0 then (if (lg_cmp (h126.2 NC 0) x124.toInt64) = 0 then (j836 h126) else (some ((0 : Int32), h126))) else (j836 h126))) else (some ((0 : Int32), h126)))))))))
set_option maxRecDepth 100000 in
set_option maxHeartbeats 4000000 in
theorem lb_11 {p : Program} {l : Launch} {e : Env} {s : State} {m : MethodId} {args : Array Value} {below : List Frame} {meth : Method} {c : Code} {D : va_G} {cA : Nat → ClassId} {ad : Nat → Nat} {A : Nat → Prop} {L : Nat} {xs : Nat → Int32} (hlt : l.stackTraces = false) (X : Cx p s m args c RL cL_law 8 D cA ad A) (hnc : nc cA = NC + 1) (hargs : ∃ b0 : Nat, args = #[Value.ref b0]) (hAs : ∀ q, A q → s.heap.size ≤ q) (hr : meth.sig.returnType = ret) (hlk : meth.locks = false) (hSc : va_X (ad 197) L xs s s.heap) (hSb : ad 197 < s.heap.size) (hSA : ¬ A (ad 197)) (cells slots : Nat) (hC : cells + 3 ≤ room_1.cells) (hS : slots + 18 ≤ room_1.slots) (i : Int32) (hb : PH) (j2584 : PH → Option (Int32 × PH)) (hj2584 : ∀ (h2 : PH), SWo (QL below args s) p l e room_1 s m args below meth c (cells + 3) (slots + 18) 8 D cA ad A 2584 [(0, .ref 197), (1, .ref 0), (2, .ref 152), (3, .ref NC), (4, .int i)] [] h2 (j2584 h2)) : SWo (QL below args s) p l e room_1 s m args below meth c cells slots 8 D cA ad A 783 [(0, .ref 197), (1, .ref 0), (2, .ref 152), (3, .ref NC), (4, .int i)] [] hb (br_11 xs L i hb j2584) := by
  have hroom1 : room_1.cells = 601024 := rfl
  have hroom2 : room_1.slots = 7293034 := rfl
  unfold br_11
  refine so_aload_n (i := 1) X 1 (dkL_law_7 (783, .aload_n 1, 1) (pgm 41 rfl)) rfl rfl ?_
  refine so_aload_n (i := 0) X 0 (dkL_law_7 (784, .aload_n 0, 1) (pgm 42 rfl)) rfl rfl ?_
  refine so_iload (i := 4) X 4 (dkL_law_7 (785, .iload 4, 2) (pgm 43 rfl)) rfl ?_
  refine so_iconst (v := (1 : Int32)) X (dkL_law_7 (787, .iconst 1, 1) (pgm 44 rfl)) ic_1 ?_
  refine so_iadd X (dkL_law_7 (788, .iadd, 1) (pgm 45 rfl)) ?_
  refine so_sld X hSc hSb hSA (dkL_law_7 (789, .iaload, 1) (pgm 46 rfl)) (fun x117 => ?_)
  refine so_aload_n (i := 3) X 3 (dkL_law_7 (790, .aload_n 3, 1) (pgm 47 rfl)) rfl rfl ?_
  refine so_callW (n := 3) (As := [.ref 0, .int x117, .ref NC]) X hnc (ct_L_foes l hlt x117 hb) lk_1209 lk_1210 lk_120 lk_1211 (by decide +kernel) rfl rfl rfl ⟨Nat.le_of_ble_eq_true rfl, Nat.le_of_ble_eq_true rfl⟩ ⟨hC, hS⟩ (by decide) (dkL_law_7 (791, .invokestatic 179, 3) (pgm 48 rfl)) (fun r118 h119 => ?_) rfl
  refine so_istore (i := 5) X (dkL_law_7 (794, .istore 5, 2) (pgm 49 rfl)) (by decide) (Lf := fun x120 => [(5, .int x120), (0, .ref 197), (1, .ref 0), (2, .ref 152), (3, .ref NC), (4, .int i)]) (fun _ => rfl) (fun x120 => ?_)
  refine so_aload_n (i := 2) X 3 (dkL_law_8 (796, .aload_n 2, 1) (pgm 0 rfl)) rfl rfl ?_
  refine so_aload_n (i := 0) X 1 (dkL_law_8 (797, .aload_n 0, 1) (pgm 1 rfl)) rfl rfl ?_
  refine so_iload (i := 4) X 5 (dkL_law_8 (798, .iload 4, 2) (pgm 2 rfl)) rfl ?_
  refine so_iconst (v := (1 : Int32)) X (dkL_law_8 (800, .iconst 1, 1) (pgm 3 rfl)) ic_1 ?_
  refine so_iadd X (dkL_law_8 (801, .iadd, 1) (pgm 4 rfl)) ?_
  refine so_sld X hSc hSb hSA (dkL_law_8 (802, .iaload, 1) (pgm 5 rfl)) (fun x121 => ?_)
  refine so_callV (n := 1) (As := [.int x121]) X (ct_X12_foes l 152 x121 h119 km0) km0 (by decide) rfl lk_2022 lk_2023 lk_2024 lk_134 lk_2025 (by decide +kernel) rfl rfl rfl ⟨Nat.le_of_ble_eq_true rfl, Nat.le_of_ble_eq_true rfl⟩ ⟨by omega, by omega⟩ (Nat.le_of_ble_eq_true rfl) (dkL_law_8 (803, .invokevirtual 181, 3) (pgm 6 rfl)) (fun r122 h123 => ?_) rfl
  refine so_istore (i := 6) X (dkL_law_8 (806, .istore 6, 2) (pgm 7 rfl)) (by decide) (Lf := fun x124 => [(6, .int x124), (5, .int x120), (0, .ref 197), (1, .ref 0), (2, .ref 152), (3, .ref NC), (4, .int i)]) (fun _ => rfl) (fun x124 => ?_)
  refine so_aload_n (i := 2) X 4 (dkL_law_8 (808, .aload_n 2, 1) (pgm 8 rfl)) rfl rfl ?_
  refine so_callV (n := 0) (As := []) X (ct_X12_thrown l 152 h123 km0) km0 (by decide) rfl lk_1820 lk_1821 lk_1822 lk_134 lk_1823 (by decide +kernel) rfl rfl rfl ⟨Nat.le_of_ble_eq_true rfl, Nat.le_of_ble_eq_true rfl⟩ ⟨by omega, by omega⟩ (Nat.le_of_ble_eq_true rfl) (dkL_law_8 (809, .invokevirtual 144, 3) (pgm 9 rfl)) (fun r125 h126 => ?_) rfl
  refine so_iload (i := 5) X 1 (dkL_law_8 (812, .iload 5, 2) (pgm 10 rfl)) rfl ?_
  refine so_icmp_eq (tgt := 819) X (dkL_law_8 (814, .if_icmp .eq 5, 3) (pgm 11 rfl)) rfl (fun _ => ?_) (fun _ => ?_)
  · refine so_iload (i := 5) X 1 (dkL_law_8 (819, .iload 5, 2) (pgm 14 rfl)) rfl ?_
    refine so_join (jf := fun (h127 : PH) => j2584 h127) (fun (j : PH → Option (Int32 × PH)) => ∀  (h127 : PH), SWo (QL below args s) p l e room_1 s m args below meth c (cells + 3) (slots + 18) 8 D cA ad A 836 [(0, .ref 197), (1, .ref 0), (2, .ref 152), (3, .ref NC), (4, .int i)] [] h127 (j h127)) ?_ (fun j836 hj836 => ?_)
    · intro h127
      refine so_goto (tgt := 2584) X (dkL_law_8 (836, .goto 1748, 3) (pgm 25 rfl)) rfl ?_
      exact so_pick X [0, 1, 2, 3, 4] rfl (hj2584 h127)
    refine so_if_ne (tgt := 836) X (dkL_law_8 (821, .ifCond .ne 15, 3) (pgm 15 rfl)) rfl (fun _ => ?_) (fun _ => ?_)
    · exact so_pick X [2, 3, 4, 5, 6] rfl (hj836 h126)
    · refine so_aload_n (i := 3) X 5 (dkL_law_8 (824, .aload_n 3, 1) (pgm 16 rfl)) rfl rfl ?_
      refine so_iconst (v := (0 : Int32)) X (dkL_law_8 (825, .iconst 0, 1) (pgm 17 rfl)) ic_0 ?_
      refine so_outLd X hnc (dkL_law_8 (826, .laload, 1) (pgm 18 rfl)) ?_
      refine so_iload (i := 6) X 0 (dkL_law_8 (827, .iload 6, 2) (pgm 19 rfl)) rfl ?_
      refine so_i2l X (dkL_law_8 (829, .i2l, 1) (pgm 20 rfl)) ?_
      refine so_lcmp X (dkL_law_8 (830, .lcmp, 1) (pgm 21 rfl)) ?_
      refine so_if_eq (tgt := 836) X (dkL_law_8 (831, .ifCond .eq 5, 3) (pgm 22 rfl)) rfl (fun _ => ?_) (fun _ => ?_)
      · exact so_pick X [2, 3, 4, 5, 6] rfl (hj836 h126)
      · refine so_iconst (v := (0 : Int32)) X (dkL_law_8 (834, .iconst 0, 1) (pgm 23 rfl)) ic_0 ?_
        exact so_lawret X hargs rfl hAs hr hlk (by omega) (by omega) (dkL_law_8 (835, .ireturn, 1) (pgm 24 rfl))
  · refine so_iconst (v := (0 : Int32)) X (dkL_law_8 (817, .iconst 0, 1) (pgm 12 rfl)) ic_0 ?_
    exact so_lawret X hargs rfl hAs hr hlk (by omega) (by omega) (dkL_law_8 (818, .ireturn, 1) (pgm 13 rfl))
def br_12 (xs : Nat → Int32) (L : Nat) (i : Int32) (hb : PH) (j2584 : PH → Option (Int32 × PH)) : Option (Int32 × PH) :=
  ldX xs L (i + (1 : Int32)) (fun (x128 : Int32) => cb (f_L_most x128 hb) (fun (r129 : Int32) (h130 : PH) => lt r129 (fun (x131 : Int32) => ldX xs L (i + (1 : Int32)) (fun (x132 : Int32) => cb (f_X12_most 152 x132 h130) (fun (r133 : Int32) (h134 : PH) => lt r133 (fun (x135 : Int32) => cb (f_X12_thrown 152 h134) (fun (r136 : Int32) (h137 : PH) => if r136 = x131 then (lt (fun (h138 : PH) => j2584 h138) (fun (j892 : PH → Option (Int32 × PH)) => if x131 = 0 then (if (lg_cmp (h137.2 NC 0) x135.toInt64) = 0 then (j892 h137) else (some ((0 : Int32), h137))) else (j892 h137))) else (some ((0 : Int32), h137)))))))))
set_option maxRecDepth 100000 in
set_option maxHeartbeats 4000000 in
theorem lb_12 {p : Program} {l : Launch} {e : Env} {s : State} {m : MethodId} {args : Array Value} {below : List Frame} {meth : Method} {c : Code} {D : va_G} {cA : Nat → ClassId} {ad : Nat → Nat} {A : Nat → Prop} {L : Nat} {xs : Nat → Int32} (hlt : l.stackTraces = false) (X : Cx p s m args c RL cL_law 8 D cA ad A) (hnc : nc cA = NC + 1) (hargs : ∃ b0 : Nat, args = #[Value.ref b0]) (hAs : ∀ q, A q → s.heap.size ≤ q) (hr : meth.sig.returnType = ret) (hlk : meth.locks = false) (hSc : va_X (ad 197) L xs s s.heap) (hSb : ad 197 < s.heap.size) (hSA : ¬ A (ad 197)) (cells slots : Nat) (hC : cells + 3 ≤ room_1.cells) (hS : slots + 18 ≤ room_1.slots) (i : Int32) (hb : PH) (j2584 : PH → Option (Int32 × PH)) (hj2584 : ∀ (h2 : PH), SWo (QL below args s) p l e room_1 s m args below meth c (cells + 3) (slots + 18) 8 D cA ad A 2584 [(0, .ref 197), (1, .ref 0), (2, .ref 152), (3, .ref NC), (4, .int i)] [] h2 (j2584 h2)) : SWo (QL below args s) p l e room_1 s m args below meth c cells slots 8 D cA ad A 839 [(0, .ref 197), (1, .ref 0), (2, .ref 152), (3, .ref NC), (4, .int i)] [] hb (br_12 xs L i hb j2584) := by
  have hroom1 : room_1.cells = 601024 := rfl
  have hroom2 : room_1.slots = 7293034 := rfl
  unfold br_12
  refine so_aload_n (i := 1) X 1 (dkL_law_8 (839, .aload_n 1, 1) (pgm 26 rfl)) rfl rfl ?_
  refine so_aload_n (i := 0) X 0 (dkL_law_8 (840, .aload_n 0, 1) (pgm 27 rfl)) rfl rfl ?_
  refine so_iload (i := 4) X 4 (dkL_law_8 (841, .iload 4, 2) (pgm 28 rfl)) rfl ?_
  refine so_iconst (v := (1 : Int32)) X (dkL_law_8 (843, .iconst 1, 1) (pgm 29 rfl)) ic_1 ?_
  refine so_iadd X (dkL_law_8 (844, .iadd, 1) (pgm 30 rfl)) ?_
  refine so_sld X hSc hSb hSA (dkL_law_8 (845, .iaload, 1) (pgm 31 rfl)) (fun x128 => ?_)
  refine so_aload_n (i := 3) X 3 (dkL_law_8 (846, .aload_n 3, 1) (pgm 32 rfl)) rfl rfl ?_
  refine so_callW (n := 3) (As := [.ref 0, .int x128, .ref NC]) X hnc (ct_L_most l hlt x128 hb) lk_1225 lk_1226 lk_120 lk_1227 (by decide +kernel) rfl rfl rfl ⟨Nat.le_of_ble_eq_true rfl, Nat.le_of_ble_eq_true rfl⟩ ⟨hC, hS⟩ (by decide) (dkL_law_8 (847, .invokestatic 182, 3) (pgm 33 rfl)) (fun r129 h130 => ?_) rfl
  refine so_istore (i := 5) X (dkL_law_8 (850, .istore 5, 2) (pgm 34 rfl)) (by decide) (Lf := fun x131 => [(5, .int x131), (0, .ref 197), (1, .ref 0), (2, .ref 152), (3, .ref NC), (4, .int i)]) (fun _ => rfl) (fun x131 => ?_)
  refine so_aload_n (i := 2) X 3 (dkL_law_8 (852, .aload_n 2, 1) (pgm 35 rfl)) rfl rfl ?_
  refine so_aload_n (i := 0) X 1 (dkL_law_8 (853, .aload_n 0, 1) (pgm 36 rfl)) rfl rfl ?_
  refine so_iload (i := 4) X 5 (dkL_law_8 (854, .iload 4, 2) (pgm 37 rfl)) rfl ?_
  refine so_iconst (v := (1 : Int32)) X (dkL_law_8 (856, .iconst 1, 1) (pgm 38 rfl)) ic_1 ?_
  refine so_iadd X (dkL_law_8 (857, .iadd, 1) (pgm 39 rfl)) ?_
  refine so_sld X hSc hSb hSA (dkL_law_8 (858, .iaload, 1) (pgm 40 rfl)) (fun x132 => ?_)
  refine so_callV (n := 1) (As := [.int x132]) X (ct_X12_most l 152 x132 h130 km0) km0 (by decide) rfl lk_2030 lk_2031 lk_2032 lk_134 lk_2033 (by decide +kernel) rfl rfl rfl ⟨Nat.le_of_ble_eq_true rfl, Nat.le_of_ble_eq_true rfl⟩ ⟨by omega, by omega⟩ (Nat.le_of_ble_eq_true rfl) (dkL_law_8 (859, .invokevirtual 184, 3) (pgm 41 rfl)) (fun r133 h134 => ?_) rfl
  refine so_istore (i := 6) X (dkL_law_8 (862, .istore 6, 2) (pgm 42 rfl)) (by decide) (Lf := fun x135 => [(6, .int x135), (5, .int x131), (0, .ref 197), (1, .ref 0), (2, .ref 152), (3, .ref NC), (4, .int i)]) (fun _ => rfl) (fun x135 => ?_)
  refine so_aload_n (i := 2) X 4 (dkL_law_8 (864, .aload_n 2, 1) (pgm 43 rfl)) rfl rfl ?_
  refine so_callV (n := 0) (As := []) X (ct_X12_thrown l 152 h134 km0) km0 (by decide) rfl lk_1820 lk_1821 lk_1822 lk_134 lk_1823 (by decide +kernel) rfl rfl rfl ⟨Nat.le_of_ble_eq_true rfl, Nat.le_of_ble_eq_true rfl⟩ ⟨by omega, by omega⟩ (Nat.le_of_ble_eq_true rfl) (dkL_law_8 (865, .invokevirtual 144, 3) (pgm 44 rfl)) (fun r136 h137 => ?_) rfl
  refine so_iload (i := 5) X 1 (dkL_law_8 (868, .iload 5, 2) (pgm 45 rfl)) rfl ?_
  refine so_icmp_eq (tgt := 875) X (dkL_law_8 (870, .if_icmp .eq 5, 3) (pgm 46 rfl)) rfl (fun _ => ?_) (fun _ => ?_)
  · refine so_iload (i := 5) X 1 (dkL_law_8 (875, .iload 5, 2) (pgm 49 rfl)) rfl ?_
    refine so_join (jf := fun (h138 : PH) => j2584 h138) (fun (j : PH → Option (Int32 × PH)) => ∀  (h138 : PH), SWo (QL below args s) p l e room_1 s m args below meth c (cells + 3) (slots + 18) 8 D cA ad A 892 [(0, .ref 197), (1, .ref 0), (2, .ref 152), (3, .ref NC), (4, .int i)] [] h138 (j h138)) ?_ (fun j892 hj892 => ?_)
    · intro h138
      refine so_goto (tgt := 2584) X (dkL_law_9 (892, .goto 1692, 3) (pgm 10 rfl)) rfl ?_
      exact so_pick X [0, 1, 2, 3, 4] rfl (hj2584 h138)
    refine so_if_ne (tgt := 892) X (dkL_law_9 (877, .ifCond .ne 15, 3) (pgm 0 rfl)) rfl (fun _ => ?_) (fun _ => ?_)
    · exact so_pick X [2, 3, 4, 5, 6] rfl (hj892 h137)
    · refine so_aload_n (i := 3) X 5 (dkL_law_9 (880, .aload_n 3, 1) (pgm 1 rfl)) rfl rfl ?_
      refine so_iconst (v := (0 : Int32)) X (dkL_law_9 (881, .iconst 0, 1) (pgm 2 rfl)) ic_0 ?_
      refine so_outLd X hnc (dkL_law_9 (882, .laload, 1) (pgm 3 rfl)) ?_
      refine so_iload (i := 6) X 0 (dkL_law_9 (883, .iload 6, 2) (pgm 4 rfl)) rfl ?_
      refine so_i2l X (dkL_law_9 (885, .i2l, 1) (pgm 5 rfl)) ?_
      refine so_lcmp X (dkL_law_9 (886, .lcmp, 1) (pgm 6 rfl)) ?_
      refine so_if_eq (tgt := 892) X (dkL_law_9 (887, .ifCond .eq 5, 3) (pgm 7 rfl)) rfl (fun _ => ?_) (fun _ => ?_)
      · exact so_pick X [2, 3, 4, 5, 6] rfl (hj892 h137)
      · refine so_iconst (v := (0 : Int32)) X (dkL_law_9 (890, .iconst 0, 1) (pgm 8 rfl)) ic_0 ?_
        exact so_lawret X hargs rfl hAs hr hlk (by omega) (by omega) (dkL_law_9 (891, .ireturn, 1) (pgm 9 rfl))
  · refine so_iconst (v := (0 : Int32)) X (dkL_law_8 (873, .iconst 0, 1) (pgm 47 rfl)) ic_0 ?_
    exact so_lawret X hargs rfl hAs hr hlk (by omega) (by omega) (dkL_law_8 (874, .ireturn, 1) (pgm 48 rfl))
def br_13 (xs : Nat → Int32) (L : Nat) (i : Int32) (hb : PH) (j2584 : PH → Option (Int32 × PH)) : Option (Int32 × PH) :=
  cb (f_X11_nights 0 hb) (fun (r139 : Int32) (h140 : PH) => cb (f_X12_nights 152 h140) (fun (r141 : Int32) (h142 : PH) => if r139 = r141 then (j2584 h142) else (some ((0 : Int32), h142))))
set_option maxRecDepth 100000 in
set_option maxHeartbeats 4000000 in
theorem lb_13 {p : Program} {l : Launch} {e : Env} {s : State} {m : MethodId} {args : Array Value} {below : List Frame} {meth : Method} {c : Code} {D : va_G} {cA : Nat → ClassId} {ad : Nat → Nat} {A : Nat → Prop} {L : Nat} {xs : Nat → Int32} (hlt : l.stackTraces = false) (X : Cx p s m args c RL cL_law 8 D cA ad A) (hnc : nc cA = NC + 1) (hargs : ∃ b0 : Nat, args = #[Value.ref b0]) (hAs : ∀ q, A q → s.heap.size ≤ q) (hr : meth.sig.returnType = ret) (hlk : meth.locks = false) (hSc : va_X (ad 197) L xs s s.heap) (hSb : ad 197 < s.heap.size) (hSA : ¬ A (ad 197)) (cells slots : Nat) (hC : cells + 3 ≤ room_1.cells) (hS : slots + 18 ≤ room_1.slots) (i : Int32) (hb : PH) (j2584 : PH → Option (Int32 × PH)) (hj2584 : ∀ (h2 : PH), SWo (QL below args s) p l e room_1 s m args below meth c (cells + 3) (slots + 18) 8 D cA ad A 2584 [(0, .ref 197), (1, .ref 0), (2, .ref 152), (3, .ref NC), (4, .int i)] [] h2 (j2584 h2)) : SWo (QL below args s) p l e room_1 s m args below meth c cells slots 8 D cA ad A 895 [(0, .ref 197), (1, .ref 0), (2, .ref 152), (3, .ref NC), (4, .int i)] [] hb (br_13 xs L i hb j2584) := by
  have hroom1 : room_1.cells = 601024 := rfl
  have hroom2 : room_1.slots = 7293034 := rfl
  unfold br_13
  refine so_aload_n (i := 1) X 1 (dkL_law_9 (895, .aload_n 1, 1) (pgm 11 rfl)) rfl rfl ?_
  refine so_callV (n := 0) (As := []) X (ct_X11_nights l 0 hb kx0) kx0 (by decide) rfl lk_688 lk_689 lk_690 lk_121 lk_691 (by decide +kernel) rfl rfl rfl ⟨Nat.le_of_ble_eq_true rfl, Nat.le_of_ble_eq_true rfl⟩ ⟨by omega, by omega⟩ (Nat.le_of_ble_eq_true rfl) (dkL_law_9 (896, .invokevirtual 185, 3) (pgm 12 rfl)) (fun r139 h140 => ?_) rfl
  refine so_aload_n (i := 2) X 2 (dkL_law_9 (899, .aload_n 2, 1) (pgm 13 rfl)) rfl rfl ?_
  refine so_callV (n := 0) (As := []) X (ct_X12_nights l 152 h140 km0) km0 (by decide) rfl lk_2039 lk_2040 lk_2041 lk_134 lk_2042 (by decide +kernel) rfl rfl rfl ⟨Nat.le_of_ble_eq_true rfl, Nat.le_of_ble_eq_true rfl⟩ ⟨by omega, by omega⟩ (Nat.le_of_ble_eq_true rfl) (dkL_law_9 (900, .invokevirtual 188, 3) (pgm 14 rfl)) (fun r141 h142 => ?_) rfl
  refine so_icmp_eq (tgt := 2584) X (dkL_law_9 (903, .if_icmp .eq 1681, 3) (pgm 15 rfl)) rfl (fun _ => ?_) (fun _ => ?_)
  · refine so_widen (c1 := cells + 3) (s1 := slots + 18) (Nat.le_add_right _ _) (Nat.le_add_right _ _) ?_
    exact so_pick X [0, 1, 2, 3, 4] rfl (hj2584 h142)
  · refine so_iconst (v := (0 : Int32)) X (dkL_law_9 (906, .iconst 0, 1) (pgm 16 rfl)) ic_0 ?_
    exact so_lawret X hargs rfl hAs hr hlk (by omega) (by omega) (dkL_law_9 (907, .ireturn, 1) (pgm 17 rfl))
def br_14 (xs : Nat → Int32) (L : Nat) (i : Int32) (hb : PH) (j2584 : PH → Option (Int32 × PH)) : Option (Int32 × PH) :=
  ldX xs L (i + (1 : Int32)) (fun (x143 : Int32) => ldX xs L (i + (2 : Int32)) (fun (x144 : Int32) => cb (f_L_hearts x143 x144 hb) (fun (r145 : Int32) (h146 : PH) => lt r145 (fun (x147 : Int32) => ldX xs L (i + (1 : Int32)) (fun (x148 : Int32) => ldX xs L (i + (2 : Int32)) (fun (x149 : Int32) => cb (f_X12_hearts 152 x148 x149 h146) (fun (r150 : Int32) (h151 : PH) => lt r150 (fun (x152 : Int32) => cb (f_X12_thrown 152 h151) (fun (r153 : Int32) (h154 : PH) => if r153 = x147 then (lt (fun (h155 : PH) => j2584 h155) (fun (j973 : PH → Option (Int32 × PH)) => if x147 = 0 then (if (lg_cmp (h154.2 NC 0) x152.toInt64) = 0 then (j973 h154) else (some ((0 : Int32), h154))) else (j973 h154))) else (some ((0 : Int32), h154)))))))))))
set_option maxRecDepth 100000 in
set_option maxHeartbeats 4000000 in
theorem lb_14 {p : Program} {l : Launch} {e : Env} {s : State} {m : MethodId} {args : Array Value} {below : List Frame} {meth : Method} {c : Code} {D : va_G} {cA : Nat → ClassId} {ad : Nat → Nat} {A : Nat → Prop} {L : Nat} {xs : Nat → Int32} (hlt : l.stackTraces = false) (X : Cx p s m args c RL cL_law 8 D cA ad A) (hnc : nc cA = NC + 1) (hargs : ∃ b0 : Nat, args = #[Value.ref b0]) (hAs : ∀ q, A q → s.heap.size ≤ q) (hr : meth.sig.returnType = ret) (hlk : meth.locks = false) (hSc : va_X (ad 197) L xs s s.heap) (hSb : ad 197 < s.heap.size) (hSA : ¬ A (ad 197)) (cells slots : Nat) (hC : cells + 3 ≤ room_1.cells) (hS : slots + 18 ≤ room_1.slots) (i : Int32) (hb : PH) (j2584 : PH → Option (Int32 × PH)) (hj2584 : ∀ (h2 : PH), SWo (QL below args s) p l e room_1 s m args below meth c (cells + 3) (slots + 18) 8 D cA ad A 2584 [(0, .ref 197), (1, .ref 0), (2, .ref 152), (3, .ref NC), (4, .int i)] [] h2 (j2584 h2)) : SWo (QL below args s) p l e room_1 s m args below meth c cells slots 8 D cA ad A 908 [(0, .ref 197), (1, .ref 0), (2, .ref 152), (3, .ref NC), (4, .int i)] [] hb (br_14 xs L i hb j2584) := by
  have hroom1 : room_1.cells = 601024 := rfl
  have hroom2 : room_1.slots = 7293034 := rfl
  unfold br_14
  refine so_aload_n (i := 1) X 1 (dkL_law_9 (908, .aload_n 1, 1) (pgm 18 rfl)) rfl rfl ?_
  refine so_aload_n (i := 0) X 0 (dkL_law_9 (909, .aload_n 0, 1) (pgm 19 rfl)) rfl rfl ?_
  refine so_iload (i := 4) X 4 (dkL_law_9 (910, .iload 4, 2) (pgm 20 rfl)) rfl ?_
  refine so_iconst (v := (1 : Int32)) X (dkL_law_9 (912, .iconst 1, 1) (pgm 21 rfl)) ic_1 ?_
  refine so_iadd X (dkL_law_9 (913, .iadd, 1) (pgm 22 rfl)) ?_
  refine so_sld X hSc hSb hSA (dkL_law_9 (914, .iaload, 1) (pgm 23 rfl)) (fun x143 => ?_)
  refine so_aload_n (i := 0) X 0 (dkL_law_9 (915, .aload_n 0, 1) (pgm 24 rfl)) rfl rfl ?_
  refine so_iload (i := 4) X 4 (dkL_law_9 (916, .iload 4, 2) (pgm 25 rfl)) rfl ?_
  refine so_iconst (v := (2 : Int32)) X (dkL_law_9 (918, .iconst 2, 1) (pgm 26 rfl)) ic_2 ?_
  refine so_iadd X (dkL_law_9 (919, .iadd, 1) (pgm 27 rfl)) ?_
  refine so_sld X hSc hSb hSA (dkL_law_9 (920, .iaload, 1) (pgm 28 rfl)) (fun x144 => ?_)
  refine so_aload_n (i := 3) X 3 (dkL_law_9 (921, .aload_n 3, 1) (pgm 29 rfl)) rfl rfl ?_
  refine so_callW (n := 4) (As := [.ref 0, .int x143, .int x144, .ref NC]) X hnc (ct_L_hearts l hlt x143 x144 hb) lk_1241 lk_1242 lk_120 lk_1243 (by decide +kernel) rfl rfl rfl ⟨Nat.le_of_ble_eq_true rfl, Nat.le_of_ble_eq_true rfl⟩ ⟨hC, hS⟩ (by decide) (dkL_law_9 (922, .invokestatic 189, 3) (pgm 30 rfl)) (fun r145 h146 => ?_) rfl
  refine so_istore (i := 5) X (dkL_law_9 (925, .istore 5, 2) (pgm 31 rfl)) (by decide) (Lf := fun x147 => [(5, .int x147), (0, .ref 197), (1, .ref 0), (2, .ref 152), (3, .ref NC), (4, .int i)]) (fun _ => rfl) (fun x147 => ?_)
  refine so_aload_n (i := 2) X 3 (dkL_law_9 (927, .aload_n 2, 1) (pgm 32 rfl)) rfl rfl ?_
  refine so_aload_n (i := 0) X 1 (dkL_law_9 (928, .aload_n 0, 1) (pgm 33 rfl)) rfl rfl ?_
  refine so_iload (i := 4) X 5 (dkL_law_9 (929, .iload 4, 2) (pgm 34 rfl)) rfl ?_
  refine so_iconst (v := (1 : Int32)) X (dkL_law_9 (931, .iconst 1, 1) (pgm 35 rfl)) ic_1 ?_
  refine so_iadd X (dkL_law_9 (932, .iadd, 1) (pgm 36 rfl)) ?_
  refine so_sld X hSc hSb hSA (dkL_law_9 (933, .iaload, 1) (pgm 37 rfl)) (fun x148 => ?_)
  refine so_aload_n (i := 0) X 1 (dkL_law_9 (934, .aload_n 0, 1) (pgm 38 rfl)) rfl rfl ?_
  refine so_iload (i := 4) X 5 (dkL_law_9 (935, .iload 4, 2) (pgm 39 rfl)) rfl ?_
  refine so_iconst (v := (2 : Int32)) X (dkL_law_9 (937, .iconst 2, 1) (pgm 40 rfl)) ic_2 ?_
  refine so_iadd X (dkL_law_9 (938, .iadd, 1) (pgm 41 rfl)) ?_
  refine so_sld X hSc hSb hSA (dkL_law_9 (939, .iaload, 1) (pgm 42 rfl)) (fun x149 => ?_)
  refine so_callV (n := 2) (As := [.int x148, .int x149]) X (ct_X12_hearts l 152 x148 x149 h146 km0) km0 (by decide) rfl lk_2043 lk_2044 lk_2045 lk_134 lk_2046 (by decide +kernel) rfl rfl rfl ⟨Nat.le_of_ble_eq_true rfl, Nat.le_of_ble_eq_true rfl⟩ ⟨by omega, by omega⟩ (Nat.le_of_ble_eq_true rfl) (dkL_law_9 (940, .invokevirtual 191, 3) (pgm 43 rfl)) (fun r150 h151 => ?_) rfl
  refine so_istore (i := 6) X (dkL_law_9 (943, .istore 6, 2) (pgm 44 rfl)) (by decide) (Lf := fun x152 => [(6, .int x152), (5, .int x147), (0, .ref 197), (1, .ref 0), (2, .ref 152), (3, .ref NC), (4, .int i)]) (fun _ => rfl) (fun x152 => ?_)
  refine so_aload_n (i := 2) X 4 (dkL_law_9 (945, .aload_n 2, 1) (pgm 45 rfl)) rfl rfl ?_
  refine so_callV (n := 0) (As := []) X (ct_X12_thrown l 152 h151 km0) km0 (by decide) rfl lk_1820 lk_1821 lk_1822 lk_134 lk_1823 (by decide +kernel) rfl rfl rfl ⟨Nat.le_of_ble_eq_true rfl, Nat.le_of_ble_eq_true rfl⟩ ⟨by omega, by omega⟩ (Nat.le_of_ble_eq_true rfl) (dkL_law_9 (946, .invokevirtual 144, 3) (pgm 46 rfl)) (fun r153 h154 => ?_) rfl
  refine so_iload (i := 5) X 1 (dkL_law_9 (949, .iload 5, 2) (pgm 47 rfl)) rfl ?_
  refine so_icmp_eq (tgt := 956) X (dkL_law_9 (951, .if_icmp .eq 5, 3) (pgm 48 rfl)) rfl (fun _ => ?_) (fun _ => ?_)
  · refine so_iload (i := 5) X 1 (dkL_law_10 (956, .iload 5, 2) (pgm 1 rfl)) rfl ?_
    refine so_join (jf := fun (h155 : PH) => j2584 h155) (fun (j : PH → Option (Int32 × PH)) => ∀  (h155 : PH), SWo (QL below args s) p l e room_1 s m args below meth c (cells + 3) (slots + 18) 8 D cA ad A 973 [(0, .ref 197), (1, .ref 0), (2, .ref 152), (3, .ref NC), (4, .int i)] [] h155 (j h155)) ?_ (fun j973 hj973 => ?_)
    · intro h155
      refine so_goto (tgt := 2584) X (dkL_law_10 (973, .goto 1611, 3) (pgm 12 rfl)) rfl ?_
      exact so_pick X [0, 1, 2, 3, 4] rfl (hj2584 h155)
    refine so_if_ne (tgt := 973) X (dkL_law_10 (958, .ifCond .ne 15, 3) (pgm 2 rfl)) rfl (fun _ => ?_) (fun _ => ?_)
    · exact so_pick X [2, 3, 4, 5, 6] rfl (hj973 h154)
    · refine so_aload_n (i := 3) X 5 (dkL_law_10 (961, .aload_n 3, 1) (pgm 3 rfl)) rfl rfl ?_
      refine so_iconst (v := (0 : Int32)) X (dkL_law_10 (962, .iconst 0, 1) (pgm 4 rfl)) ic_0 ?_
      refine so_outLd X hnc (dkL_law_10 (963, .laload, 1) (pgm 5 rfl)) ?_
      refine so_iload (i := 6) X 0 (dkL_law_10 (964, .iload 6, 2) (pgm 6 rfl)) rfl ?_
      refine so_i2l X (dkL_law_10 (966, .i2l, 1) (pgm 7 rfl)) ?_
      refine so_lcmp X (dkL_law_10 (967, .lcmp, 1) (pgm 8 rfl)) ?_
      refine so_if_eq (tgt := 973) X (dkL_law_10 (968, .ifCond .eq 5, 3) (pgm 9 rfl)) rfl (fun _ => ?_) (fun _ => ?_)
      · exact so_pick X [2, 3, 4, 5, 6] rfl (hj973 h154)
      · refine so_iconst (v := (0 : Int32)) X (dkL_law_10 (971, .iconst 0, 1) (pgm 10 rfl)) ic_0 ?_
        exact so_lawret X hargs rfl hAs hr hlk (by omega) (by omega) (dkL_law_10 (972, .ireturn, 1) (pgm 11 rfl))
  · refine so_iconst (v := (0 : Int32)) X (dkL_law_9 (954, .iconst 0, 1) (pgm 49 rfl)) ic_0 ?_
    exact so_lawret X hargs rfl hAs hr hlk (by omega) (by omega) (dkL_law_10 (955, .ireturn, 1) (pgm 0 rfl))
def br_15 (xs : Nat → Int32) (L : Nat) (i : Int32) (hb : PH) (j2584 : PH → Option (Int32 × PH)) : Option (Int32 × PH) :=
  ldX xs L (i + (1 : Int32)) (fun (x156 : Int32) => cb (f_L_follows x156 hb) (fun (r157 : Int32) (h158 : PH) => lt r157 (fun (x159 : Int32) => ldX xs L (i + (1 : Int32)) (fun (x160 : Int32) => cb (f_X12_follows 152 x160 h158) (fun (r161 : Int32) (h162 : PH) => lt r161 (fun (x163 : Int32) => cb (f_X12_thrown 152 h162) (fun (r164 : Int32) (h165 : PH) => if r164 = x159 then (lt (fun (h166 : PH) => j2584 h166) (fun (j1029 : PH → Option (Int32 × PH)) => if x159 = 0 then (if (lg_cmp (h165.2 NC 0) x163.toInt64) = 0 then (j1029 h165) else (some ((0 : Int32), h165))) else (j1029 h165))) else (some ((0 : Int32), h165)))))))))
set_option maxRecDepth 100000 in
set_option maxHeartbeats 4000000 in
theorem lb_15 {p : Program} {l : Launch} {e : Env} {s : State} {m : MethodId} {args : Array Value} {below : List Frame} {meth : Method} {c : Code} {D : va_G} {cA : Nat → ClassId} {ad : Nat → Nat} {A : Nat → Prop} {L : Nat} {xs : Nat → Int32} (hlt : l.stackTraces = false) (X : Cx p s m args c RL cL_law 8 D cA ad A) (hnc : nc cA = NC + 1) (hargs : ∃ b0 : Nat, args = #[Value.ref b0]) (hAs : ∀ q, A q → s.heap.size ≤ q) (hr : meth.sig.returnType = ret) (hlk : meth.locks = false) (hSc : va_X (ad 197) L xs s s.heap) (hSb : ad 197 < s.heap.size) (hSA : ¬ A (ad 197)) (cells slots : Nat) (hC : cells + 3 ≤ room_1.cells) (hS : slots + 18 ≤ room_1.slots) (i : Int32) (hb : PH) (j2584 : PH → Option (Int32 × PH)) (hj2584 : ∀ (h2 : PH), SWo (QL below args s) p l e room_1 s m args below meth c (cells + 3) (slots + 18) 8 D cA ad A 2584 [(0, .ref 197), (1, .ref 0), (2, .ref 152), (3, .ref NC), (4, .int i)] [] h2 (j2584 h2)) : SWo (QL below args s) p l e room_1 s m args below meth c cells slots 8 D cA ad A 976 [(0, .ref 197), (1, .ref 0), (2, .ref 152), (3, .ref NC), (4, .int i)] [] hb (br_15 xs L i hb j2584) := by
  have hroom1 : room_1.cells = 601024 := rfl
  have hroom2 : room_1.slots = 7293034 := rfl
  unfold br_15
  refine so_aload_n (i := 1) X 1 (dkL_law_10 (976, .aload_n 1, 1) (pgm 13 rfl)) rfl rfl ?_
  refine so_aload_n (i := 0) X 0 (dkL_law_10 (977, .aload_n 0, 1) (pgm 14 rfl)) rfl rfl ?_
  refine so_iload (i := 4) X 4 (dkL_law_10 (978, .iload 4, 2) (pgm 15 rfl)) rfl ?_
  refine so_iconst (v := (1 : Int32)) X (dkL_law_10 (980, .iconst 1, 1) (pgm 16 rfl)) ic_1 ?_
  refine so_iadd X (dkL_law_10 (981, .iadd, 1) (pgm 17 rfl)) ?_
  refine so_sld X hSc hSb hSA (dkL_law_10 (982, .iaload, 1) (pgm 18 rfl)) (fun x156 => ?_)
  refine so_aload_n (i := 3) X 3 (dkL_law_10 (983, .aload_n 3, 1) (pgm 19 rfl)) rfl rfl ?_
  refine so_callW (n := 3) (As := [.ref 0, .int x156, .ref NC]) X hnc (ct_L_follows l hlt x156 hb) lk_1252 lk_1253 lk_120 lk_1254 (by decide +kernel) rfl rfl rfl ⟨Nat.le_of_ble_eq_true rfl, Nat.le_of_ble_eq_true rfl⟩ ⟨hC, hS⟩ (by decide) (dkL_law_10 (984, .invokestatic 192, 3) (pgm 20 rfl)) (fun r157 h158 => ?_) rfl
  refine so_istore (i := 5) X (dkL_law_10 (987, .istore 5, 2) (pgm 21 rfl)) (by decide) (Lf := fun x159 => [(5, .int x159), (0, .ref 197), (1, .ref 0), (2, .ref 152), (3, .ref NC), (4, .int i)]) (fun _ => rfl) (fun x159 => ?_)
  refine so_aload_n (i := 2) X 3 (dkL_law_10 (989, .aload_n 2, 1) (pgm 22 rfl)) rfl rfl ?_
  refine so_aload_n (i := 0) X 1 (dkL_law_10 (990, .aload_n 0, 1) (pgm 23 rfl)) rfl rfl ?_
  refine so_iload (i := 4) X 5 (dkL_law_10 (991, .iload 4, 2) (pgm 24 rfl)) rfl ?_
  refine so_iconst (v := (1 : Int32)) X (dkL_law_10 (993, .iconst 1, 1) (pgm 25 rfl)) ic_1 ?_
  refine so_iadd X (dkL_law_10 (994, .iadd, 1) (pgm 26 rfl)) ?_
  refine so_sld X hSc hSb hSA (dkL_law_10 (995, .iaload, 1) (pgm 27 rfl)) (fun x160 => ?_)
  refine so_callV (n := 1) (As := [.int x160]) X (ct_X12_follows l 152 x160 h158 km0) km0 (by decide) rfl lk_2051 lk_2052 lk_2053 lk_134 lk_2054 (by decide +kernel) rfl rfl rfl ⟨Nat.le_of_ble_eq_true rfl, Nat.le_of_ble_eq_true rfl⟩ ⟨by omega, by omega⟩ (Nat.le_of_ble_eq_true rfl) (dkL_law_10 (996, .invokevirtual 194, 3) (pgm 28 rfl)) (fun r161 h162 => ?_) rfl
  refine so_istore (i := 6) X (dkL_law_10 (999, .istore 6, 2) (pgm 29 rfl)) (by decide) (Lf := fun x163 => [(6, .int x163), (5, .int x159), (0, .ref 197), (1, .ref 0), (2, .ref 152), (3, .ref NC), (4, .int i)]) (fun _ => rfl) (fun x163 => ?_)
  refine so_aload_n (i := 2) X 4 (dkL_law_10 (1001, .aload_n 2, 1) (pgm 30 rfl)) rfl rfl ?_
  refine so_callV (n := 0) (As := []) X (ct_X12_thrown l 152 h162 km0) km0 (by decide) rfl lk_1820 lk_1821 lk_1822 lk_134 lk_1823 (by decide +kernel) rfl rfl rfl ⟨Nat.le_of_ble_eq_true rfl, Nat.le_of_ble_eq_true rfl⟩ ⟨by omega, by omega⟩ (Nat.le_of_ble_eq_true rfl) (dkL_law_10 (1002, .invokevirtual 144, 3) (pgm 31 rfl)) (fun r164 h165 => ?_) rfl
  refine so_iload (i := 5) X 1 (dkL_law_10 (1005, .iload 5, 2) (pgm 32 rfl)) rfl ?_
  refine so_icmp_eq (tgt := 1012) X (dkL_law_10 (1007, .if_icmp .eq 5, 3) (pgm 33 rfl)) rfl (fun _ => ?_) (fun _ => ?_)
  · refine so_iload (i := 5) X 1 (dkL_law_10 (1012, .iload 5, 2) (pgm 36 rfl)) rfl ?_
    refine so_join (jf := fun (h166 : PH) => j2584 h166) (fun (j : PH → Option (Int32 × PH)) => ∀  (h166 : PH), SWo (QL below args s) p l e room_1 s m args below meth c (cells + 3) (slots + 18) 8 D cA ad A 1029 [(0, .ref 197), (1, .ref 0), (2, .ref 152), (3, .ref NC), (4, .int i)] [] h166 (j h166)) ?_ (fun j1029 hj1029 => ?_)
    · intro h166
      refine so_goto (tgt := 2584) X (dkL_law_10 (1029, .goto 1555, 3) (pgm 47 rfl)) rfl ?_
      exact so_pick X [0, 1, 2, 3, 4] rfl (hj2584 h166)
    refine so_if_ne (tgt := 1029) X (dkL_law_10 (1014, .ifCond .ne 15, 3) (pgm 37 rfl)) rfl (fun _ => ?_) (fun _ => ?_)
    · exact so_pick X [2, 3, 4, 5, 6] rfl (hj1029 h165)
    · refine so_aload_n (i := 3) X 5 (dkL_law_10 (1017, .aload_n 3, 1) (pgm 38 rfl)) rfl rfl ?_
      refine so_iconst (v := (0 : Int32)) X (dkL_law_10 (1018, .iconst 0, 1) (pgm 39 rfl)) ic_0 ?_
      refine so_outLd X hnc (dkL_law_10 (1019, .laload, 1) (pgm 40 rfl)) ?_
      refine so_iload (i := 6) X 0 (dkL_law_10 (1020, .iload 6, 2) (pgm 41 rfl)) rfl ?_
      refine so_i2l X (dkL_law_10 (1022, .i2l, 1) (pgm 42 rfl)) ?_
      refine so_lcmp X (dkL_law_10 (1023, .lcmp, 1) (pgm 43 rfl)) ?_
      refine so_if_eq (tgt := 1029) X (dkL_law_10 (1024, .ifCond .eq 5, 3) (pgm 44 rfl)) rfl (fun _ => ?_) (fun _ => ?_)
      · exact so_pick X [2, 3, 4, 5, 6] rfl (hj1029 h165)
      · refine so_iconst (v := (0 : Int32)) X (dkL_law_10 (1027, .iconst 0, 1) (pgm 45 rfl)) ic_0 ?_
        exact so_lawret X hargs rfl hAs hr hlk (by omega) (by omega) (dkL_law_10 (1028, .ireturn, 1) (pgm 46 rfl))
  · refine so_iconst (v := (0 : Int32)) X (dkL_law_10 (1010, .iconst 0, 1) (pgm 34 rfl)) ic_0 ?_
    exact so_lawret X hargs rfl hAs hr hlk (by omega) (by omega) (dkL_law_10 (1011, .ireturn, 1) (pgm 35 rfl))
def br_16 (xs : Nat → Int32) (L : Nat) (i : Int32) (hb : PH) (j2584 : PH → Option (Int32 × PH)) : Option (Int32 × PH) :=
  ldX xs L (i + (1 : Int32)) (fun (x167 : Int32) => ldX xs L (i + (2 : Int32)) (fun (x168 : Int32) => lt (fun (t169 : Int32) (h170 : PH) => cb (f_L_sure x167 t169 h170) (fun (r171 : Int32) (h172 : PH) => lt r171 (fun (x173 : Int32) => ldX xs L (i + (1 : Int32)) (fun (x174 : Int32) => ldX xs L (i + (2 : Int32)) (fun (x175 : Int32) => lt (fun (t176 : Int32) (h177 : PH) => cb (f_X12_sure 152 x174 t176 h177) (fun (r178 : Int32) (h179 : PH) => lt r178 (fun (x180 : Int32) => cb (f_X12_thrown 152 h179) (fun (r181 : Int32) (h182 : PH) => if r181 = x173 then (lt (fun (h183 : PH) => j2584 h183) (fun (j1113 : PH → Option (Int32 × PH)) => if x173 = 0 then (if (lg_cmp (h182.2 NC 0) x180.toInt64) = 0 then (j1113 h182) else (some ((0 : Int32), h182))) else (j1113 h182))) else (some ((0 : Int32), h182)))))) (fun (j1080 : Int32 → PH → Option (Int32 × PH)) => if x175 = 0 then (j1080 (0 : Int32) h172) else (j1080 (1 : Int32) h172))))))) (fun (j1053 : Int32 → PH → Option (Int32 × PH)) => if x168 = 0 then (j1053 (0 : Int32) hb) else (j1053 (1 : Int32) hb))))
set_option maxRecDepth 100000 in
set_option maxHeartbeats 4000000 in
theorem lb_16 {p : Program} {l : Launch} {e : Env} {s : State} {m : MethodId} {args : Array Value} {below : List Frame} {meth : Method} {c : Code} {D : va_G} {cA : Nat → ClassId} {ad : Nat → Nat} {A : Nat → Prop} {L : Nat} {xs : Nat → Int32} (hlt : l.stackTraces = false) (X : Cx p s m args c RL cL_law 8 D cA ad A) (hnc : nc cA = NC + 1) (hargs : ∃ b0 : Nat, args = #[Value.ref b0]) (hAs : ∀ q, A q → s.heap.size ≤ q) (hr : meth.sig.returnType = ret) (hlk : meth.locks = false) (hSc : va_X (ad 197) L xs s s.heap) (hSb : ad 197 < s.heap.size) (hSA : ¬ A (ad 197)) (cells slots : Nat) (hC : cells + 3 ≤ room_1.cells) (hS : slots + 18 ≤ room_1.slots) (i : Int32) (hb : PH) (j2584 : PH → Option (Int32 × PH)) (hj2584 : ∀ (h2 : PH), SWo (QL below args s) p l e room_1 s m args below meth c (cells + 3) (slots + 18) 8 D cA ad A 2584 [(0, .ref 197), (1, .ref 0), (2, .ref 152), (3, .ref NC), (4, .int i)] [] h2 (j2584 h2)) : SWo (QL below args s) p l e room_1 s m args below meth c cells slots 8 D cA ad A 1032 [(0, .ref 197), (1, .ref 0), (2, .ref 152), (3, .ref NC), (4, .int i)] [] hb (br_16 xs L i hb j2584) := by
  have hroom1 : room_1.cells = 601024 := rfl
  have hroom2 : room_1.slots = 7293034 := rfl
  unfold br_16
  refine so_aload_n (i := 1) X 1 (dkL_law_10 (1032, .aload_n 1, 1) (pgm 48 rfl)) rfl rfl ?_
  refine so_aload_n (i := 0) X 0 (dkL_law_10 (1033, .aload_n 0, 1) (pgm 49 rfl)) rfl rfl ?_
  refine so_iload (i := 4) X 4 (dkL_law_11 (1034, .iload 4, 2) (pgm 0 rfl)) rfl ?_
  refine so_iconst (v := (1 : Int32)) X (dkL_law_11 (1036, .iconst 1, 1) (pgm 1 rfl)) ic_1 ?_
  refine so_iadd X (dkL_law_11 (1037, .iadd, 1) (pgm 2 rfl)) ?_
  refine so_sld X hSc hSb hSA (dkL_law_11 (1038, .iaload, 1) (pgm 3 rfl)) (fun x167 => ?_)
  refine so_aload_n (i := 0) X 0 (dkL_law_11 (1039, .aload_n 0, 1) (pgm 4 rfl)) rfl rfl ?_
  refine so_iload (i := 4) X 4 (dkL_law_11 (1040, .iload 4, 2) (pgm 5 rfl)) rfl ?_
  refine so_iconst (v := (2 : Int32)) X (dkL_law_11 (1042, .iconst 2, 1) (pgm 6 rfl)) ic_2 ?_
  refine so_iadd X (dkL_law_11 (1043, .iadd, 1) (pgm 7 rfl)) ?_
  refine so_sld X hSc hSb hSA (dkL_law_11 (1044, .iaload, 1) (pgm 8 rfl)) (fun x168 => ?_)
  refine so_join (jf := fun (t169 : Int32) (h170 : PH) => cb (f_L_sure x167 t169 h170) (fun (r171 : Int32) (h172 : PH) => lt r171 (fun (x173 : Int32) => ldX xs L (i + (1 : Int32)) (fun (x174 : Int32) => ldX xs L (i + (2 : Int32)) (fun (x175 : Int32) => lt (fun (t176 : Int32) (h177 : PH) => cb (f_X12_sure 152 x174 t176 h177) (fun (r178 : Int32) (h179 : PH) => lt r178 (fun (x180 : Int32) => cb (f_X12_thrown 152 h179) (fun (r181 : Int32) (h182 : PH) => if r181 = x173 then (lt (fun (h183 : PH) => j2584 h183) (fun (j1113 : PH → Option (Int32 × PH)) => if x173 = 0 then (if (lg_cmp (h182.2 NC 0) x180.toInt64) = 0 then (j1113 h182) else (some ((0 : Int32), h182))) else (j1113 h182))) else (some ((0 : Int32), h182)))))) (fun (j1080 : Int32 → PH → Option (Int32 × PH)) => if x175 = 0 then (j1080 (0 : Int32) h172) else (j1080 (1 : Int32) h172))))))) (fun (j : Int32 → PH → Option (Int32 × PH)) => ∀ (t169 : Int32) (h170 : PH), SWo (QL below args s) p l e room_1 s m args below meth c cells slots 8 D cA ad A 1053 [(0, .ref 197), (1, .ref 0), (2, .ref 152), (3, .ref NC), (4, .int i)] [.int t169, .int x167, .ref 0] h170 (j t169 h170)) ?_ (fun j1053 hj1053 => ?_)
  · intro t169 h170
    refine so_aload_n (i := 3) X 3 (dkL_law_11 (1053, .aload_n 3, 1) (pgm 13 rfl)) rfl rfl ?_
    refine so_callW (n := 4) (As := [.ref 0, .int x167, .int t169, .ref NC]) X hnc (ct_L_sure l hlt x167 t169 h170) lk_1263 lk_1264 lk_120 lk_1265 (by decide +kernel) rfl rfl rfl ⟨Nat.le_of_ble_eq_true rfl, Nat.le_of_ble_eq_true rfl⟩ ⟨hC, hS⟩ (by decide) (dkL_law_11 (1054, .invokestatic 195, 3) (pgm 14 rfl)) (fun r171 h172 => ?_) rfl
    refine so_istore (i := 5) X (dkL_law_11 (1057, .istore 5, 2) (pgm 15 rfl)) (by decide) (Lf := fun x173 => [(5, .int x173), (0, .ref 197), (1, .ref 0), (2, .ref 152), (3, .ref NC), (4, .int i)]) (fun _ => rfl) (fun x173 => ?_)
    refine so_aload_n (i := 2) X 3 (dkL_law_11 (1059, .aload_n 2, 1) (pgm 16 rfl)) rfl rfl ?_
    refine so_aload_n (i := 0) X 1 (dkL_law_11 (1060, .aload_n 0, 1) (pgm 17 rfl)) rfl rfl ?_
    refine so_iload (i := 4) X 5 (dkL_law_11 (1061, .iload 4, 2) (pgm 18 rfl)) rfl ?_
    refine so_iconst (v := (1 : Int32)) X (dkL_law_11 (1063, .iconst 1, 1) (pgm 19 rfl)) ic_1 ?_
    refine so_iadd X (dkL_law_11 (1064, .iadd, 1) (pgm 20 rfl)) ?_
    refine so_sld X hSc hSb hSA (dkL_law_11 (1065, .iaload, 1) (pgm 21 rfl)) (fun x174 => ?_)
    refine so_aload_n (i := 0) X 1 (dkL_law_11 (1066, .aload_n 0, 1) (pgm 22 rfl)) rfl rfl ?_
    refine so_iload (i := 4) X 5 (dkL_law_11 (1067, .iload 4, 2) (pgm 23 rfl)) rfl ?_
    refine so_iconst (v := (2 : Int32)) X (dkL_law_11 (1069, .iconst 2, 1) (pgm 24 rfl)) ic_2 ?_
    refine so_iadd X (dkL_law_11 (1070, .iadd, 1) (pgm 25 rfl)) ?_
    refine so_sld X hSc hSb hSA (dkL_law_11 (1071, .iaload, 1) (pgm 26 rfl)) (fun x175 => ?_)
    refine so_join (jf := fun (t176 : Int32) (h177 : PH) => cb (f_X12_sure 152 x174 t176 h177) (fun (r178 : Int32) (h179 : PH) => lt r178 (fun (x180 : Int32) => cb (f_X12_thrown 152 h179) (fun (r181 : Int32) (h182 : PH) => if r181 = x173 then (lt (fun (h183 : PH) => j2584 h183) (fun (j1113 : PH → Option (Int32 × PH)) => if x173 = 0 then (if (lg_cmp (h182.2 NC 0) x180.toInt64) = 0 then (j1113 h182) else (some ((0 : Int32), h182))) else (j1113 h182))) else (some ((0 : Int32), h182)))))) (fun (j : Int32 → PH → Option (Int32 × PH)) => ∀ (t176 : Int32) (h177 : PH), SWo (QL below args s) p l e room_1 s m args below meth c (cells + 3) (slots + 18) 8 D cA ad A 1080 [(0, .ref 197), (1, .ref 0), (2, .ref 152), (3, .ref NC), (4, .int i), (5, .int x173)] [.int t176, .int x174, .ref 152] h177 (j t176 h177)) ?_ (fun j1080 hj1080 => ?_)
    · intro t176 h177
      refine so_callV (n := 2) (As := [.int x174, .int t176]) X (ct_X12_sure l 152 x174 t176 h177 km0) km0 (by decide) rfl lk_2055 lk_2056 lk_2057 lk_134 lk_2058 (by decide +kernel) rfl rfl rfl ⟨Nat.le_of_ble_eq_true rfl, Nat.le_of_ble_eq_true rfl⟩ ⟨by omega, by omega⟩ (Nat.le_of_ble_eq_true rfl) (dkL_law_11 (1080, .invokevirtual 198, 3) (pgm 31 rfl)) (fun r178 h179 => ?_) rfl
      refine so_istore (i := 6) X (dkL_law_11 (1083, .istore 6, 2) (pgm 32 rfl)) (by decide) (Lf := fun x180 => [(6, .int x180), (0, .ref 197), (1, .ref 0), (2, .ref 152), (3, .ref NC), (4, .int i), (5, .int x173)]) (fun _ => rfl) (fun x180 => ?_)
      refine so_aload_n (i := 2) X 3 (dkL_law_11 (1085, .aload_n 2, 1) (pgm 33 rfl)) rfl rfl ?_
      refine so_callV (n := 0) (As := []) X (ct_X12_thrown l 152 h179 km0) km0 (by decide) rfl lk_1820 lk_1821 lk_1822 lk_134 lk_1823 (by decide +kernel) rfl rfl rfl ⟨Nat.le_of_ble_eq_true rfl, Nat.le_of_ble_eq_true rfl⟩ ⟨by omega, by omega⟩ (Nat.le_of_ble_eq_true rfl) (dkL_law_11 (1086, .invokevirtual 144, 3) (pgm 34 rfl)) (fun r181 h182 => ?_) rfl
      refine so_iload (i := 5) X 6 (dkL_law_11 (1089, .iload 5, 2) (pgm 35 rfl)) rfl ?_
      refine so_icmp_eq (tgt := 1096) X (dkL_law_11 (1091, .if_icmp .eq 5, 3) (pgm 36 rfl)) rfl (fun _ => ?_) (fun _ => ?_)
      · refine so_iload (i := 5) X 6 (dkL_law_11 (1096, .iload 5, 2) (pgm 39 rfl)) rfl ?_
        refine so_join (jf := fun (h183 : PH) => j2584 h183) (fun (j : PH → Option (Int32 × PH)) => ∀  (h183 : PH), SWo (QL below args s) p l e room_1 s m args below meth c (cells + 3) (slots + 18) 8 D cA ad A 1113 [(0, .ref 197), (1, .ref 0), (2, .ref 152), (3, .ref NC), (4, .int i)] [] h183 (j h183)) ?_ (fun j1113 hj1113 => ?_)
        · intro h183
          refine so_goto (tgt := 2584) X (dkL_law_12 (1113, .goto 1471, 3) (pgm 0 rfl)) rfl ?_
          exact so_pick X [0, 1, 2, 3, 4] rfl (hj2584 h183)
        refine so_if_ne (tgt := 1113) X (dkL_law_11 (1098, .ifCond .ne 15, 3) (pgm 40 rfl)) rfl (fun _ => ?_) (fun _ => ?_)
        · exact so_pick X [1, 2, 3, 4, 5] rfl (hj1113 h182)
        · refine so_aload_n (i := 3) X 4 (dkL_law_11 (1101, .aload_n 3, 1) (pgm 41 rfl)) rfl rfl ?_
          refine so_iconst (v := (0 : Int32)) X (dkL_law_11 (1102, .iconst 0, 1) (pgm 42 rfl)) ic_0 ?_
          refine so_outLd X hnc (dkL_law_11 (1103, .laload, 1) (pgm 43 rfl)) ?_
          refine so_iload (i := 6) X 0 (dkL_law_11 (1104, .iload 6, 2) (pgm 44 rfl)) rfl ?_
          refine so_i2l X (dkL_law_11 (1106, .i2l, 1) (pgm 45 rfl)) ?_
          refine so_lcmp X (dkL_law_11 (1107, .lcmp, 1) (pgm 46 rfl)) ?_
          refine so_if_eq (tgt := 1113) X (dkL_law_11 (1108, .ifCond .eq 5, 3) (pgm 47 rfl)) rfl (fun _ => ?_) (fun _ => ?_)
          · exact so_pick X [1, 2, 3, 4, 5] rfl (hj1113 h182)
          · refine so_iconst (v := (0 : Int32)) X (dkL_law_11 (1111, .iconst 0, 1) (pgm 48 rfl)) ic_0 ?_
            exact so_lawret X hargs rfl hAs hr hlk (by omega) (by omega) (dkL_law_11 (1112, .ireturn, 1) (pgm 49 rfl))
      · refine so_iconst (v := (0 : Int32)) X (dkL_law_11 (1094, .iconst 0, 1) (pgm 37 rfl)) ic_0 ?_
        exact so_lawret X hargs rfl hAs hr hlk (by omega) (by omega) (dkL_law_11 (1095, .ireturn, 1) (pgm 38 rfl))
    refine so_if_eq (tgt := 1079) X (dkL_law_11 (1072, .ifCond .eq 7, 3) (pgm 27 rfl)) rfl (fun _ => ?_) (fun _ => ?_)
    · refine so_iconst (v := (0 : Int32)) X (dkL_law_11 (1079, .iconst 0, 1) (pgm 30 rfl)) ic_0 ?_
      exact so_pick X [1, 2, 3, 4, 5, 0] rfl (hj1080 (0 : Int32) h172)
    · refine so_iconst (v := (1 : Int32)) X (dkL_law_11 (1075, .iconst 1, 1) (pgm 28 rfl)) ic_1 ?_
      refine so_goto (tgt := 1080) X (dkL_law_11 (1076, .goto 4, 3) (pgm 29 rfl)) rfl ?_
      exact so_pick X [1, 2, 3, 4, 5, 0] rfl (hj1080 (1 : Int32) h172)
  refine so_if_eq (tgt := 1052) X (dkL_law_11 (1045, .ifCond .eq 7, 3) (pgm 9 rfl)) rfl (fun _ => ?_) (fun _ => ?_)
  · refine so_iconst (v := (0 : Int32)) X (dkL_law_11 (1052, .iconst 0, 1) (pgm 12 rfl)) ic_0 ?_
    exact so_pick X [0, 1, 2, 3, 4] rfl (hj1053 (0 : Int32) hb)
  · refine so_iconst (v := (1 : Int32)) X (dkL_law_11 (1048, .iconst 1, 1) (pgm 10 rfl)) ic_1 ?_
    refine so_goto (tgt := 1053) X (dkL_law_11 (1049, .goto 4, 3) (pgm 11 rfl)) rfl ?_
    exact so_pick X [0, 1, 2, 3, 4] rfl (hj1053 (1 : Int32) hb)
def br_17 (xs : Nat → Int32) (L : Nat) (i : Int32) (hb : PH) (j2584 : PH → Option (Int32 × PH)) : Option (Int32 × PH) :=
  ldX xs L (i + (1 : Int32)) (fun (x184 : Int32) => ldX xs L (i + (2 : Int32)) (fun (x185 : Int32) => cb (f_L_expected x184 x185 hb) (fun (r186 : Int32) (h187 : PH) => lt r186 (fun (x188 : Int32) => ldX xs L (i + (1 : Int32)) (fun (x189 : Int32) => ldX xs L (i + (2 : Int32)) (fun (x190 : Int32) => cb (f_X12_expected 152 x189 x190 h187) (fun (r191 : Int64) (h192 : PH) => lt r191 (fun (x193 : Int64) => cb (f_X12_thrown 152 h192) (fun (r194 : Int32) (h195 : PH) => if r194 = x188 then (lt (fun (h196 : PH) => j2584 h196) (fun (j1180 : PH → Option (Int32 × PH)) => if x188 = 0 then (if (lg_cmp (h195.2 NC 0) x193) = 0 then (j1180 h195) else (some ((0 : Int32), h195))) else (j1180 h195))) else (some ((0 : Int32), h195)))))))))))
set_option maxRecDepth 100000 in
set_option maxHeartbeats 4000000 in
theorem lb_17 {p : Program} {l : Launch} {e : Env} {s : State} {m : MethodId} {args : Array Value} {below : List Frame} {meth : Method} {c : Code} {D : va_G} {cA : Nat → ClassId} {ad : Nat → Nat} {A : Nat → Prop} {L : Nat} {xs : Nat → Int32} (hlt : l.stackTraces = false) (X : Cx p s m args c RL cL_law 8 D cA ad A) (hnc : nc cA = NC + 1) (hargs : ∃ b0 : Nat, args = #[Value.ref b0]) (hAs : ∀ q, A q → s.heap.size ≤ q) (hr : meth.sig.returnType = ret) (hlk : meth.locks = false) (hSc : va_X (ad 197) L xs s s.heap) (hSb : ad 197 < s.heap.size) (hSA : ¬ A (ad 197)) (cells slots : Nat) (hC : cells + 3 ≤ room_1.cells) (hS : slots + 18 ≤ room_1.slots) (i : Int32) (hb : PH) (j2584 : PH → Option (Int32 × PH)) (hj2584 : ∀ (h2 : PH), SWo (QL below args s) p l e room_1 s m args below meth c (cells + 3) (slots + 18) 8 D cA ad A 2584 [(0, .ref 197), (1, .ref 0), (2, .ref 152), (3, .ref NC), (4, .int i)] [] h2 (j2584 h2)) : SWo (QL below args s) p l e room_1 s m args below meth c cells slots 8 D cA ad A 1116 [(0, .ref 197), (1, .ref 0), (2, .ref 152), (3, .ref NC), (4, .int i)] [] hb (br_17 xs L i hb j2584) := by
  have hroom1 : room_1.cells = 601024 := rfl
  have hroom2 : room_1.slots = 7293034 := rfl
  unfold br_17
  refine so_aload_n (i := 1) X 1 (dkL_law_12 (1116, .aload_n 1, 1) (pgm 1 rfl)) rfl rfl ?_
  refine so_aload_n (i := 0) X 0 (dkL_law_12 (1117, .aload_n 0, 1) (pgm 2 rfl)) rfl rfl ?_
  refine so_iload (i := 4) X 4 (dkL_law_12 (1118, .iload 4, 2) (pgm 3 rfl)) rfl ?_
  refine so_iconst (v := (1 : Int32)) X (dkL_law_12 (1120, .iconst 1, 1) (pgm 4 rfl)) ic_1 ?_
  refine so_iadd X (dkL_law_12 (1121, .iadd, 1) (pgm 5 rfl)) ?_
  refine so_sld X hSc hSb hSA (dkL_law_12 (1122, .iaload, 1) (pgm 6 rfl)) (fun x184 => ?_)
  refine so_aload_n (i := 0) X 0 (dkL_law_12 (1123, .aload_n 0, 1) (pgm 7 rfl)) rfl rfl ?_
  refine so_iload (i := 4) X 4 (dkL_law_12 (1124, .iload 4, 2) (pgm 8 rfl)) rfl ?_
  refine so_iconst (v := (2 : Int32)) X (dkL_law_12 (1126, .iconst 2, 1) (pgm 9 rfl)) ic_2 ?_
  refine so_iadd X (dkL_law_12 (1127, .iadd, 1) (pgm 10 rfl)) ?_
  refine so_sld X hSc hSb hSA (dkL_law_12 (1128, .iaload, 1) (pgm 11 rfl)) (fun x185 => ?_)
  refine so_aload_n (i := 3) X 3 (dkL_law_12 (1129, .aload_n 3, 1) (pgm 12 rfl)) rfl rfl ?_
  refine so_callW (n := 4) (As := [.ref 0, .int x184, .int x185, .ref NC]) X hnc (ct_L_expected l hlt x184 x185 hb) lk_1276 lk_1277 lk_120 lk_1278 (by decide +kernel) rfl rfl rfl ⟨Nat.le_of_ble_eq_true rfl, Nat.le_of_ble_eq_true rfl⟩ ⟨hC, hS⟩ (by decide) (dkL_law_12 (1130, .invokestatic 199, 3) (pgm 13 rfl)) (fun r186 h187 => ?_) rfl
  refine so_istore (i := 5) X (dkL_law_12 (1133, .istore 5, 2) (pgm 14 rfl)) (by decide) (Lf := fun x188 => [(5, .int x188), (0, .ref 197), (1, .ref 0), (2, .ref 152), (3, .ref NC), (4, .int i)]) (fun _ => rfl) (fun x188 => ?_)
  refine so_aload_n (i := 2) X 3 (dkL_law_12 (1135, .aload_n 2, 1) (pgm 15 rfl)) rfl rfl ?_
  refine so_aload_n (i := 0) X 1 (dkL_law_12 (1136, .aload_n 0, 1) (pgm 16 rfl)) rfl rfl ?_
  refine so_iload (i := 4) X 5 (dkL_law_12 (1137, .iload 4, 2) (pgm 17 rfl)) rfl ?_
  refine so_iconst (v := (1 : Int32)) X (dkL_law_12 (1139, .iconst 1, 1) (pgm 18 rfl)) ic_1 ?_
  refine so_iadd X (dkL_law_12 (1140, .iadd, 1) (pgm 19 rfl)) ?_
  refine so_sld X hSc hSb hSA (dkL_law_12 (1141, .iaload, 1) (pgm 20 rfl)) (fun x189 => ?_)
  refine so_aload_n (i := 0) X 1 (dkL_law_12 (1142, .aload_n 0, 1) (pgm 21 rfl)) rfl rfl ?_
  refine so_iload (i := 4) X 5 (dkL_law_12 (1143, .iload 4, 2) (pgm 22 rfl)) rfl ?_
  refine so_iconst (v := (2 : Int32)) X (dkL_law_12 (1145, .iconst 2, 1) (pgm 23 rfl)) ic_2 ?_
  refine so_iadd X (dkL_law_12 (1146, .iadd, 1) (pgm 24 rfl)) ?_
  refine so_sld X hSc hSb hSA (dkL_law_12 (1147, .iaload, 1) (pgm 25 rfl)) (fun x190 => ?_)
  refine so_callV (n := 2) (As := [.int x189, .int x190]) X (ct_X12_expected l 152 x189 x190 h187 km0) km0 (by decide) rfl lk_2059 lk_2060 lk_2061 lk_134 lk_2062 (by decide +kernel) rfl rfl rfl ⟨Nat.le_of_ble_eq_true rfl, Nat.le_of_ble_eq_true rfl⟩ ⟨by omega, by omega⟩ (Nat.le_of_ble_eq_true rfl) (dkL_law_12 (1148, .invokevirtual 201, 3) (pgm 26 rfl)) (fun r191 h192 => ?_) rfl
  refine so_lstore (i := 6) X (dkL_law_12 (1151, .lstore 6, 2) (pgm 27 rfl)) (by decide) (Lf := fun x193 => [(6, .long x193), (5, .int x188), (0, .ref 197), (1, .ref 0), (2, .ref 152), (3, .ref NC), (4, .int i)]) (fun _ => rfl) (fun x193 => ?_)
  refine so_aload_n (i := 2) X 4 (dkL_law_12 (1153, .aload_n 2, 1) (pgm 28 rfl)) rfl rfl ?_
  refine so_callV (n := 0) (As := []) X (ct_X12_thrown l 152 h192 km0) km0 (by decide) rfl lk_1820 lk_1821 lk_1822 lk_134 lk_1823 (by decide +kernel) rfl rfl rfl ⟨Nat.le_of_ble_eq_true rfl, Nat.le_of_ble_eq_true rfl⟩ ⟨by omega, by omega⟩ (Nat.le_of_ble_eq_true rfl) (dkL_law_12 (1154, .invokevirtual 144, 3) (pgm 29 rfl)) (fun r194 h195 => ?_) rfl
  refine so_iload (i := 5) X 1 (dkL_law_12 (1157, .iload 5, 2) (pgm 30 rfl)) rfl ?_
  refine so_icmp_eq (tgt := 1164) X (dkL_law_12 (1159, .if_icmp .eq 5, 3) (pgm 31 rfl)) rfl (fun _ => ?_) (fun _ => ?_)
  · refine so_iload (i := 5) X 1 (dkL_law_12 (1164, .iload 5, 2) (pgm 34 rfl)) rfl ?_
    refine so_join (jf := fun (h196 : PH) => j2584 h196) (fun (j : PH → Option (Int32 × PH)) => ∀  (h196 : PH), SWo (QL below args s) p l e room_1 s m args below meth c (cells + 3) (slots + 18) 8 D cA ad A 1180 [(0, .ref 197), (1, .ref 0), (2, .ref 152), (3, .ref NC), (4, .int i)] [] h196 (j h196)) ?_ (fun j1180 hj1180 => ?_)
    · intro h196
      refine so_goto (tgt := 2584) X (dkL_law_12 (1180, .goto 1404, 3) (pgm 44 rfl)) rfl ?_
      exact so_pick X [0, 1, 2, 3, 4] rfl (hj2584 h196)
    refine so_if_ne (tgt := 1180) X (dkL_law_12 (1166, .ifCond .ne 14, 3) (pgm 35 rfl)) rfl (fun _ => ?_) (fun _ => ?_)
    · exact so_pick X [2, 3, 4, 5, 6] rfl (hj1180 h195)
    · refine so_aload_n (i := 3) X 5 (dkL_law_12 (1169, .aload_n 3, 1) (pgm 36 rfl)) rfl rfl ?_
      refine so_iconst (v := (0 : Int32)) X (dkL_law_12 (1170, .iconst 0, 1) (pgm 37 rfl)) ic_0 ?_
      refine so_outLd X hnc (dkL_law_12 (1171, .laload, 1) (pgm 38 rfl)) ?_
      refine so_lload (i := 6) X 0 (dkL_law_12 (1172, .lload 6, 2) (pgm 39 rfl)) rfl ?_
      refine so_lcmp X (dkL_law_12 (1174, .lcmp, 1) (pgm 40 rfl)) ?_
      refine so_if_eq (tgt := 1180) X (dkL_law_12 (1175, .ifCond .eq 5, 3) (pgm 41 rfl)) rfl (fun _ => ?_) (fun _ => ?_)
      · exact so_pick X [2, 3, 4, 5, 6] rfl (hj1180 h195)
      · refine so_iconst (v := (0 : Int32)) X (dkL_law_12 (1178, .iconst 0, 1) (pgm 42 rfl)) ic_0 ?_
        exact so_lawret X hargs rfl hAs hr hlk (by omega) (by omega) (dkL_law_12 (1179, .ireturn, 1) (pgm 43 rfl))
  · refine so_iconst (v := (0 : Int32)) X (dkL_law_12 (1162, .iconst 0, 1) (pgm 32 rfl)) ic_0 ?_
    exact so_lawret X hargs rfl hAs hr hlk (by omega) (by omega) (dkL_law_12 (1163, .ireturn, 1) (pgm 33 rfl))
def br_18 (xs : Nat → Int32) (L : Nat) (i : Int32) (hb : PH) (j2584 : PH → Option (Int32 × PH)) : Option (Int32 × PH) :=
  ldX xs L (i + (1 : Int32)) (fun (x197 : Int32) => cb (f_L_bestChance x197 hb) (fun (r198 : Int32) (h199 : PH) => lt r198 (fun (x200 : Int32) => ldX xs L (i + (1 : Int32)) (fun (x201 : Int32) => cb (f_X12_bestChance 152 x201 h199) (fun (r202 : Int32) (h203 : PH) => lt r202 (fun (x204 : Int32) => cb (f_X12_thrown 152 h203) (fun (r205 : Int32) (h206 : PH) => if r205 = x200 then (lt (fun (h207 : PH) => j2584 h207) (fun (j1236 : PH → Option (Int32 × PH)) => if x200 = 0 then (if (lg_cmp (h206.2 NC 0) x204.toInt64) = 0 then (j1236 h206) else (some ((0 : Int32), h206))) else (j1236 h206))) else (some ((0 : Int32), h206)))))))))
set_option maxRecDepth 100000 in
set_option maxHeartbeats 4000000 in
theorem lb_18 {p : Program} {l : Launch} {e : Env} {s : State} {m : MethodId} {args : Array Value} {below : List Frame} {meth : Method} {c : Code} {D : va_G} {cA : Nat → ClassId} {ad : Nat → Nat} {A : Nat → Prop} {L : Nat} {xs : Nat → Int32} (hlt : l.stackTraces = false) (X : Cx p s m args c RL cL_law 8 D cA ad A) (hnc : nc cA = NC + 1) (hargs : ∃ b0 : Nat, args = #[Value.ref b0]) (hAs : ∀ q, A q → s.heap.size ≤ q) (hr : meth.sig.returnType = ret) (hlk : meth.locks = false) (hSc : va_X (ad 197) L xs s s.heap) (hSb : ad 197 < s.heap.size) (hSA : ¬ A (ad 197)) (cells slots : Nat) (hC : cells + 3 ≤ room_1.cells) (hS : slots + 18 ≤ room_1.slots) (i : Int32) (hb : PH) (j2584 : PH → Option (Int32 × PH)) (hj2584 : ∀ (h2 : PH), SWo (QL below args s) p l e room_1 s m args below meth c (cells + 3) (slots + 18) 8 D cA ad A 2584 [(0, .ref 197), (1, .ref 0), (2, .ref 152), (3, .ref NC), (4, .int i)] [] h2 (j2584 h2)) : SWo (QL below args s) p l e room_1 s m args below meth c cells slots 8 D cA ad A 1183 [(0, .ref 197), (1, .ref 0), (2, .ref 152), (3, .ref NC), (4, .int i)] [] hb (br_18 xs L i hb j2584) := by
  have hroom1 : room_1.cells = 601024 := rfl
  have hroom2 : room_1.slots = 7293034 := rfl
  unfold br_18
  refine so_aload_n (i := 1) X 1 (dkL_law_12 (1183, .aload_n 1, 1) (pgm 45 rfl)) rfl rfl ?_
  refine so_aload_n (i := 0) X 0 (dkL_law_12 (1184, .aload_n 0, 1) (pgm 46 rfl)) rfl rfl ?_
  refine so_iload (i := 4) X 4 (dkL_law_12 (1185, .iload 4, 2) (pgm 47 rfl)) rfl ?_
  refine so_iconst (v := (1 : Int32)) X (dkL_law_12 (1187, .iconst 1, 1) (pgm 48 rfl)) ic_1 ?_
  refine so_iadd X (dkL_law_12 (1188, .iadd, 1) (pgm 49 rfl)) ?_
  refine so_sld X hSc hSb hSA (dkL_law_13 (1189, .iaload, 1) (pgm 0 rfl)) (fun x197 => ?_)
  refine so_aload_n (i := 3) X 3 (dkL_law_13 (1190, .aload_n 3, 1) (pgm 1 rfl)) rfl rfl ?_
  refine so_callW (n := 3) (As := [.ref 0, .int x197, .ref NC]) X hnc (ct_L_bestChance l hlt x197 hb) lk_1296 lk_1297 lk_120 lk_1298 (by decide +kernel) rfl rfl rfl ⟨Nat.le_of_ble_eq_true rfl, Nat.le_of_ble_eq_true rfl⟩ ⟨hC, hS⟩ (by decide) (dkL_law_13 (1191, .invokestatic 202, 3) (pgm 2 rfl)) (fun r198 h199 => ?_) rfl
  refine so_istore (i := 5) X (dkL_law_13 (1194, .istore 5, 2) (pgm 3 rfl)) (by decide) (Lf := fun x200 => [(5, .int x200), (0, .ref 197), (1, .ref 0), (2, .ref 152), (3, .ref NC), (4, .int i)]) (fun _ => rfl) (fun x200 => ?_)
  refine so_aload_n (i := 2) X 3 (dkL_law_13 (1196, .aload_n 2, 1) (pgm 4 rfl)) rfl rfl ?_
  refine so_aload_n (i := 0) X 1 (dkL_law_13 (1197, .aload_n 0, 1) (pgm 5 rfl)) rfl rfl ?_
  refine so_iload (i := 4) X 5 (dkL_law_13 (1198, .iload 4, 2) (pgm 6 rfl)) rfl ?_
  refine so_iconst (v := (1 : Int32)) X (dkL_law_13 (1200, .iconst 1, 1) (pgm 7 rfl)) ic_1 ?_
  refine so_iadd X (dkL_law_13 (1201, .iadd, 1) (pgm 8 rfl)) ?_
  refine so_sld X hSc hSb hSA (dkL_law_13 (1202, .iaload, 1) (pgm 9 rfl)) (fun x201 => ?_)
  refine so_callV (n := 1) (As := [.int x201]) X (ct_X12_bestChance l 152 x201 h199 km0) km0 (by decide) rfl lk_2071 lk_2072 lk_2073 lk_134 lk_2074 (by decide +kernel) rfl rfl rfl ⟨Nat.le_of_ble_eq_true rfl, Nat.le_of_ble_eq_true rfl⟩ ⟨by omega, by omega⟩ (Nat.le_of_ble_eq_true rfl) (dkL_law_13 (1203, .invokevirtual 204, 3) (pgm 10 rfl)) (fun r202 h203 => ?_) rfl
  refine so_istore (i := 6) X (dkL_law_13 (1206, .istore 6, 2) (pgm 11 rfl)) (by decide) (Lf := fun x204 => [(6, .int x204), (5, .int x200), (0, .ref 197), (1, .ref 0), (2, .ref 152), (3, .ref NC), (4, .int i)]) (fun _ => rfl) (fun x204 => ?_)
  refine so_aload_n (i := 2) X 4 (dkL_law_13 (1208, .aload_n 2, 1) (pgm 12 rfl)) rfl rfl ?_
  refine so_callV (n := 0) (As := []) X (ct_X12_thrown l 152 h203 km0) km0 (by decide) rfl lk_1820 lk_1821 lk_1822 lk_134 lk_1823 (by decide +kernel) rfl rfl rfl ⟨Nat.le_of_ble_eq_true rfl, Nat.le_of_ble_eq_true rfl⟩ ⟨by omega, by omega⟩ (Nat.le_of_ble_eq_true rfl) (dkL_law_13 (1209, .invokevirtual 144, 3) (pgm 13 rfl)) (fun r205 h206 => ?_) rfl
  refine so_iload (i := 5) X 1 (dkL_law_13 (1212, .iload 5, 2) (pgm 14 rfl)) rfl ?_
  refine so_icmp_eq (tgt := 1219) X (dkL_law_13 (1214, .if_icmp .eq 5, 3) (pgm 15 rfl)) rfl (fun _ => ?_) (fun _ => ?_)
  · refine so_iload (i := 5) X 1 (dkL_law_13 (1219, .iload 5, 2) (pgm 18 rfl)) rfl ?_
    refine so_join (jf := fun (h207 : PH) => j2584 h207) (fun (j : PH → Option (Int32 × PH)) => ∀  (h207 : PH), SWo (QL below args s) p l e room_1 s m args below meth c (cells + 3) (slots + 18) 8 D cA ad A 1236 [(0, .ref 197), (1, .ref 0), (2, .ref 152), (3, .ref NC), (4, .int i)] [] h207 (j h207)) ?_ (fun j1236 hj1236 => ?_)
    · intro h207
      refine so_goto (tgt := 2584) X (dkL_law_13 (1236, .goto 1348, 3) (pgm 29 rfl)) rfl ?_
      exact so_pick X [0, 1, 2, 3, 4] rfl (hj2584 h207)
    refine so_if_ne (tgt := 1236) X (dkL_law_13 (1221, .ifCond .ne 15, 3) (pgm 19 rfl)) rfl (fun _ => ?_) (fun _ => ?_)
    · exact so_pick X [2, 3, 4, 5, 6] rfl (hj1236 h206)
    · refine so_aload_n (i := 3) X 5 (dkL_law_13 (1224, .aload_n 3, 1) (pgm 20 rfl)) rfl rfl ?_
      refine so_iconst (v := (0 : Int32)) X (dkL_law_13 (1225, .iconst 0, 1) (pgm 21 rfl)) ic_0 ?_
      refine so_outLd X hnc (dkL_law_13 (1226, .laload, 1) (pgm 22 rfl)) ?_
      refine so_iload (i := 6) X 0 (dkL_law_13 (1227, .iload 6, 2) (pgm 23 rfl)) rfl ?_
      refine so_i2l X (dkL_law_13 (1229, .i2l, 1) (pgm 24 rfl)) ?_
      refine so_lcmp X (dkL_law_13 (1230, .lcmp, 1) (pgm 25 rfl)) ?_
      refine so_if_eq (tgt := 1236) X (dkL_law_13 (1231, .ifCond .eq 5, 3) (pgm 26 rfl)) rfl (fun _ => ?_) (fun _ => ?_)
      · exact so_pick X [2, 3, 4, 5, 6] rfl (hj1236 h206)
      · refine so_iconst (v := (0 : Int32)) X (dkL_law_13 (1234, .iconst 0, 1) (pgm 27 rfl)) ic_0 ?_
        exact so_lawret X hargs rfl hAs hr hlk (by omega) (by omega) (dkL_law_13 (1235, .ireturn, 1) (pgm 28 rfl))
  · refine so_iconst (v := (0 : Int32)) X (dkL_law_13 (1217, .iconst 0, 1) (pgm 16 rfl)) ic_0 ?_
    exact so_lawret X hargs rfl hAs hr hlk (by omega) (by omega) (dkL_law_13 (1218, .ireturn, 1) (pgm 17 rfl))
def br_19 (xs : Nat → Int32) (L : Nat) (i : Int32) (hb : PH) (j2584 : PH → Option (Int32 × PH)) : Option (Int32 × PH) :=
  ldX xs L (i + (1 : Int32)) (fun (x208 : Int32) => cb (f_L_served x208 hb) (fun (r209 : Int32) (h210 : PH) => lt r209 (fun (x211 : Int32) => ldX xs L (i + (1 : Int32)) (fun (x212 : Int32) => cb (f_X12_served 152 x212 h210) (fun (r213 : Int32) (h214 : PH) => lt r213 (fun (x215 : Int32) => cb (f_X12_thrown 152 h214) (fun (r216 : Int32) (h217 : PH) => if r216 = x211 then (lt (fun (h218 : PH) => j2584 h218) (fun (j1292 : PH → Option (Int32 × PH)) => if x211 = 0 then (if (lg_cmp (h217.2 NC 0) x215.toInt64) = 0 then (j1292 h217) else (some ((0 : Int32), h217))) else (j1292 h217))) else (some ((0 : Int32), h217)))))))))
set_option maxRecDepth 100000 in
set_option maxHeartbeats 4000000 in
theorem lb_19 {p : Program} {l : Launch} {e : Env} {s : State} {m : MethodId} {args : Array Value} {below : List Frame} {meth : Method} {c : Code} {D : va_G} {cA : Nat → ClassId} {ad : Nat → Nat} {A : Nat → Prop} {L : Nat} {xs : Nat → Int32} (hlt : l.stackTraces = false) (X : Cx p s m args c RL cL_law 8 D cA ad A) (hnc : nc cA = NC + 1) (hargs : ∃ b0 : Nat, args = #[Value.ref b0]) (hAs : ∀ q, A q → s.heap.size ≤ q) (hr : meth.sig.returnType = ret) (hlk : meth.locks = false) (hSc : va_X (ad 197) L xs s s.heap) (hSb : ad 197 < s.heap.size) (hSA : ¬ A (ad 197)) (cells slots : Nat) (hC : cells + 3 ≤ room_1.cells) (hS : slots + 18 ≤ room_1.slots) (i : Int32) (hb : PH) (j2584 : PH → Option (Int32 × PH)) (hj2584 : ∀ (h2 : PH), SWo (QL below args s) p l e room_1 s m args below meth c (cells + 3) (slots + 18) 8 D cA ad A 2584 [(0, .ref 197), (1, .ref 0), (2, .ref 152), (3, .ref NC), (4, .int i)] [] h2 (j2584 h2)) : SWo (QL below args s) p l e room_1 s m args below meth c cells slots 8 D cA ad A 1239 [(0, .ref 197), (1, .ref 0), (2, .ref 152), (3, .ref NC), (4, .int i)] [] hb (br_19 xs L i hb j2584) := by
  have hroom1 : room_1.cells = 601024 := rfl
  have hroom2 : room_1.slots = 7293034 := rfl
  unfold br_19
  refine so_aload_n (i := 1) X 1 (dkL_law_13 (1239, .aload_n 1, 1) (pgm 30 rfl)) rfl rfl ?_
  refine so_aload_n (i := 0) X 0 (dkL_law_13 (1240, .aload_n 0, 1) (pgm 31 rfl)) rfl rfl ?_
  refine so_iload (i := 4) X 4 (dkL_law_13 (1241, .iload 4, 2) (pgm 32 rfl)) rfl ?_
  refine so_iconst (v := (1 : Int32)) X (dkL_law_13 (1243, .iconst 1, 1) (pgm 33 rfl)) ic_1 ?_
  refine so_iadd X (dkL_law_13 (1244, .iadd, 1) (pgm 34 rfl)) ?_
  refine so_sld X hSc hSb hSA (dkL_law_13 (1245, .iaload, 1) (pgm 35 rfl)) (fun x208 => ?_)
  refine so_aload_n (i := 3) X 3 (dkL_law_13 (1246, .aload_n 3, 1) (pgm 36 rfl)) rfl rfl ?_
  refine so_callW (n := 3) (As := [.ref 0, .int x208, .ref NC]) X hnc (ct_L_served l hlt x208 hb) lk_1309 lk_1310 lk_120 lk_1311 (by decide +kernel) rfl rfl rfl ⟨Nat.le_of_ble_eq_true rfl, Nat.le_of_ble_eq_true rfl⟩ ⟨hC, hS⟩ (by decide) (dkL_law_13 (1247, .invokestatic 205, 3) (pgm 37 rfl)) (fun r209 h210 => ?_) rfl
  refine so_istore (i := 5) X (dkL_law_13 (1250, .istore 5, 2) (pgm 38 rfl)) (by decide) (Lf := fun x211 => [(5, .int x211), (0, .ref 197), (1, .ref 0), (2, .ref 152), (3, .ref NC), (4, .int i)]) (fun _ => rfl) (fun x211 => ?_)
  refine so_aload_n (i := 2) X 3 (dkL_law_13 (1252, .aload_n 2, 1) (pgm 39 rfl)) rfl rfl ?_
  refine so_aload_n (i := 0) X 1 (dkL_law_13 (1253, .aload_n 0, 1) (pgm 40 rfl)) rfl rfl ?_
  refine so_iload (i := 4) X 5 (dkL_law_13 (1254, .iload 4, 2) (pgm 41 rfl)) rfl ?_
  refine so_iconst (v := (1 : Int32)) X (dkL_law_13 (1256, .iconst 1, 1) (pgm 42 rfl)) ic_1 ?_
  refine so_iadd X (dkL_law_13 (1257, .iadd, 1) (pgm 43 rfl)) ?_
  refine so_sld X hSc hSb hSA (dkL_law_13 (1258, .iaload, 1) (pgm 44 rfl)) (fun x212 => ?_)
  refine so_callV (n := 1) (As := [.int x212]) X (ct_X12_served l 152 x212 h210 km0) km0 (by decide) rfl lk_2075 lk_2076 lk_2077 lk_134 lk_2078 (by decide +kernel) rfl rfl rfl ⟨Nat.le_of_ble_eq_true rfl, Nat.le_of_ble_eq_true rfl⟩ ⟨by omega, by omega⟩ (Nat.le_of_ble_eq_true rfl) (dkL_law_13 (1259, .invokevirtual 207, 3) (pgm 45 rfl)) (fun r213 h214 => ?_) rfl
  refine so_istore (i := 6) X (dkL_law_13 (1262, .istore 6, 2) (pgm 46 rfl)) (by decide) (Lf := fun x215 => [(6, .int x215), (5, .int x211), (0, .ref 197), (1, .ref 0), (2, .ref 152), (3, .ref NC), (4, .int i)]) (fun _ => rfl) (fun x215 => ?_)
  refine so_aload_n (i := 2) X 4 (dkL_law_13 (1264, .aload_n 2, 1) (pgm 47 rfl)) rfl rfl ?_
  refine so_callV (n := 0) (As := []) X (ct_X12_thrown l 152 h214 km0) km0 (by decide) rfl lk_1820 lk_1821 lk_1822 lk_134 lk_1823 (by decide +kernel) rfl rfl rfl ⟨Nat.le_of_ble_eq_true rfl, Nat.le_of_ble_eq_true rfl⟩ ⟨by omega, by omega⟩ (Nat.le_of_ble_eq_true rfl) (dkL_law_13 (1265, .invokevirtual 144, 3) (pgm 48 rfl)) (fun r216 h217 => ?_) rfl
  refine so_iload (i := 5) X 1 (dkL_law_13 (1268, .iload 5, 2) (pgm 49 rfl)) rfl ?_
  refine so_icmp_eq (tgt := 1275) X (dkL_law_14 (1270, .if_icmp .eq 5, 3) (pgm 0 rfl)) rfl (fun _ => ?_) (fun _ => ?_)
  · refine so_iload (i := 5) X 1 (dkL_law_14 (1275, .iload 5, 2) (pgm 3 rfl)) rfl ?_
    refine so_join (jf := fun (h218 : PH) => j2584 h218) (fun (j : PH → Option (Int32 × PH)) => ∀  (h218 : PH), SWo (QL below args s) p l e room_1 s m args below meth c (cells + 3) (slots + 18) 8 D cA ad A 1292 [(0, .ref 197), (1, .ref 0), (2, .ref 152), (3, .ref NC), (4, .int i)] [] h218 (j h218)) ?_ (fun j1292 hj1292 => ?_)
    · intro h218
      refine so_goto (tgt := 2584) X (dkL_law_14 (1292, .goto 1292, 3) (pgm 14 rfl)) rfl ?_
      exact so_pick X [0, 1, 2, 3, 4] rfl (hj2584 h218)
    refine so_if_ne (tgt := 1292) X (dkL_law_14 (1277, .ifCond .ne 15, 3) (pgm 4 rfl)) rfl (fun _ => ?_) (fun _ => ?_)
    · exact so_pick X [2, 3, 4, 5, 6] rfl (hj1292 h217)
    · refine so_aload_n (i := 3) X 5 (dkL_law_14 (1280, .aload_n 3, 1) (pgm 5 rfl)) rfl rfl ?_
      refine so_iconst (v := (0 : Int32)) X (dkL_law_14 (1281, .iconst 0, 1) (pgm 6 rfl)) ic_0 ?_
      refine so_outLd X hnc (dkL_law_14 (1282, .laload, 1) (pgm 7 rfl)) ?_
      refine so_iload (i := 6) X 0 (dkL_law_14 (1283, .iload 6, 2) (pgm 8 rfl)) rfl ?_
      refine so_i2l X (dkL_law_14 (1285, .i2l, 1) (pgm 9 rfl)) ?_
      refine so_lcmp X (dkL_law_14 (1286, .lcmp, 1) (pgm 10 rfl)) ?_
      refine so_if_eq (tgt := 1292) X (dkL_law_14 (1287, .ifCond .eq 5, 3) (pgm 11 rfl)) rfl (fun _ => ?_) (fun _ => ?_)
      · exact so_pick X [2, 3, 4, 5, 6] rfl (hj1292 h217)
      · refine so_iconst (v := (0 : Int32)) X (dkL_law_14 (1290, .iconst 0, 1) (pgm 12 rfl)) ic_0 ?_
        exact so_lawret X hargs rfl hAs hr hlk (by omega) (by omega) (dkL_law_14 (1291, .ireturn, 1) (pgm 13 rfl))
  · refine so_iconst (v := (0 : Int32)) X (dkL_law_14 (1273, .iconst 0, 1) (pgm 1 rfl)) ic_0 ?_
    exact so_lawret X hargs rfl hAs hr hlk (by omega) (by omega) (dkL_law_14 (1274, .ireturn, 1) (pgm 2 rfl))
def br_20 (xs : Nat → Int32) (L : Nat) (i : Int32) (hb : PH) (j2584 : PH → Option (Int32 × PH)) : Option (Int32 × PH) :=
  ldX xs L (i + (1 : Int32)) (fun (x219 : Int32) => ldX xs L (i + (2 : Int32)) (fun (x220 : Int32) => cb (f_L_share x219 x220 hb) (fun (r221 : Int32) (h222 : PH) => lt r221 (fun (x223 : Int32) => ldX xs L (i + (1 : Int32)) (fun (x224 : Int32) => ldX xs L (i + (2 : Int32)) (fun (x225 : Int32) => cb (f_X12_share 152 x224 x225 h222) (fun (r226 : Int32) (h227 : PH) => lt r226 (fun (x228 : Int32) => cb (f_X12_thrown 152 h227) (fun (r229 : Int32) (h230 : PH) => if r229 = x223 then (lt (fun (h231 : PH) => j2584 h231) (fun (j1360 : PH → Option (Int32 × PH)) => if x223 = 0 then (if (lg_cmp (h230.2 NC 0) x228.toInt64) = 0 then (j1360 h230) else (some ((0 : Int32), h230))) else (j1360 h230))) else (some ((0 : Int32), h230)))))))))))
set_option maxRecDepth 100000 in
set_option maxHeartbeats 4000000 in
theorem lb_20 {p : Program} {l : Launch} {e : Env} {s : State} {m : MethodId} {args : Array Value} {below : List Frame} {meth : Method} {c : Code} {D : va_G} {cA : Nat → ClassId} {ad : Nat → Nat} {A : Nat → Prop} {L : Nat} {xs : Nat → Int32} (hlt : l.stackTraces = false) (X : Cx p s m args c RL cL_law 8 D cA ad A) (hnc : nc cA = NC + 1) (hargs : ∃ b0 : Nat, args = #[Value.ref b0]) (hAs : ∀ q, A q → s.heap.size ≤ q) (hr : meth.sig.returnType = ret) (hlk : meth.locks = false) (hSc : va_X (ad 197) L xs s s.heap) (hSb : ad 197 < s.heap.size) (hSA : ¬ A (ad 197)) (cells slots : Nat) (hC : cells + 3 ≤ room_1.cells) (hS : slots + 18 ≤ room_1.slots) (i : Int32) (hb : PH) (j2584 : PH → Option (Int32 × PH)) (hj2584 : ∀ (h2 : PH), SWo (QL below args s) p l e room_1 s m args below meth c (cells + 3) (slots + 18) 8 D cA ad A 2584 [(0, .ref 197), (1, .ref 0), (2, .ref 152), (3, .ref NC), (4, .int i)] [] h2 (j2584 h2)) : SWo (QL below args s) p l e room_1 s m args below meth c cells slots 8 D cA ad A 1295 [(0, .ref 197), (1, .ref 0), (2, .ref 152), (3, .ref NC), (4, .int i)] [] hb (br_20 xs L i hb j2584) := by
  have hroom1 : room_1.cells = 601024 := rfl
  have hroom2 : room_1.slots = 7293034 := rfl
  unfold br_20
  refine so_aload_n (i := 1) X 1 (dkL_law_14 (1295, .aload_n 1, 1) (pgm 15 rfl)) rfl rfl ?_
  refine so_aload_n (i := 0) X 0 (dkL_law_14 (1296, .aload_n 0, 1) (pgm 16 rfl)) rfl rfl ?_
  refine so_iload (i := 4) X 4 (dkL_law_14 (1297, .iload 4, 2) (pgm 17 rfl)) rfl ?_
  refine so_iconst (v := (1 : Int32)) X (dkL_law_14 (1299, .iconst 1, 1) (pgm 18 rfl)) ic_1 ?_
  refine so_iadd X (dkL_law_14 (1300, .iadd, 1) (pgm 19 rfl)) ?_
  refine so_sld X hSc hSb hSA (dkL_law_14 (1301, .iaload, 1) (pgm 20 rfl)) (fun x219 => ?_)
  refine so_aload_n (i := 0) X 0 (dkL_law_14 (1302, .aload_n 0, 1) (pgm 21 rfl)) rfl rfl ?_
  refine so_iload (i := 4) X 4 (dkL_law_14 (1303, .iload 4, 2) (pgm 22 rfl)) rfl ?_
  refine so_iconst (v := (2 : Int32)) X (dkL_law_14 (1305, .iconst 2, 1) (pgm 23 rfl)) ic_2 ?_
  refine so_iadd X (dkL_law_14 (1306, .iadd, 1) (pgm 24 rfl)) ?_
  refine so_sld X hSc hSb hSA (dkL_law_14 (1307, .iaload, 1) (pgm 25 rfl)) (fun x220 => ?_)
  refine so_aload_n (i := 3) X 3 (dkL_law_14 (1308, .aload_n 3, 1) (pgm 26 rfl)) rfl rfl ?_
  refine so_callW (n := 4) (As := [.ref 0, .int x219, .int x220, .ref NC]) X hnc (ct_L_share l hlt x219 x220 hb) lk_1321 lk_1322 lk_120 lk_1323 (by decide +kernel) rfl rfl rfl ⟨Nat.le_of_ble_eq_true rfl, Nat.le_of_ble_eq_true rfl⟩ ⟨hC, hS⟩ (by decide) (dkL_law_14 (1309, .invokestatic 208, 3) (pgm 27 rfl)) (fun r221 h222 => ?_) rfl
  refine so_istore (i := 5) X (dkL_law_14 (1312, .istore 5, 2) (pgm 28 rfl)) (by decide) (Lf := fun x223 => [(5, .int x223), (0, .ref 197), (1, .ref 0), (2, .ref 152), (3, .ref NC), (4, .int i)]) (fun _ => rfl) (fun x223 => ?_)
  refine so_aload_n (i := 2) X 3 (dkL_law_14 (1314, .aload_n 2, 1) (pgm 29 rfl)) rfl rfl ?_
  refine so_aload_n (i := 0) X 1 (dkL_law_14 (1315, .aload_n 0, 1) (pgm 30 rfl)) rfl rfl ?_
  refine so_iload (i := 4) X 5 (dkL_law_14 (1316, .iload 4, 2) (pgm 31 rfl)) rfl ?_
  refine so_iconst (v := (1 : Int32)) X (dkL_law_14 (1318, .iconst 1, 1) (pgm 32 rfl)) ic_1 ?_
  refine so_iadd X (dkL_law_14 (1319, .iadd, 1) (pgm 33 rfl)) ?_
  refine so_sld X hSc hSb hSA (dkL_law_14 (1320, .iaload, 1) (pgm 34 rfl)) (fun x224 => ?_)
  refine so_aload_n (i := 0) X 1 (dkL_law_14 (1321, .aload_n 0, 1) (pgm 35 rfl)) rfl rfl ?_
  refine so_iload (i := 4) X 5 (dkL_law_14 (1322, .iload 4, 2) (pgm 36 rfl)) rfl ?_
  refine so_iconst (v := (2 : Int32)) X (dkL_law_14 (1324, .iconst 2, 1) (pgm 37 rfl)) ic_2 ?_
  refine so_iadd X (dkL_law_14 (1325, .iadd, 1) (pgm 38 rfl)) ?_
  refine so_sld X hSc hSb hSA (dkL_law_14 (1326, .iaload, 1) (pgm 39 rfl)) (fun x225 => ?_)
  refine so_callV (n := 2) (As := [.int x224, .int x225]) X (ct_X12_share l 152 x224 x225 h222 km0) km0 (by decide) rfl lk_2099 lk_2100 lk_2101 lk_134 lk_2102 (by decide +kernel) rfl rfl rfl ⟨Nat.le_of_ble_eq_true rfl, Nat.le_of_ble_eq_true rfl⟩ ⟨by omega, by omega⟩ (Nat.le_of_ble_eq_true rfl) (dkL_law_14 (1327, .invokevirtual 210, 3) (pgm 40 rfl)) (fun r226 h227 => ?_) rfl
  refine so_istore (i := 6) X (dkL_law_14 (1330, .istore 6, 2) (pgm 41 rfl)) (by decide) (Lf := fun x228 => [(6, .int x228), (5, .int x223), (0, .ref 197), (1, .ref 0), (2, .ref 152), (3, .ref NC), (4, .int i)]) (fun _ => rfl) (fun x228 => ?_)
  refine so_aload_n (i := 2) X 4 (dkL_law_14 (1332, .aload_n 2, 1) (pgm 42 rfl)) rfl rfl ?_
  refine so_callV (n := 0) (As := []) X (ct_X12_thrown l 152 h227 km0) km0 (by decide) rfl lk_1820 lk_1821 lk_1822 lk_134 lk_1823 (by decide +kernel) rfl rfl rfl ⟨Nat.le_of_ble_eq_true rfl, Nat.le_of_ble_eq_true rfl⟩ ⟨by omega, by omega⟩ (Nat.le_of_ble_eq_true rfl) (dkL_law_14 (1333, .invokevirtual 144, 3) (pgm 43 rfl)) (fun r229 h230 => ?_) rfl
  refine so_iload (i := 5) X 1 (dkL_law_14 (1336, .iload 5, 2) (pgm 44 rfl)) rfl ?_
  refine so_icmp_eq (tgt := 1343) X (dkL_law_14 (1338, .if_icmp .eq 5, 3) (pgm 45 rfl)) rfl (fun _ => ?_) (fun _ => ?_)
  · refine so_iload (i := 5) X 1 (dkL_law_14 (1343, .iload 5, 2) (pgm 48 rfl)) rfl ?_
    refine so_join (jf := fun (h231 : PH) => j2584 h231) (fun (j : PH → Option (Int32 × PH)) => ∀  (h231 : PH), SWo (QL below args s) p l e room_1 s m args below meth c (cells + 3) (slots + 18) 8 D cA ad A 1360 [(0, .ref 197), (1, .ref 0), (2, .ref 152), (3, .ref NC), (4, .int i)] [] h231 (j h231)) ?_ (fun j1360 hj1360 => ?_)
    · intro h231
      refine so_goto (tgt := 2584) X (dkL_law_15 (1360, .goto 1224, 3) (pgm 9 rfl)) rfl ?_
      exact so_pick X [0, 1, 2, 3, 4] rfl (hj2584 h231)
    refine so_if_ne (tgt := 1360) X (dkL_law_14 (1345, .ifCond .ne 15, 3) (pgm 49 rfl)) rfl (fun _ => ?_) (fun _ => ?_)
    · exact so_pick X [2, 3, 4, 5, 6] rfl (hj1360 h230)
    · refine so_aload_n (i := 3) X 5 (dkL_law_15 (1348, .aload_n 3, 1) (pgm 0 rfl)) rfl rfl ?_
      refine so_iconst (v := (0 : Int32)) X (dkL_law_15 (1349, .iconst 0, 1) (pgm 1 rfl)) ic_0 ?_
      refine so_outLd X hnc (dkL_law_15 (1350, .laload, 1) (pgm 2 rfl)) ?_
      refine so_iload (i := 6) X 0 (dkL_law_15 (1351, .iload 6, 2) (pgm 3 rfl)) rfl ?_
      refine so_i2l X (dkL_law_15 (1353, .i2l, 1) (pgm 4 rfl)) ?_
      refine so_lcmp X (dkL_law_15 (1354, .lcmp, 1) (pgm 5 rfl)) ?_
      refine so_if_eq (tgt := 1360) X (dkL_law_15 (1355, .ifCond .eq 5, 3) (pgm 6 rfl)) rfl (fun _ => ?_) (fun _ => ?_)
      · exact so_pick X [2, 3, 4, 5, 6] rfl (hj1360 h230)
      · refine so_iconst (v := (0 : Int32)) X (dkL_law_15 (1358, .iconst 0, 1) (pgm 7 rfl)) ic_0 ?_
        exact so_lawret X hargs rfl hAs hr hlk (by omega) (by omega) (dkL_law_15 (1359, .ireturn, 1) (pgm 8 rfl))
  · refine so_iconst (v := (0 : Int32)) X (dkL_law_14 (1341, .iconst 0, 1) (pgm 46 rfl)) ic_0 ?_
    exact so_lawret X hargs rfl hAs hr hlk (by omega) (by omega) (dkL_law_14 (1342, .ireturn, 1) (pgm 47 rfl))
def br_21 (xs : Nat → Int32) (L : Nat) (i : Int32) (hb : PH) (j2584 : PH → Option (Int32 × PH)) : Option (Int32 × PH) :=
  ldX xs L (i + (1 : Int32)) (fun (x232 : Int32) => ldX xs L (i + (2 : Int32)) (fun (x233 : Int32) => ldX xs L (i + (3 : Int32)) (fun (x234 : Int32) => cb (f_L_gains x232 x233 x234 hb) (fun (r235 : Int32) (h236 : PH) => lt r235 (fun (x237 : Int32) => ldX xs L (i + (1 : Int32)) (fun (x238 : Int32) => ldX xs L (i + (2 : Int32)) (fun (x239 : Int32) => ldX xs L (i + (3 : Int32)) (fun (x240 : Int32) => cb (f_X12_gains 152 x238 x239 x240 h236) (fun (r241 : Int32) (h242 : PH) => lt r241 (fun (x243 : Int32) => cb (f_X12_thrown 152 h242) (fun (r244 : Int32) (h245 : PH) => if r244 = x237 then (lt (fun (h246 : PH) => j2584 h246) (fun (j1440 : PH → Option (Int32 × PH)) => if x237 = 0 then (if (lg_cmp (h245.2 NC 0) x243.toInt64) = 0 then (j1440 h245) else (some ((0 : Int32), h245))) else (j1440 h245))) else (some ((0 : Int32), h245)))))))))))))
set_option maxRecDepth 100000 in
set_option maxHeartbeats 4000000 in
theorem lb_21 {p : Program} {l : Launch} {e : Env} {s : State} {m : MethodId} {args : Array Value} {below : List Frame} {meth : Method} {c : Code} {D : va_G} {cA : Nat → ClassId} {ad : Nat → Nat} {A : Nat → Prop} {L : Nat} {xs : Nat → Int32} (hlt : l.stackTraces = false) (X : Cx p s m args c RL cL_law 8 D cA ad A) (hnc : nc cA = NC + 1) (hargs : ∃ b0 : Nat, args = #[Value.ref b0]) (hAs : ∀ q, A q → s.heap.size ≤ q) (hr : meth.sig.returnType = ret) (hlk : meth.locks = false) (hSc : va_X (ad 197) L xs s s.heap) (hSb : ad 197 < s.heap.size) (hSA : ¬ A (ad 197)) (cells slots : Nat) (hC : cells + 3 ≤ room_1.cells) (hS : slots + 18 ≤ room_1.slots) (i : Int32) (hb : PH) (j2584 : PH → Option (Int32 × PH)) (hj2584 : ∀ (h2 : PH), SWo (QL below args s) p l e room_1 s m args below meth c (cells + 3) (slots + 18) 8 D cA ad A 2584 [(0, .ref 197), (1, .ref 0), (2, .ref 152), (3, .ref NC), (4, .int i)] [] h2 (j2584 h2)) : SWo (QL below args s) p l e room_1 s m args below meth c cells slots 8 D cA ad A 1363 [(0, .ref 197), (1, .ref 0), (2, .ref 152), (3, .ref NC), (4, .int i)] [] hb (br_21 xs L i hb j2584) := by
  have hroom1 : room_1.cells = 601024 := rfl
  have hroom2 : room_1.slots = 7293034 := rfl
  unfold br_21
  refine so_aload_n (i := 1) X 1 (dkL_law_15 (1363, .aload_n 1, 1) (pgm 10 rfl)) rfl rfl ?_
  refine so_aload_n (i := 0) X 0 (dkL_law_15 (1364, .aload_n 0, 1) (pgm 11 rfl)) rfl rfl ?_
  refine so_iload (i := 4) X 4 (dkL_law_15 (1365, .iload 4, 2) (pgm 12 rfl)) rfl ?_
  refine so_iconst (v := (1 : Int32)) X (dkL_law_15 (1367, .iconst 1, 1) (pgm 13 rfl)) ic_1 ?_
  refine so_iadd X (dkL_law_15 (1368, .iadd, 1) (pgm 14 rfl)) ?_
  refine so_sld X hSc hSb hSA (dkL_law_15 (1369, .iaload, 1) (pgm 15 rfl)) (fun x232 => ?_)
  refine so_aload_n (i := 0) X 0 (dkL_law_15 (1370, .aload_n 0, 1) (pgm 16 rfl)) rfl rfl ?_
  refine so_iload (i := 4) X 4 (dkL_law_15 (1371, .iload 4, 2) (pgm 17 rfl)) rfl ?_
  refine so_iconst (v := (2 : Int32)) X (dkL_law_15 (1373, .iconst 2, 1) (pgm 18 rfl)) ic_2 ?_
  refine so_iadd X (dkL_law_15 (1374, .iadd, 1) (pgm 19 rfl)) ?_
  refine so_sld X hSc hSb hSA (dkL_law_15 (1375, .iaload, 1) (pgm 20 rfl)) (fun x233 => ?_)
  refine so_aload_n (i := 0) X 0 (dkL_law_15 (1376, .aload_n 0, 1) (pgm 21 rfl)) rfl rfl ?_
  refine so_iload (i := 4) X 4 (dkL_law_15 (1377, .iload 4, 2) (pgm 22 rfl)) rfl ?_
  refine so_iconst (v := (3 : Int32)) X (dkL_law_15 (1379, .iconst 3, 1) (pgm 23 rfl)) ic_3 ?_
  refine so_iadd X (dkL_law_15 (1380, .iadd, 1) (pgm 24 rfl)) ?_
  refine so_sld X hSc hSb hSA (dkL_law_15 (1381, .iaload, 1) (pgm 25 rfl)) (fun x234 => ?_)
  refine so_aload_n (i := 3) X 3 (dkL_law_15 (1382, .aload_n 3, 1) (pgm 26 rfl)) rfl rfl ?_
  refine so_callW (n := 5) (As := [.ref 0, .int x232, .int x233, .int x234, .ref NC]) X hnc (ct_L_gains l hlt x232 x233 x234 hb) lk_1337 lk_1338 lk_120 lk_1339 (by decide +kernel) rfl rfl rfl ⟨Nat.le_of_ble_eq_true rfl, Nat.le_of_ble_eq_true rfl⟩ ⟨hC, hS⟩ (by decide) (dkL_law_15 (1383, .invokestatic 211, 3) (pgm 27 rfl)) (fun r235 h236 => ?_) rfl
  refine so_istore (i := 5) X (dkL_law_15 (1386, .istore 5, 2) (pgm 28 rfl)) (by decide) (Lf := fun x237 => [(5, .int x237), (0, .ref 197), (1, .ref 0), (2, .ref 152), (3, .ref NC), (4, .int i)]) (fun _ => rfl) (fun x237 => ?_)
  refine so_aload_n (i := 2) X 3 (dkL_law_15 (1388, .aload_n 2, 1) (pgm 29 rfl)) rfl rfl ?_
  refine so_aload_n (i := 0) X 1 (dkL_law_15 (1389, .aload_n 0, 1) (pgm 30 rfl)) rfl rfl ?_
  refine so_iload (i := 4) X 5 (dkL_law_15 (1390, .iload 4, 2) (pgm 31 rfl)) rfl ?_
  refine so_iconst (v := (1 : Int32)) X (dkL_law_15 (1392, .iconst 1, 1) (pgm 32 rfl)) ic_1 ?_
  refine so_iadd X (dkL_law_15 (1393, .iadd, 1) (pgm 33 rfl)) ?_
  refine so_sld X hSc hSb hSA (dkL_law_15 (1394, .iaload, 1) (pgm 34 rfl)) (fun x238 => ?_)
  refine so_aload_n (i := 0) X 1 (dkL_law_15 (1395, .aload_n 0, 1) (pgm 35 rfl)) rfl rfl ?_
  refine so_iload (i := 4) X 5 (dkL_law_15 (1396, .iload 4, 2) (pgm 36 rfl)) rfl ?_
  refine so_iconst (v := (2 : Int32)) X (dkL_law_15 (1398, .iconst 2, 1) (pgm 37 rfl)) ic_2 ?_
  refine so_iadd X (dkL_law_15 (1399, .iadd, 1) (pgm 38 rfl)) ?_
  refine so_sld X hSc hSb hSA (dkL_law_15 (1400, .iaload, 1) (pgm 39 rfl)) (fun x239 => ?_)
  refine so_aload_n (i := 0) X 1 (dkL_law_15 (1401, .aload_n 0, 1) (pgm 40 rfl)) rfl rfl ?_
  refine so_iload (i := 4) X 5 (dkL_law_15 (1402, .iload 4, 2) (pgm 41 rfl)) rfl ?_
  refine so_iconst (v := (3 : Int32)) X (dkL_law_15 (1404, .iconst 3, 1) (pgm 42 rfl)) ic_3 ?_
  refine so_iadd X (dkL_law_15 (1405, .iadd, 1) (pgm 43 rfl)) ?_
  refine so_sld X hSc hSb hSA (dkL_law_15 (1406, .iaload, 1) (pgm 44 rfl)) (fun x240 => ?_)
  refine so_callV (n := 3) (As := [.int x238, .int x239, .int x240]) X (ct_X12_gains l 152 x238 x239 x240 h236 km0) km0 (by decide) rfl lk_2110 lk_2111 lk_2112 lk_134 lk_2113 (by decide +kernel) rfl rfl rfl ⟨Nat.le_of_ble_eq_true rfl, Nat.le_of_ble_eq_true rfl⟩ ⟨by omega, by omega⟩ (Nat.le_of_ble_eq_true rfl) (dkL_law_15 (1407, .invokevirtual 214, 3) (pgm 45 rfl)) (fun r241 h242 => ?_) rfl
  refine so_istore (i := 6) X (dkL_law_15 (1410, .istore 6, 2) (pgm 46 rfl)) (by decide) (Lf := fun x243 => [(6, .int x243), (5, .int x237), (0, .ref 197), (1, .ref 0), (2, .ref 152), (3, .ref NC), (4, .int i)]) (fun _ => rfl) (fun x243 => ?_)
  refine so_aload_n (i := 2) X 4 (dkL_law_15 (1412, .aload_n 2, 1) (pgm 47 rfl)) rfl rfl ?_
  refine so_callV (n := 0) (As := []) X (ct_X12_thrown l 152 h242 km0) km0 (by decide) rfl lk_1820 lk_1821 lk_1822 lk_134 lk_1823 (by decide +kernel) rfl rfl rfl ⟨Nat.le_of_ble_eq_true rfl, Nat.le_of_ble_eq_true rfl⟩ ⟨by omega, by omega⟩ (Nat.le_of_ble_eq_true rfl) (dkL_law_15 (1413, .invokevirtual 144, 3) (pgm 48 rfl)) (fun r244 h245 => ?_) rfl
  refine so_iload (i := 5) X 1 (dkL_law_15 (1416, .iload 5, 2) (pgm 49 rfl)) rfl ?_
  refine so_icmp_eq (tgt := 1423) X (dkL_law_16 (1418, .if_icmp .eq 5, 3) (pgm 0 rfl)) rfl (fun _ => ?_) (fun _ => ?_)
  · refine so_iload (i := 5) X 1 (dkL_law_16 (1423, .iload 5, 2) (pgm 3 rfl)) rfl ?_
    refine so_join (jf := fun (h246 : PH) => j2584 h246) (fun (j : PH → Option (Int32 × PH)) => ∀  (h246 : PH), SWo (QL below args s) p l e room_1 s m args below meth c (cells + 3) (slots + 18) 8 D cA ad A 1440 [(0, .ref 197), (1, .ref 0), (2, .ref 152), (3, .ref NC), (4, .int i)] [] h246 (j h246)) ?_ (fun j1440 hj1440 => ?_)
    · intro h246
      refine so_goto (tgt := 2584) X (dkL_law_16 (1440, .goto 1144, 3) (pgm 14 rfl)) rfl ?_
      exact so_pick X [0, 1, 2, 3, 4] rfl (hj2584 h246)
    refine so_if_ne (tgt := 1440) X (dkL_law_16 (1425, .ifCond .ne 15, 3) (pgm 4 rfl)) rfl (fun _ => ?_) (fun _ => ?_)
    · exact so_pick X [2, 3, 4, 5, 6] rfl (hj1440 h245)
    · refine so_aload_n (i := 3) X 5 (dkL_law_16 (1428, .aload_n 3, 1) (pgm 5 rfl)) rfl rfl ?_
      refine so_iconst (v := (0 : Int32)) X (dkL_law_16 (1429, .iconst 0, 1) (pgm 6 rfl)) ic_0 ?_
      refine so_outLd X hnc (dkL_law_16 (1430, .laload, 1) (pgm 7 rfl)) ?_
      refine so_iload (i := 6) X 0 (dkL_law_16 (1431, .iload 6, 2) (pgm 8 rfl)) rfl ?_
      refine so_i2l X (dkL_law_16 (1433, .i2l, 1) (pgm 9 rfl)) ?_
      refine so_lcmp X (dkL_law_16 (1434, .lcmp, 1) (pgm 10 rfl)) ?_
      refine so_if_eq (tgt := 1440) X (dkL_law_16 (1435, .ifCond .eq 5, 3) (pgm 11 rfl)) rfl (fun _ => ?_) (fun _ => ?_)
      · exact so_pick X [2, 3, 4, 5, 6] rfl (hj1440 h245)
      · refine so_iconst (v := (0 : Int32)) X (dkL_law_16 (1438, .iconst 0, 1) (pgm 12 rfl)) ic_0 ?_
        exact so_lawret X hargs rfl hAs hr hlk (by omega) (by omega) (dkL_law_16 (1439, .ireturn, 1) (pgm 13 rfl))
  · refine so_iconst (v := (0 : Int32)) X (dkL_law_16 (1421, .iconst 0, 1) (pgm 1 rfl)) ic_0 ?_
    exact so_lawret X hargs rfl hAs hr hlk (by omega) (by omega) (dkL_law_16 (1422, .ireturn, 1) (pgm 2 rfl))
def br_22 (xs : Nat → Int32) (L : Nat) (i : Int32) (hb : PH) (j2584 : PH → Option (Int32 × PH)) : Option (Int32 × PH) :=
  cb (f_X11_bestRule 0 hb) (fun (r247 : Int32) (h248 : PH) => cb (f_X12_bestRule 152 h248) (fun (r249 : Int32) (h250 : PH) => if r247 = r249 then (j2584 h250) else (some ((0 : Int32), h250))))
set_option maxRecDepth 100000 in
set_option maxHeartbeats 4000000 in
theorem lb_22 {p : Program} {l : Launch} {e : Env} {s : State} {m : MethodId} {args : Array Value} {below : List Frame} {meth : Method} {c : Code} {D : va_G} {cA : Nat → ClassId} {ad : Nat → Nat} {A : Nat → Prop} {L : Nat} {xs : Nat → Int32} (hlt : l.stackTraces = false) (X : Cx p s m args c RL cL_law 8 D cA ad A) (hnc : nc cA = NC + 1) (hargs : ∃ b0 : Nat, args = #[Value.ref b0]) (hAs : ∀ q, A q → s.heap.size ≤ q) (hr : meth.sig.returnType = ret) (hlk : meth.locks = false) (hSc : va_X (ad 197) L xs s s.heap) (hSb : ad 197 < s.heap.size) (hSA : ¬ A (ad 197)) (cells slots : Nat) (hC : cells + 3 ≤ room_1.cells) (hS : slots + 18 ≤ room_1.slots) (i : Int32) (hb : PH) (j2584 : PH → Option (Int32 × PH)) (hj2584 : ∀ (h2 : PH), SWo (QL below args s) p l e room_1 s m args below meth c (cells + 3) (slots + 18) 8 D cA ad A 2584 [(0, .ref 197), (1, .ref 0), (2, .ref 152), (3, .ref NC), (4, .int i)] [] h2 (j2584 h2)) : SWo (QL below args s) p l e room_1 s m args below meth c cells slots 8 D cA ad A 1443 [(0, .ref 197), (1, .ref 0), (2, .ref 152), (3, .ref NC), (4, .int i)] [] hb (br_22 xs L i hb j2584) := by
  have hroom1 : room_1.cells = 601024 := rfl
  have hroom2 : room_1.slots = 7293034 := rfl
  unfold br_22
  refine so_aload_n (i := 1) X 1 (dkL_law_16 (1443, .aload_n 1, 1) (pgm 15 rfl)) rfl rfl ?_
  refine so_callV (n := 0) (As := []) X (ct_X11_bestRule l 0 hb kx0) kx0 (by decide) rfl lk_704 lk_705 lk_706 lk_121 lk_707 (by decide +kernel) rfl rfl rfl ⟨Nat.le_of_ble_eq_true rfl, Nat.le_of_ble_eq_true rfl⟩ ⟨by omega, by omega⟩ (Nat.le_of_ble_eq_true rfl) (dkL_law_16 (1444, .invokevirtual 215, 3) (pgm 16 rfl)) (fun r247 h248 => ?_) rfl
  refine so_aload_n (i := 2) X 2 (dkL_law_16 (1447, .aload_n 2, 1) (pgm 17 rfl)) rfl rfl ?_
  refine so_callV (n := 0) (As := []) X (ct_X12_bestRule l 152 h248 km0) km0 (by decide) rfl lk_2118 lk_2119 lk_2120 lk_134 lk_2121 (by decide +kernel) rfl rfl rfl ⟨Nat.le_of_ble_eq_true rfl, Nat.le_of_ble_eq_true rfl⟩ ⟨by omega, by omega⟩ (Nat.le_of_ble_eq_true rfl) (dkL_law_16 (1448, .invokevirtual 218, 3) (pgm 18 rfl)) (fun r249 h250 => ?_) rfl
  refine so_icmp_eq (tgt := 2584) X (dkL_law_16 (1451, .if_icmp .eq 1133, 3) (pgm 19 rfl)) rfl (fun _ => ?_) (fun _ => ?_)
  · refine so_widen (c1 := cells + 3) (s1 := slots + 18) (Nat.le_add_right _ _) (Nat.le_add_right _ _) ?_
    exact so_pick X [0, 1, 2, 3, 4] rfl (hj2584 h250)
  · refine so_iconst (v := (0 : Int32)) X (dkL_law_16 (1454, .iconst 0, 1) (pgm 20 rfl)) ic_0 ?_
    exact so_lawret X hargs rfl hAs hr hlk (by omega) (by omega) (dkL_law_16 (1455, .ireturn, 1) (pgm 21 rfl))
def br_23 (xs : Nat → Int32) (L : Nat) (i : Int32) (hb : PH) (j2584 : PH → Option (Int32 × PH)) : Option (Int32 × PH) :=
  ldX xs L (i + (1 : Int32)) (fun (x251 : Int32) => ldX xs L (i + (2 : Int32)) (fun (x252 : Int32) => cb (f_L_wants x251 x252 hb) (fun (r253 : Int32) (h254 : PH) => lt r253 (fun (x255 : Int32) => ldX xs L (i + (1 : Int32)) (fun (x256 : Int32) => ldX xs L (i + (2 : Int32)) (fun (x257 : Int32) => cb (f_X12_wants 152 x256 x257 h254) (fun (r258 : Int32) (h259 : PH) => lt r258 (fun (x260 : Int32) => cb (f_X12_thrown 152 h259) (fun (r261 : Int32) (h262 : PH) => if r261 = x255 then (lt (fun (h263 : PH) => j2584 h263) (fun (j1521 : PH → Option (Int32 × PH)) => if x255 = 0 then (if (lg_cmp (h262.2 NC 0) x260.toInt64) = 0 then (j1521 h262) else (some ((0 : Int32), h262))) else (j1521 h262))) else (some ((0 : Int32), h262)))))))))))
set_option maxRecDepth 100000 in
set_option maxHeartbeats 4000000 in
theorem lb_23 {p : Program} {l : Launch} {e : Env} {s : State} {m : MethodId} {args : Array Value} {below : List Frame} {meth : Method} {c : Code} {D : va_G} {cA : Nat → ClassId} {ad : Nat → Nat} {A : Nat → Prop} {L : Nat} {xs : Nat → Int32} (hlt : l.stackTraces = false) (X : Cx p s m args c RL cL_law 8 D cA ad A) (hnc : nc cA = NC + 1) (hargs : ∃ b0 : Nat, args = #[Value.ref b0]) (hAs : ∀ q, A q → s.heap.size ≤ q) (hr : meth.sig.returnType = ret) (hlk : meth.locks = false) (hSc : va_X (ad 197) L xs s s.heap) (hSb : ad 197 < s.heap.size) (hSA : ¬ A (ad 197)) (cells slots : Nat) (hC : cells + 3 ≤ room_1.cells) (hS : slots + 18 ≤ room_1.slots) (i : Int32) (hb : PH) (j2584 : PH → Option (Int32 × PH)) (hj2584 : ∀ (h2 : PH), SWo (QL below args s) p l e room_1 s m args below meth c (cells + 3) (slots + 18) 8 D cA ad A 2584 [(0, .ref 197), (1, .ref 0), (2, .ref 152), (3, .ref NC), (4, .int i)] [] h2 (j2584 h2)) : SWo (QL below args s) p l e room_1 s m args below meth c cells slots 8 D cA ad A 1456 [(0, .ref 197), (1, .ref 0), (2, .ref 152), (3, .ref NC), (4, .int i)] [] hb (br_23 xs L i hb j2584) := by
  have hroom1 : room_1.cells = 601024 := rfl
  have hroom2 : room_1.slots = 7293034 := rfl
  unfold br_23
  refine so_aload_n (i := 1) X 1 (dkL_law_16 (1456, .aload_n 1, 1) (pgm 22 rfl)) rfl rfl ?_
  refine so_aload_n (i := 0) X 0 (dkL_law_16 (1457, .aload_n 0, 1) (pgm 23 rfl)) rfl rfl ?_
  refine so_iload (i := 4) X 4 (dkL_law_16 (1458, .iload 4, 2) (pgm 24 rfl)) rfl ?_
  refine so_iconst (v := (1 : Int32)) X (dkL_law_16 (1460, .iconst 1, 1) (pgm 25 rfl)) ic_1 ?_
  refine so_iadd X (dkL_law_16 (1461, .iadd, 1) (pgm 26 rfl)) ?_
  refine so_sld X hSc hSb hSA (dkL_law_16 (1462, .iaload, 1) (pgm 27 rfl)) (fun x251 => ?_)
  refine so_aload_n (i := 0) X 0 (dkL_law_16 (1463, .aload_n 0, 1) (pgm 28 rfl)) rfl rfl ?_
  refine so_iload (i := 4) X 4 (dkL_law_16 (1464, .iload 4, 2) (pgm 29 rfl)) rfl ?_
  refine so_iconst (v := (2 : Int32)) X (dkL_law_16 (1466, .iconst 2, 1) (pgm 30 rfl)) ic_2 ?_
  refine so_iadd X (dkL_law_16 (1467, .iadd, 1) (pgm 31 rfl)) ?_
  refine so_sld X hSc hSb hSA (dkL_law_16 (1468, .iaload, 1) (pgm 32 rfl)) (fun x252 => ?_)
  refine so_aload_n (i := 3) X 3 (dkL_law_16 (1469, .aload_n 3, 1) (pgm 33 rfl)) rfl rfl ?_
  refine so_callW (n := 4) (As := [.ref 0, .int x251, .int x252, .ref NC]) X hnc (ct_L_wants l hlt x251 x252 hb) lk_1354 lk_1355 lk_120 lk_1356 (by decide +kernel) rfl rfl rfl ⟨Nat.le_of_ble_eq_true rfl, Nat.le_of_ble_eq_true rfl⟩ ⟨hC, hS⟩ (by decide) (dkL_law_16 (1470, .invokestatic 219, 3) (pgm 34 rfl)) (fun r253 h254 => ?_) rfl
  refine so_istore (i := 5) X (dkL_law_16 (1473, .istore 5, 2) (pgm 35 rfl)) (by decide) (Lf := fun x255 => [(5, .int x255), (0, .ref 197), (1, .ref 0), (2, .ref 152), (3, .ref NC), (4, .int i)]) (fun _ => rfl) (fun x255 => ?_)
  refine so_aload_n (i := 2) X 3 (dkL_law_16 (1475, .aload_n 2, 1) (pgm 36 rfl)) rfl rfl ?_
  refine so_aload_n (i := 0) X 1 (dkL_law_16 (1476, .aload_n 0, 1) (pgm 37 rfl)) rfl rfl ?_
  refine so_iload (i := 4) X 5 (dkL_law_16 (1477, .iload 4, 2) (pgm 38 rfl)) rfl ?_
  refine so_iconst (v := (1 : Int32)) X (dkL_law_16 (1479, .iconst 1, 1) (pgm 39 rfl)) ic_1 ?_
  refine so_iadd X (dkL_law_16 (1480, .iadd, 1) (pgm 40 rfl)) ?_
  refine so_sld X hSc hSb hSA (dkL_law_16 (1481, .iaload, 1) (pgm 41 rfl)) (fun x256 => ?_)
  refine so_aload_n (i := 0) X 1 (dkL_law_16 (1482, .aload_n 0, 1) (pgm 42 rfl)) rfl rfl ?_
  refine so_iload (i := 4) X 5 (dkL_law_16 (1483, .iload 4, 2) (pgm 43 rfl)) rfl ?_
  refine so_iconst (v := (2 : Int32)) X (dkL_law_16 (1485, .iconst 2, 1) (pgm 44 rfl)) ic_2 ?_
  refine so_iadd X (dkL_law_16 (1486, .iadd, 1) (pgm 45 rfl)) ?_
  refine so_sld X hSc hSb hSA (dkL_law_16 (1487, .iaload, 1) (pgm 46 rfl)) (fun x257 => ?_)
  refine so_callV (n := 2) (As := [.int x256, .int x257]) X (ct_X12_wants l 152 x256 x257 h254 km0) km0 (by decide) rfl lk_2122 lk_2123 lk_2124 lk_134 lk_2125 (by decide +kernel) rfl rfl rfl ⟨Nat.le_of_ble_eq_true rfl, Nat.le_of_ble_eq_true rfl⟩ ⟨by omega, by omega⟩ (Nat.le_of_ble_eq_true rfl) (dkL_law_16 (1488, .invokevirtual 221, 3) (pgm 47 rfl)) (fun r258 h259 => ?_) rfl
  refine so_istore (i := 6) X (dkL_law_16 (1491, .istore 6, 2) (pgm 48 rfl)) (by decide) (Lf := fun x260 => [(6, .int x260), (5, .int x255), (0, .ref 197), (1, .ref 0), (2, .ref 152), (3, .ref NC), (4, .int i)]) (fun _ => rfl) (fun x260 => ?_)
  refine so_aload_n (i := 2) X 4 (dkL_law_16 (1493, .aload_n 2, 1) (pgm 49 rfl)) rfl rfl ?_
  refine so_callV (n := 0) (As := []) X (ct_X12_thrown l 152 h259 km0) km0 (by decide) rfl lk_1820 lk_1821 lk_1822 lk_134 lk_1823 (by decide +kernel) rfl rfl rfl ⟨Nat.le_of_ble_eq_true rfl, Nat.le_of_ble_eq_true rfl⟩ ⟨by omega, by omega⟩ (Nat.le_of_ble_eq_true rfl) (dkL_law_17 (1494, .invokevirtual 144, 3) (pgm 0 rfl)) (fun r261 h262 => ?_) rfl
  refine so_iload (i := 5) X 1 (dkL_law_17 (1497, .iload 5, 2) (pgm 1 rfl)) rfl ?_
  refine so_icmp_eq (tgt := 1504) X (dkL_law_17 (1499, .if_icmp .eq 5, 3) (pgm 2 rfl)) rfl (fun _ => ?_) (fun _ => ?_)
  · refine so_iload (i := 5) X 1 (dkL_law_17 (1504, .iload 5, 2) (pgm 5 rfl)) rfl ?_
    refine so_join (jf := fun (h263 : PH) => j2584 h263) (fun (j : PH → Option (Int32 × PH)) => ∀  (h263 : PH), SWo (QL below args s) p l e room_1 s m args below meth c (cells + 3) (slots + 18) 8 D cA ad A 1521 [(0, .ref 197), (1, .ref 0), (2, .ref 152), (3, .ref NC), (4, .int i)] [] h263 (j h263)) ?_ (fun j1521 hj1521 => ?_)
    · intro h263
      refine so_goto (tgt := 2584) X (dkL_law_17 (1521, .goto 1063, 3) (pgm 16 rfl)) rfl ?_
      exact so_pick X [0, 1, 2, 3, 4] rfl (hj2584 h263)
    refine so_if_ne (tgt := 1521) X (dkL_law_17 (1506, .ifCond .ne 15, 3) (pgm 6 rfl)) rfl (fun _ => ?_) (fun _ => ?_)
    · exact so_pick X [2, 3, 4, 5, 6] rfl (hj1521 h262)
    · refine so_aload_n (i := 3) X 5 (dkL_law_17 (1509, .aload_n 3, 1) (pgm 7 rfl)) rfl rfl ?_
      refine so_iconst (v := (0 : Int32)) X (dkL_law_17 (1510, .iconst 0, 1) (pgm 8 rfl)) ic_0 ?_
      refine so_outLd X hnc (dkL_law_17 (1511, .laload, 1) (pgm 9 rfl)) ?_
      refine so_iload (i := 6) X 0 (dkL_law_17 (1512, .iload 6, 2) (pgm 10 rfl)) rfl ?_
      refine so_i2l X (dkL_law_17 (1514, .i2l, 1) (pgm 11 rfl)) ?_
      refine so_lcmp X (dkL_law_17 (1515, .lcmp, 1) (pgm 12 rfl)) ?_
      refine so_if_eq (tgt := 1521) X (dkL_law_17 (1516, .ifCond .eq 5, 3) (pgm 13 rfl)) rfl (fun _ => ?_) (fun _ => ?_)
      · exact so_pick X [2, 3, 4, 5, 6] rfl (hj1521 h262)
      · refine so_iconst (v := (0 : Int32)) X (dkL_law_17 (1519, .iconst 0, 1) (pgm 14 rfl)) ic_0 ?_
        exact so_lawret X hargs rfl hAs hr hlk (by omega) (by omega) (dkL_law_17 (1520, .ireturn, 1) (pgm 15 rfl))
  · refine so_iconst (v := (0 : Int32)) X (dkL_law_17 (1502, .iconst 0, 1) (pgm 3 rfl)) ic_0 ?_
    exact so_lawret X hargs rfl hAs hr hlk (by omega) (by omega) (dkL_law_17 (1503, .ireturn, 1) (pgm 4 rfl))
def br_24 (xs : Nat → Int32) (L : Nat) (i : Int32) (hb : PH) (j2584 : PH → Option (Int32 × PH)) : Option (Int32 × PH) :=
  ldX xs L (i + (1 : Int32)) (fun (x264 : Int32) => ldX xs L (i + (2 : Int32)) (fun (x265 : Int32) => cb (f_L_readings x264 x265 hb) (fun (r266 : Int32) (h267 : PH) => lt r266 (fun (x268 : Int32) => ldX xs L (i + (1 : Int32)) (fun (x269 : Int32) => ldX xs L (i + (2 : Int32)) (fun (x270 : Int32) => cb (f_X12_readings 152 x269 x270 h267) (fun (r271 : Int32) (h272 : PH) => lt r271 (fun (x273 : Int32) => cb (f_X12_thrown 152 h272) (fun (r274 : Int32) (h275 : PH) => if r274 = x268 then (lt (fun (h276 : PH) => j2584 h276) (fun (j1589 : PH → Option (Int32 × PH)) => if x268 = 0 then (if (lg_cmp (h275.2 NC 0) x273.toInt64) = 0 then (j1589 h275) else (some ((0 : Int32), h275))) else (j1589 h275))) else (some ((0 : Int32), h275)))))))))))
set_option maxRecDepth 100000 in
set_option maxHeartbeats 4000000 in
theorem lb_24 {p : Program} {l : Launch} {e : Env} {s : State} {m : MethodId} {args : Array Value} {below : List Frame} {meth : Method} {c : Code} {D : va_G} {cA : Nat → ClassId} {ad : Nat → Nat} {A : Nat → Prop} {L : Nat} {xs : Nat → Int32} (hlt : l.stackTraces = false) (X : Cx p s m args c RL cL_law 8 D cA ad A) (hnc : nc cA = NC + 1) (hargs : ∃ b0 : Nat, args = #[Value.ref b0]) (hAs : ∀ q, A q → s.heap.size ≤ q) (hr : meth.sig.returnType = ret) (hlk : meth.locks = false) (hSc : va_X (ad 197) L xs s s.heap) (hSb : ad 197 < s.heap.size) (hSA : ¬ A (ad 197)) (cells slots : Nat) (hC : cells + 3 ≤ room_1.cells) (hS : slots + 18 ≤ room_1.slots) (i : Int32) (hb : PH) (j2584 : PH → Option (Int32 × PH)) (hj2584 : ∀ (h2 : PH), SWo (QL below args s) p l e room_1 s m args below meth c (cells + 3) (slots + 18) 8 D cA ad A 2584 [(0, .ref 197), (1, .ref 0), (2, .ref 152), (3, .ref NC), (4, .int i)] [] h2 (j2584 h2)) : SWo (QL below args s) p l e room_1 s m args below meth c cells slots 8 D cA ad A 1524 [(0, .ref 197), (1, .ref 0), (2, .ref 152), (3, .ref NC), (4, .int i)] [] hb (br_24 xs L i hb j2584) := by
  have hroom1 : room_1.cells = 601024 := rfl
  have hroom2 : room_1.slots = 7293034 := rfl
  unfold br_24
  refine so_aload_n (i := 1) X 1 (dkL_law_17 (1524, .aload_n 1, 1) (pgm 17 rfl)) rfl rfl ?_
  refine so_aload_n (i := 0) X 0 (dkL_law_17 (1525, .aload_n 0, 1) (pgm 18 rfl)) rfl rfl ?_
  refine so_iload (i := 4) X 4 (dkL_law_17 (1526, .iload 4, 2) (pgm 19 rfl)) rfl ?_
  refine so_iconst (v := (1 : Int32)) X (dkL_law_17 (1528, .iconst 1, 1) (pgm 20 rfl)) ic_1 ?_
  refine so_iadd X (dkL_law_17 (1529, .iadd, 1) (pgm 21 rfl)) ?_
  refine so_sld X hSc hSb hSA (dkL_law_17 (1530, .iaload, 1) (pgm 22 rfl)) (fun x264 => ?_)
  refine so_aload_n (i := 0) X 0 (dkL_law_17 (1531, .aload_n 0, 1) (pgm 23 rfl)) rfl rfl ?_
  refine so_iload (i := 4) X 4 (dkL_law_17 (1532, .iload 4, 2) (pgm 24 rfl)) rfl ?_
  refine so_iconst (v := (2 : Int32)) X (dkL_law_17 (1534, .iconst 2, 1) (pgm 25 rfl)) ic_2 ?_
  refine so_iadd X (dkL_law_17 (1535, .iadd, 1) (pgm 26 rfl)) ?_
  refine so_sld X hSc hSb hSA (dkL_law_17 (1536, .iaload, 1) (pgm 27 rfl)) (fun x265 => ?_)
  refine so_aload_n (i := 3) X 3 (dkL_law_17 (1537, .aload_n 3, 1) (pgm 28 rfl)) rfl rfl ?_
  refine so_callW (n := 4) (As := [.ref 0, .int x264, .int x265, .ref NC]) X hnc (ct_L_readings l hlt x264 x265 hb) lk_1409 lk_1410 lk_120 lk_1411 (by decide +kernel) rfl rfl rfl ⟨Nat.le_of_ble_eq_true rfl, Nat.le_of_ble_eq_true rfl⟩ ⟨hC, hS⟩ (by decide) (dkL_law_17 (1538, .invokestatic 222, 3) (pgm 29 rfl)) (fun r266 h267 => ?_) rfl
  refine so_istore (i := 5) X (dkL_law_17 (1541, .istore 5, 2) (pgm 30 rfl)) (by decide) (Lf := fun x268 => [(5, .int x268), (0, .ref 197), (1, .ref 0), (2, .ref 152), (3, .ref NC), (4, .int i)]) (fun _ => rfl) (fun x268 => ?_)
  refine so_aload_n (i := 2) X 3 (dkL_law_17 (1543, .aload_n 2, 1) (pgm 31 rfl)) rfl rfl ?_
  refine so_aload_n (i := 0) X 1 (dkL_law_17 (1544, .aload_n 0, 1) (pgm 32 rfl)) rfl rfl ?_
  refine so_iload (i := 4) X 5 (dkL_law_17 (1545, .iload 4, 2) (pgm 33 rfl)) rfl ?_
  refine so_iconst (v := (1 : Int32)) X (dkL_law_17 (1547, .iconst 1, 1) (pgm 34 rfl)) ic_1 ?_
  refine so_iadd X (dkL_law_17 (1548, .iadd, 1) (pgm 35 rfl)) ?_
  refine so_sld X hSc hSb hSA (dkL_law_17 (1549, .iaload, 1) (pgm 36 rfl)) (fun x269 => ?_)
  refine so_aload_n (i := 0) X 1 (dkL_law_17 (1550, .aload_n 0, 1) (pgm 37 rfl)) rfl rfl ?_
  refine so_iload (i := 4) X 5 (dkL_law_17 (1551, .iload 4, 2) (pgm 38 rfl)) rfl ?_
  refine so_iconst (v := (2 : Int32)) X (dkL_law_17 (1553, .iconst 2, 1) (pgm 39 rfl)) ic_2 ?_
  refine so_iadd X (dkL_law_17 (1554, .iadd, 1) (pgm 40 rfl)) ?_
  refine so_sld X hSc hSb hSA (dkL_law_17 (1555, .iaload, 1) (pgm 41 rfl)) (fun x270 => ?_)
  refine so_callV (n := 2) (As := [.int x269, .int x270]) X (ct_X12_readings l 152 x269 x270 h267 km0) km0 (by decide) rfl lk_2150 lk_2151 lk_2152 lk_134 lk_2153 (by decide +kernel) rfl rfl rfl ⟨Nat.le_of_ble_eq_true rfl, Nat.le_of_ble_eq_true rfl⟩ ⟨by omega, by omega⟩ (Nat.le_of_ble_eq_true rfl) (dkL_law_17 (1556, .invokevirtual 224, 3) (pgm 42 rfl)) (fun r271 h272 => ?_) rfl
  refine so_istore (i := 6) X (dkL_law_17 (1559, .istore 6, 2) (pgm 43 rfl)) (by decide) (Lf := fun x273 => [(6, .int x273), (5, .int x268), (0, .ref 197), (1, .ref 0), (2, .ref 152), (3, .ref NC), (4, .int i)]) (fun _ => rfl) (fun x273 => ?_)
  refine so_aload_n (i := 2) X 4 (dkL_law_17 (1561, .aload_n 2, 1) (pgm 44 rfl)) rfl rfl ?_
  refine so_callV (n := 0) (As := []) X (ct_X12_thrown l 152 h272 km0) km0 (by decide) rfl lk_1820 lk_1821 lk_1822 lk_134 lk_1823 (by decide +kernel) rfl rfl rfl ⟨Nat.le_of_ble_eq_true rfl, Nat.le_of_ble_eq_true rfl⟩ ⟨by omega, by omega⟩ (Nat.le_of_ble_eq_true rfl) (dkL_law_17 (1562, .invokevirtual 144, 3) (pgm 45 rfl)) (fun r274 h275 => ?_) rfl
  refine so_iload (i := 5) X 1 (dkL_law_17 (1565, .iload 5, 2) (pgm 46 rfl)) rfl ?_
  refine so_icmp_eq (tgt := 1572) X (dkL_law_17 (1567, .if_icmp .eq 5, 3) (pgm 47 rfl)) rfl (fun _ => ?_) (fun _ => ?_)
  · refine so_iload (i := 5) X 1 (dkL_law_18 (1572, .iload 5, 2) (pgm 0 rfl)) rfl ?_
    refine so_join (jf := fun (h276 : PH) => j2584 h276) (fun (j : PH → Option (Int32 × PH)) => ∀  (h276 : PH), SWo (QL below args s) p l e room_1 s m args below meth c (cells + 3) (slots + 18) 8 D cA ad A 1589 [(0, .ref 197), (1, .ref 0), (2, .ref 152), (3, .ref NC), (4, .int i)] [] h276 (j h276)) ?_ (fun j1589 hj1589 => ?_)
    · intro h276
      refine so_goto (tgt := 2584) X (dkL_law_18 (1589, .goto 995, 3) (pgm 11 rfl)) rfl ?_
      exact so_pick X [0, 1, 2, 3, 4] rfl (hj2584 h276)
    refine so_if_ne (tgt := 1589) X (dkL_law_18 (1574, .ifCond .ne 15, 3) (pgm 1 rfl)) rfl (fun _ => ?_) (fun _ => ?_)
    · exact so_pick X [2, 3, 4, 5, 6] rfl (hj1589 h275)
    · refine so_aload_n (i := 3) X 5 (dkL_law_18 (1577, .aload_n 3, 1) (pgm 2 rfl)) rfl rfl ?_
      refine so_iconst (v := (0 : Int32)) X (dkL_law_18 (1578, .iconst 0, 1) (pgm 3 rfl)) ic_0 ?_
      refine so_outLd X hnc (dkL_law_18 (1579, .laload, 1) (pgm 4 rfl)) ?_
      refine so_iload (i := 6) X 0 (dkL_law_18 (1580, .iload 6, 2) (pgm 5 rfl)) rfl ?_
      refine so_i2l X (dkL_law_18 (1582, .i2l, 1) (pgm 6 rfl)) ?_
      refine so_lcmp X (dkL_law_18 (1583, .lcmp, 1) (pgm 7 rfl)) ?_
      refine so_if_eq (tgt := 1589) X (dkL_law_18 (1584, .ifCond .eq 5, 3) (pgm 8 rfl)) rfl (fun _ => ?_) (fun _ => ?_)
      · exact so_pick X [2, 3, 4, 5, 6] rfl (hj1589 h275)
      · refine so_iconst (v := (0 : Int32)) X (dkL_law_18 (1587, .iconst 0, 1) (pgm 9 rfl)) ic_0 ?_
        exact so_lawret X hargs rfl hAs hr hlk (by omega) (by omega) (dkL_law_18 (1588, .ireturn, 1) (pgm 10 rfl))
  · refine so_iconst (v := (0 : Int32)) X (dkL_law_17 (1570, .iconst 0, 1) (pgm 48 rfl)) ic_0 ?_
    exact so_lawret X hargs rfl hAs hr hlk (by omega) (by omega) (dkL_law_17 (1571, .ireturn, 1) (pgm 49 rfl))
def br_25 (xs : Nat → Int32) (L : Nat) (i : Int32) (hb : PH) (j2584 : PH → Option (Int32 × PH)) : Option (Int32 × PH) :=
  ldX xs L (i + (1 : Int32)) (fun (x277 : Int32) => cb (f_X11_night 0 x277 hb) (fun (r278 : Int32) (h279 : PH) => ldX xs L (i + (1 : Int32)) (fun (x280 : Int32) => cb (f_X12_night 152 x280 h279) (fun (r281 : Int32) (h282 : PH) => if r278 = r281 then (j2584 h282) else (some ((0 : Int32), h282))))))
set_option maxRecDepth 100000 in
set_option maxHeartbeats 4000000 in
theorem lb_25 {p : Program} {l : Launch} {e : Env} {s : State} {m : MethodId} {args : Array Value} {below : List Frame} {meth : Method} {c : Code} {D : va_G} {cA : Nat → ClassId} {ad : Nat → Nat} {A : Nat → Prop} {L : Nat} {xs : Nat → Int32} (hlt : l.stackTraces = false) (X : Cx p s m args c RL cL_law 8 D cA ad A) (hnc : nc cA = NC + 1) (hargs : ∃ b0 : Nat, args = #[Value.ref b0]) (hAs : ∀ q, A q → s.heap.size ≤ q) (hr : meth.sig.returnType = ret) (hlk : meth.locks = false) (hSc : va_X (ad 197) L xs s s.heap) (hSb : ad 197 < s.heap.size) (hSA : ¬ A (ad 197)) (cells slots : Nat) (hC : cells + 3 ≤ room_1.cells) (hS : slots + 18 ≤ room_1.slots) (i : Int32) (hb : PH) (j2584 : PH → Option (Int32 × PH)) (hj2584 : ∀ (h2 : PH), SWo (QL below args s) p l e room_1 s m args below meth c (cells + 3) (slots + 18) 8 D cA ad A 2584 [(0, .ref 197), (1, .ref 0), (2, .ref 152), (3, .ref NC), (4, .int i)] [] h2 (j2584 h2)) : SWo (QL below args s) p l e room_1 s m args below meth c cells slots 8 D cA ad A 1592 [(0, .ref 197), (1, .ref 0), (2, .ref 152), (3, .ref NC), (4, .int i)] [] hb (br_25 xs L i hb j2584) := by
  have hroom1 : room_1.cells = 601024 := rfl
  have hroom2 : room_1.slots = 7293034 := rfl
  unfold br_25
  refine so_aload_n (i := 1) X 1 (dkL_law_18 (1592, .aload_n 1, 1) (pgm 12 rfl)) rfl rfl ?_
  refine so_aload_n (i := 0) X 0 (dkL_law_18 (1593, .aload_n 0, 1) (pgm 13 rfl)) rfl rfl ?_
  refine so_iload (i := 4) X 4 (dkL_law_18 (1594, .iload 4, 2) (pgm 14 rfl)) rfl ?_
  refine so_iconst (v := (1 : Int32)) X (dkL_law_18 (1596, .iconst 1, 1) (pgm 15 rfl)) ic_1 ?_
  refine so_iadd X (dkL_law_18 (1597, .iadd, 1) (pgm 16 rfl)) ?_
  refine so_sld X hSc hSb hSA (dkL_law_18 (1598, .iaload, 1) (pgm 17 rfl)) (fun x277 => ?_)
  refine so_callV (n := 1) (As := [.int x277]) X (ct_X11_night l 0 x277 hb kx0) kx0 (by decide) rfl lk_744 lk_745 lk_746 lk_121 lk_747 (by decide +kernel) rfl rfl rfl ⟨Nat.le_of_ble_eq_true rfl, Nat.le_of_ble_eq_true rfl⟩ ⟨by omega, by omega⟩ (Nat.le_of_ble_eq_true rfl) (dkL_law_18 (1599, .invokevirtual 225, 3) (pgm 18 rfl)) (fun r278 h279 => ?_) rfl
  refine so_aload_n (i := 2) X 2 (dkL_law_18 (1602, .aload_n 2, 1) (pgm 19 rfl)) rfl rfl ?_
  refine so_aload_n (i := 0) X 0 (dkL_law_18 (1603, .aload_n 0, 1) (pgm 20 rfl)) rfl rfl ?_
  refine so_iload (i := 4) X 4 (dkL_law_18 (1604, .iload 4, 2) (pgm 21 rfl)) rfl ?_
  refine so_iconst (v := (1 : Int32)) X (dkL_law_18 (1606, .iconst 1, 1) (pgm 22 rfl)) ic_1 ?_
  refine so_iadd X (dkL_law_18 (1607, .iadd, 1) (pgm 23 rfl)) ?_
  refine so_sld X hSc hSb hSA (dkL_law_18 (1608, .iaload, 1) (pgm 24 rfl)) (fun x280 => ?_)
  refine so_callV (n := 1) (As := [.int x280]) X (ct_X12_night l 152 x280 h279 km0) km0 (by decide) rfl lk_2183 lk_2184 lk_2185 lk_134 lk_2186 (by decide +kernel) rfl rfl rfl ⟨Nat.le_of_ble_eq_true rfl, Nat.le_of_ble_eq_true rfl⟩ ⟨by omega, by omega⟩ (Nat.le_of_ble_eq_true rfl) (dkL_law_18 (1609, .invokevirtual 228, 3) (pgm 25 rfl)) (fun r281 h282 => ?_) rfl
  refine so_icmp_eq (tgt := 2584) X (dkL_law_18 (1612, .if_icmp .eq 972, 3) (pgm 26 rfl)) rfl (fun _ => ?_) (fun _ => ?_)
  · refine so_widen (c1 := cells + 3) (s1 := slots + 18) (Nat.le_add_right _ _) (Nat.le_add_right _ _) ?_
    exact so_pick X [0, 1, 2, 3, 4] rfl (hj2584 h282)
  · refine so_iconst (v := (0 : Int32)) X (dkL_law_18 (1615, .iconst 0, 1) (pgm 27 rfl)) ic_0 ?_
    exact so_lawret X hargs rfl hAs hr hlk (by omega) (by omega) (dkL_law_18 (1616, .ireturn, 1) (pgm 28 rfl))
def br_26 (xs : Nat → Int32) (L : Nat) (i : Int32) (hb : PH) (j2584 : PH → Option (Int32 × PH)) : Option (Int32 × PH) :=
  ldX xs L (i + (1 : Int32)) (fun (x283 : Int32) => ldX xs L (i + (2 : Int32)) (fun (x284 : Int32) => cb (f_L_thank x283 x284 hb) (fun (r285 : Int32) (h286 : PH) => lt r285 (fun (x287 : Int32) => ldX xs L (i + (1 : Int32)) (fun (x288 : Int32) => ldX xs L (i + (2 : Int32)) (fun (x289 : Int32) => cb (f_X12_thank 152 x288 x289 h286) (fun (r290 : Int32) (h291 : PH) => lt r290 (fun (x292 : Int32) => cb (f_X12_thrown 152 h291) (fun (r293 : Int32) (h294 : PH) => if r293 = x287 then (lt (fun (h295 : PH) => j2584 h295) (fun (j1682 : PH → Option (Int32 × PH)) => if x287 = 0 then (if (lg_cmp (h294.2 NC 0) x292.toInt64) = 0 then (j1682 h294) else (some ((0 : Int32), h294))) else (j1682 h294))) else (some ((0 : Int32), h294)))))))))))
set_option maxRecDepth 100000 in
set_option maxHeartbeats 4000000 in
theorem lb_26 {p : Program} {l : Launch} {e : Env} {s : State} {m : MethodId} {args : Array Value} {below : List Frame} {meth : Method} {c : Code} {D : va_G} {cA : Nat → ClassId} {ad : Nat → Nat} {A : Nat → Prop} {L : Nat} {xs : Nat → Int32} (hlt : l.stackTraces = false) (X : Cx p s m args c RL cL_law 8 D cA ad A) (hnc : nc cA = NC + 1) (hargs : ∃ b0 : Nat, args = #[Value.ref b0]) (hAs : ∀ q, A q → s.heap.size ≤ q) (hr : meth.sig.returnType = ret) (hlk : meth.locks = false) (hSc : va_X (ad 197) L xs s s.heap) (hSb : ad 197 < s.heap.size) (hSA : ¬ A (ad 197)) (cells slots : Nat) (hC : cells + 3 ≤ room_1.cells) (hS : slots + 18 ≤ room_1.slots) (i : Int32) (hb : PH) (j2584 : PH → Option (Int32 × PH)) (hj2584 : ∀ (h2 : PH), SWo (QL below args s) p l e room_1 s m args below meth c (cells + 3) (slots + 18) 8 D cA ad A 2584 [(0, .ref 197), (1, .ref 0), (2, .ref 152), (3, .ref NC), (4, .int i)] [] h2 (j2584 h2)) : SWo (QL below args s) p l e room_1 s m args below meth c cells slots 8 D cA ad A 1617 [(0, .ref 197), (1, .ref 0), (2, .ref 152), (3, .ref NC), (4, .int i)] [] hb (br_26 xs L i hb j2584) := by
  have hroom1 : room_1.cells = 601024 := rfl
  have hroom2 : room_1.slots = 7293034 := rfl
  unfold br_26
  refine so_aload_n (i := 1) X 1 (dkL_law_18 (1617, .aload_n 1, 1) (pgm 29 rfl)) rfl rfl ?_
  refine so_aload_n (i := 0) X 0 (dkL_law_18 (1618, .aload_n 0, 1) (pgm 30 rfl)) rfl rfl ?_
  refine so_iload (i := 4) X 4 (dkL_law_18 (1619, .iload 4, 2) (pgm 31 rfl)) rfl ?_
  refine so_iconst (v := (1 : Int32)) X (dkL_law_18 (1621, .iconst 1, 1) (pgm 32 rfl)) ic_1 ?_
  refine so_iadd X (dkL_law_18 (1622, .iadd, 1) (pgm 33 rfl)) ?_
  refine so_sld X hSc hSb hSA (dkL_law_18 (1623, .iaload, 1) (pgm 34 rfl)) (fun x283 => ?_)
  refine so_aload_n (i := 0) X 0 (dkL_law_18 (1624, .aload_n 0, 1) (pgm 35 rfl)) rfl rfl ?_
  refine so_iload (i := 4) X 4 (dkL_law_18 (1625, .iload 4, 2) (pgm 36 rfl)) rfl ?_
  refine so_iconst (v := (2 : Int32)) X (dkL_law_18 (1627, .iconst 2, 1) (pgm 37 rfl)) ic_2 ?_
  refine so_iadd X (dkL_law_18 (1628, .iadd, 1) (pgm 38 rfl)) ?_
  refine so_sld X hSc hSb hSA (dkL_law_18 (1629, .iaload, 1) (pgm 39 rfl)) (fun x284 => ?_)
  refine so_aload_n (i := 3) X 3 (dkL_law_18 (1630, .aload_n 3, 1) (pgm 40 rfl)) rfl rfl ?_
  refine so_callW (n := 4) (As := [.ref 0, .int x283, .int x284, .ref NC]) X hnc (ct_L_thank l hlt x283 x284 hb) lk_1466 lk_1467 lk_120 lk_1468 (by decide +kernel) rfl rfl rfl ⟨Nat.le_of_ble_eq_true rfl, Nat.le_of_ble_eq_true rfl⟩ ⟨hC, hS⟩ (by decide) (dkL_law_18 (1631, .invokestatic 229, 3) (pgm 41 rfl)) (fun r285 h286 => ?_) rfl
  refine so_istore (i := 5) X (dkL_law_18 (1634, .istore 5, 2) (pgm 42 rfl)) (by decide) (Lf := fun x287 => [(5, .int x287), (0, .ref 197), (1, .ref 0), (2, .ref 152), (3, .ref NC), (4, .int i)]) (fun _ => rfl) (fun x287 => ?_)
  refine so_aload_n (i := 2) X 3 (dkL_law_18 (1636, .aload_n 2, 1) (pgm 43 rfl)) rfl rfl ?_
  refine so_aload_n (i := 0) X 1 (dkL_law_18 (1637, .aload_n 0, 1) (pgm 44 rfl)) rfl rfl ?_
  refine so_iload (i := 4) X 5 (dkL_law_18 (1638, .iload 4, 2) (pgm 45 rfl)) rfl ?_
  refine so_iconst (v := (1 : Int32)) X (dkL_law_18 (1640, .iconst 1, 1) (pgm 46 rfl)) ic_1 ?_
  refine so_iadd X (dkL_law_18 (1641, .iadd, 1) (pgm 47 rfl)) ?_
  refine so_sld X hSc hSb hSA (dkL_law_18 (1642, .iaload, 1) (pgm 48 rfl)) (fun x288 => ?_)
  refine so_aload_n (i := 0) X 1 (dkL_law_18 (1643, .aload_n 0, 1) (pgm 49 rfl)) rfl rfl ?_
  refine so_iload (i := 4) X 5 (dkL_law_19 (1644, .iload 4, 2) (pgm 0 rfl)) rfl ?_
  refine so_iconst (v := (2 : Int32)) X (dkL_law_19 (1646, .iconst 2, 1) (pgm 1 rfl)) ic_2 ?_
  refine so_iadd X (dkL_law_19 (1647, .iadd, 1) (pgm 2 rfl)) ?_
  refine so_sld X hSc hSb hSA (dkL_law_19 (1648, .iaload, 1) (pgm 3 rfl)) (fun x289 => ?_)
  refine so_callV (n := 2) (As := [.int x288, .int x289]) X (ct_X12_thank l 152 x288 x289 h286 km0) km0 (by decide) rfl lk_2195 lk_2196 lk_2197 lk_134 lk_2198 (by decide +kernel) rfl rfl rfl ⟨Nat.le_of_ble_eq_true rfl, Nat.le_of_ble_eq_true rfl⟩ ⟨by omega, by omega⟩ (Nat.le_of_ble_eq_true rfl) (dkL_law_19 (1649, .invokevirtual 231, 3) (pgm 4 rfl)) (fun r290 h291 => ?_) rfl
  refine so_istore (i := 6) X (dkL_law_19 (1652, .istore 6, 2) (pgm 5 rfl)) (by decide) (Lf := fun x292 => [(6, .int x292), (5, .int x287), (0, .ref 197), (1, .ref 0), (2, .ref 152), (3, .ref NC), (4, .int i)]) (fun _ => rfl) (fun x292 => ?_)
  refine so_aload_n (i := 2) X 4 (dkL_law_19 (1654, .aload_n 2, 1) (pgm 6 rfl)) rfl rfl ?_
  refine so_callV (n := 0) (As := []) X (ct_X12_thrown l 152 h291 km0) km0 (by decide) rfl lk_1820 lk_1821 lk_1822 lk_134 lk_1823 (by decide +kernel) rfl rfl rfl ⟨Nat.le_of_ble_eq_true rfl, Nat.le_of_ble_eq_true rfl⟩ ⟨by omega, by omega⟩ (Nat.le_of_ble_eq_true rfl) (dkL_law_19 (1655, .invokevirtual 144, 3) (pgm 7 rfl)) (fun r293 h294 => ?_) rfl
  refine so_iload (i := 5) X 1 (dkL_law_19 (1658, .iload 5, 2) (pgm 8 rfl)) rfl ?_
  refine so_icmp_eq (tgt := 1665) X (dkL_law_19 (1660, .if_icmp .eq 5, 3) (pgm 9 rfl)) rfl (fun _ => ?_) (fun _ => ?_)
  · refine so_iload (i := 5) X 1 (dkL_law_19 (1665, .iload 5, 2) (pgm 12 rfl)) rfl ?_
    refine so_join (jf := fun (h295 : PH) => j2584 h295) (fun (j : PH → Option (Int32 × PH)) => ∀  (h295 : PH), SWo (QL below args s) p l e room_1 s m args below meth c (cells + 3) (slots + 18) 8 D cA ad A 1682 [(0, .ref 197), (1, .ref 0), (2, .ref 152), (3, .ref NC), (4, .int i)] [] h295 (j h295)) ?_ (fun j1682 hj1682 => ?_)
    · intro h295
      refine so_goto (tgt := 2584) X (dkL_law_19 (1682, .goto 902, 3) (pgm 23 rfl)) rfl ?_
      exact so_pick X [0, 1, 2, 3, 4] rfl (hj2584 h295)
    refine so_if_ne (tgt := 1682) X (dkL_law_19 (1667, .ifCond .ne 15, 3) (pgm 13 rfl)) rfl (fun _ => ?_) (fun _ => ?_)
    · exact so_pick X [2, 3, 4, 5, 6] rfl (hj1682 h294)
    · refine so_aload_n (i := 3) X 5 (dkL_law_19 (1670, .aload_n 3, 1) (pgm 14 rfl)) rfl rfl ?_
      refine so_iconst (v := (0 : Int32)) X (dkL_law_19 (1671, .iconst 0, 1) (pgm 15 rfl)) ic_0 ?_
      refine so_outLd X hnc (dkL_law_19 (1672, .laload, 1) (pgm 16 rfl)) ?_
      refine so_iload (i := 6) X 0 (dkL_law_19 (1673, .iload 6, 2) (pgm 17 rfl)) rfl ?_
      refine so_i2l X (dkL_law_19 (1675, .i2l, 1) (pgm 18 rfl)) ?_
      refine so_lcmp X (dkL_law_19 (1676, .lcmp, 1) (pgm 19 rfl)) ?_
      refine so_if_eq (tgt := 1682) X (dkL_law_19 (1677, .ifCond .eq 5, 3) (pgm 20 rfl)) rfl (fun _ => ?_) (fun _ => ?_)
      · exact so_pick X [2, 3, 4, 5, 6] rfl (hj1682 h294)
      · refine so_iconst (v := (0 : Int32)) X (dkL_law_19 (1680, .iconst 0, 1) (pgm 21 rfl)) ic_0 ?_
        exact so_lawret X hargs rfl hAs hr hlk (by omega) (by omega) (dkL_law_19 (1681, .ireturn, 1) (pgm 22 rfl))
  · refine so_iconst (v := (0 : Int32)) X (dkL_law_19 (1663, .iconst 0, 1) (pgm 10 rfl)) ic_0 ?_
    exact so_lawret X hargs rfl hAs hr hlk (by omega) (by omega) (dkL_law_19 (1664, .ireturn, 1) (pgm 11 rfl))
def br_27 (xs : Nat → Int32) (L : Nat) (i : Int32) (hb : PH) (j2584 : PH → Option (Int32 × PH)) : Option (Int32 × PH) :=
  ldX xs L (i + (1 : Int32)) (fun (x296 : Int32) => cb (f_L_owes x296 hb) (fun (r297 : Int32) (h298 : PH) => lt r297 (fun (x299 : Int32) => ldX xs L (i + (1 : Int32)) (fun (x300 : Int32) => cb (f_X12_owes 152 x300 h298) (fun (r301 : Int32) (h302 : PH) => lt r301 (fun (x303 : Int32) => cb (f_X12_thrown 152 h302) (fun (r304 : Int32) (h305 : PH) => if r304 = x299 then (lt (fun (h306 : PH) => j2584 h306) (fun (j1738 : PH → Option (Int32 × PH)) => if x299 = 0 then (if (lg_cmp (h305.2 NC 0) x303.toInt64) = 0 then (j1738 h305) else (some ((0 : Int32), h305))) else (j1738 h305))) else (some ((0 : Int32), h305)))))))))
set_option maxRecDepth 100000 in
set_option maxHeartbeats 4000000 in
theorem lb_27 {p : Program} {l : Launch} {e : Env} {s : State} {m : MethodId} {args : Array Value} {below : List Frame} {meth : Method} {c : Code} {D : va_G} {cA : Nat → ClassId} {ad : Nat → Nat} {A : Nat → Prop} {L : Nat} {xs : Nat → Int32} (hlt : l.stackTraces = false) (X : Cx p s m args c RL cL_law 8 D cA ad A) (hnc : nc cA = NC + 1) (hargs : ∃ b0 : Nat, args = #[Value.ref b0]) (hAs : ∀ q, A q → s.heap.size ≤ q) (hr : meth.sig.returnType = ret) (hlk : meth.locks = false) (hSc : va_X (ad 197) L xs s s.heap) (hSb : ad 197 < s.heap.size) (hSA : ¬ A (ad 197)) (cells slots : Nat) (hC : cells + 3 ≤ room_1.cells) (hS : slots + 18 ≤ room_1.slots) (i : Int32) (hb : PH) (j2584 : PH → Option (Int32 × PH)) (hj2584 : ∀ (h2 : PH), SWo (QL below args s) p l e room_1 s m args below meth c (cells + 3) (slots + 18) 8 D cA ad A 2584 [(0, .ref 197), (1, .ref 0), (2, .ref 152), (3, .ref NC), (4, .int i)] [] h2 (j2584 h2)) : SWo (QL below args s) p l e room_1 s m args below meth c cells slots 8 D cA ad A 1685 [(0, .ref 197), (1, .ref 0), (2, .ref 152), (3, .ref NC), (4, .int i)] [] hb (br_27 xs L i hb j2584) := by
  have hroom1 : room_1.cells = 601024 := rfl
  have hroom2 : room_1.slots = 7293034 := rfl
  unfold br_27
  refine so_aload_n (i := 1) X 1 (dkL_law_19 (1685, .aload_n 1, 1) (pgm 24 rfl)) rfl rfl ?_
  refine so_aload_n (i := 0) X 0 (dkL_law_19 (1686, .aload_n 0, 1) (pgm 25 rfl)) rfl rfl ?_
  refine so_iload (i := 4) X 4 (dkL_law_19 (1687, .iload 4, 2) (pgm 26 rfl)) rfl ?_
  refine so_iconst (v := (1 : Int32)) X (dkL_law_19 (1689, .iconst 1, 1) (pgm 27 rfl)) ic_1 ?_
  refine so_iadd X (dkL_law_19 (1690, .iadd, 1) (pgm 28 rfl)) ?_
  refine so_sld X hSc hSb hSA (dkL_law_19 (1691, .iaload, 1) (pgm 29 rfl)) (fun x296 => ?_)
  refine so_aload_n (i := 3) X 3 (dkL_law_19 (1692, .aload_n 3, 1) (pgm 30 rfl)) rfl rfl ?_
  refine so_callW (n := 3) (As := [.ref 0, .int x296, .ref NC]) X hnc (ct_L_owes l hlt x296 hb) lk_1474 lk_1475 lk_120 lk_1476 (by decide +kernel) rfl rfl rfl ⟨Nat.le_of_ble_eq_true rfl, Nat.le_of_ble_eq_true rfl⟩ ⟨hC, hS⟩ (by decide) (dkL_law_19 (1693, .invokestatic 232, 3) (pgm 31 rfl)) (fun r297 h298 => ?_) rfl
  refine so_istore (i := 5) X (dkL_law_19 (1696, .istore 5, 2) (pgm 32 rfl)) (by decide) (Lf := fun x299 => [(5, .int x299), (0, .ref 197), (1, .ref 0), (2, .ref 152), (3, .ref NC), (4, .int i)]) (fun _ => rfl) (fun x299 => ?_)
  refine so_aload_n (i := 2) X 3 (dkL_law_19 (1698, .aload_n 2, 1) (pgm 33 rfl)) rfl rfl ?_
  refine so_aload_n (i := 0) X 1 (dkL_law_19 (1699, .aload_n 0, 1) (pgm 34 rfl)) rfl rfl ?_
  refine so_iload (i := 4) X 5 (dkL_law_19 (1700, .iload 4, 2) (pgm 35 rfl)) rfl ?_
  refine so_iconst (v := (1 : Int32)) X (dkL_law_19 (1702, .iconst 1, 1) (pgm 36 rfl)) ic_1 ?_
  refine so_iadd X (dkL_law_19 (1703, .iadd, 1) (pgm 37 rfl)) ?_
  refine so_sld X hSc hSb hSA (dkL_law_19 (1704, .iaload, 1) (pgm 38 rfl)) (fun x300 => ?_)
  refine so_callV (n := 1) (As := [.int x300]) X (ct_X12_owes l 152 x300 h298 km0) km0 (by decide) rfl lk_2200 lk_2201 lk_2202 lk_134 lk_2203 (by decide +kernel) rfl rfl rfl ⟨Nat.le_of_ble_eq_true rfl, Nat.le_of_ble_eq_true rfl⟩ ⟨by omega, by omega⟩ (Nat.le_of_ble_eq_true rfl) (dkL_law_19 (1705, .invokevirtual 234, 3) (pgm 39 rfl)) (fun r301 h302 => ?_) rfl
  refine so_istore (i := 6) X (dkL_law_19 (1708, .istore 6, 2) (pgm 40 rfl)) (by decide) (Lf := fun x303 => [(6, .int x303), (5, .int x299), (0, .ref 197), (1, .ref 0), (2, .ref 152), (3, .ref NC), (4, .int i)]) (fun _ => rfl) (fun x303 => ?_)
  refine so_aload_n (i := 2) X 4 (dkL_law_19 (1710, .aload_n 2, 1) (pgm 41 rfl)) rfl rfl ?_
  refine so_callV (n := 0) (As := []) X (ct_X12_thrown l 152 h302 km0) km0 (by decide) rfl lk_1820 lk_1821 lk_1822 lk_134 lk_1823 (by decide +kernel) rfl rfl rfl ⟨Nat.le_of_ble_eq_true rfl, Nat.le_of_ble_eq_true rfl⟩ ⟨by omega, by omega⟩ (Nat.le_of_ble_eq_true rfl) (dkL_law_19 (1711, .invokevirtual 144, 3) (pgm 42 rfl)) (fun r304 h305 => ?_) rfl
  refine so_iload (i := 5) X 1 (dkL_law_19 (1714, .iload 5, 2) (pgm 43 rfl)) rfl ?_
  refine so_icmp_eq (tgt := 1721) X (dkL_law_19 (1716, .if_icmp .eq 5, 3) (pgm 44 rfl)) rfl (fun _ => ?_) (fun _ => ?_)
  · refine so_iload (i := 5) X 1 (dkL_law_19 (1721, .iload 5, 2) (pgm 47 rfl)) rfl ?_
    refine so_join (jf := fun (h306 : PH) => j2584 h306) (fun (j : PH → Option (Int32 × PH)) => ∀  (h306 : PH), SWo (QL below args s) p l e room_1 s m args below meth c (cells + 3) (slots + 18) 8 D cA ad A 1738 [(0, .ref 197), (1, .ref 0), (2, .ref 152), (3, .ref NC), (4, .int i)] [] h306 (j h306)) ?_ (fun j1738 hj1738 => ?_)
    · intro h306
      refine so_goto (tgt := 2584) X (dkL_law_20 (1738, .goto 846, 3) (pgm 8 rfl)) rfl ?_
      exact so_pick X [0, 1, 2, 3, 4] rfl (hj2584 h306)
    refine so_if_ne (tgt := 1738) X (dkL_law_19 (1723, .ifCond .ne 15, 3) (pgm 48 rfl)) rfl (fun _ => ?_) (fun _ => ?_)
    · exact so_pick X [2, 3, 4, 5, 6] rfl (hj1738 h305)
    · refine so_aload_n (i := 3) X 5 (dkL_law_19 (1726, .aload_n 3, 1) (pgm 49 rfl)) rfl rfl ?_
      refine so_iconst (v := (0 : Int32)) X (dkL_law_20 (1727, .iconst 0, 1) (pgm 0 rfl)) ic_0 ?_
      refine so_outLd X hnc (dkL_law_20 (1728, .laload, 1) (pgm 1 rfl)) ?_
      refine so_iload (i := 6) X 0 (dkL_law_20 (1729, .iload 6, 2) (pgm 2 rfl)) rfl ?_
      refine so_i2l X (dkL_law_20 (1731, .i2l, 1) (pgm 3 rfl)) ?_
      refine so_lcmp X (dkL_law_20 (1732, .lcmp, 1) (pgm 4 rfl)) ?_
      refine so_if_eq (tgt := 1738) X (dkL_law_20 (1733, .ifCond .eq 5, 3) (pgm 5 rfl)) rfl (fun _ => ?_) (fun _ => ?_)
      · exact so_pick X [2, 3, 4, 5, 6] rfl (hj1738 h305)
      · refine so_iconst (v := (0 : Int32)) X (dkL_law_20 (1736, .iconst 0, 1) (pgm 6 rfl)) ic_0 ?_
        exact so_lawret X hargs rfl hAs hr hlk (by omega) (by omega) (dkL_law_20 (1737, .ireturn, 1) (pgm 7 rfl))
  · refine so_iconst (v := (0 : Int32)) X (dkL_law_19 (1719, .iconst 0, 1) (pgm 45 rfl)) ic_0 ?_
    exact so_lawret X hargs rfl hAs hr hlk (by omega) (by omega) (dkL_law_19 (1720, .ireturn, 1) (pgm 46 rfl))
def br_28 (xs : Nat → Int32) (L : Nat) (i : Int32) (hb : PH) (j2584 : PH → Option (Int32 × PH)) : Option (Int32 × PH) :=
  ldX xs L (i + (1 : Int32)) (fun (x307 : Int32) => cb (f_L_withdraw x307 hb) (fun (r308 : Int32) (h309 : PH) => lt r308 (fun (x310 : Int32) => ldX xs L (i + (1 : Int32)) (fun (x311 : Int32) => cb (f_X12_withdraw 152 x311 h309) (fun (r312 : Int32) (h313 : PH) => lt r312 (fun (x314 : Int32) => cb (f_X12_thrown 152 h313) (fun (r315 : Int32) (h316 : PH) => if r315 = x310 then (lt (fun (h317 : PH) => j2584 h317) (fun (j1794 : PH → Option (Int32 × PH)) => if x310 = 0 then (if (lg_cmp (h316.2 NC 0) x314.toInt64) = 0 then (j1794 h316) else (some ((0 : Int32), h316))) else (j1794 h316))) else (some ((0 : Int32), h316)))))))))
set_option maxRecDepth 100000 in
set_option maxHeartbeats 4000000 in
theorem lb_28 {p : Program} {l : Launch} {e : Env} {s : State} {m : MethodId} {args : Array Value} {below : List Frame} {meth : Method} {c : Code} {D : va_G} {cA : Nat → ClassId} {ad : Nat → Nat} {A : Nat → Prop} {L : Nat} {xs : Nat → Int32} (hlt : l.stackTraces = false) (X : Cx p s m args c RL cL_law 8 D cA ad A) (hnc : nc cA = NC + 1) (hargs : ∃ b0 : Nat, args = #[Value.ref b0]) (hAs : ∀ q, A q → s.heap.size ≤ q) (hr : meth.sig.returnType = ret) (hlk : meth.locks = false) (hSc : va_X (ad 197) L xs s s.heap) (hSb : ad 197 < s.heap.size) (hSA : ¬ A (ad 197)) (cells slots : Nat) (hC : cells + 3 ≤ room_1.cells) (hS : slots + 18 ≤ room_1.slots) (i : Int32) (hb : PH) (j2584 : PH → Option (Int32 × PH)) (hj2584 : ∀ (h2 : PH), SWo (QL below args s) p l e room_1 s m args below meth c (cells + 3) (slots + 18) 8 D cA ad A 2584 [(0, .ref 197), (1, .ref 0), (2, .ref 152), (3, .ref NC), (4, .int i)] [] h2 (j2584 h2)) : SWo (QL below args s) p l e room_1 s m args below meth c cells slots 8 D cA ad A 1741 [(0, .ref 197), (1, .ref 0), (2, .ref 152), (3, .ref NC), (4, .int i)] [] hb (br_28 xs L i hb j2584) := by
  have hroom1 : room_1.cells = 601024 := rfl
  have hroom2 : room_1.slots = 7293034 := rfl
  unfold br_28
  refine so_aload_n (i := 1) X 1 (dkL_law_20 (1741, .aload_n 1, 1) (pgm 9 rfl)) rfl rfl ?_
  refine so_aload_n (i := 0) X 0 (dkL_law_20 (1742, .aload_n 0, 1) (pgm 10 rfl)) rfl rfl ?_
  refine so_iload (i := 4) X 4 (dkL_law_20 (1743, .iload 4, 2) (pgm 11 rfl)) rfl ?_
  refine so_iconst (v := (1 : Int32)) X (dkL_law_20 (1745, .iconst 1, 1) (pgm 12 rfl)) ic_1 ?_
  refine so_iadd X (dkL_law_20 (1746, .iadd, 1) (pgm 13 rfl)) ?_
  refine so_sld X hSc hSb hSA (dkL_law_20 (1747, .iaload, 1) (pgm 14 rfl)) (fun x307 => ?_)
  refine so_aload_n (i := 3) X 3 (dkL_law_20 (1748, .aload_n 3, 1) (pgm 15 rfl)) rfl rfl ?_
  refine so_callW (n := 3) (As := [.ref 0, .int x307, .ref NC]) X hnc (ct_L_withdraw l hlt x307 hb) lk_1481 lk_1482 lk_120 lk_1483 (by decide +kernel) rfl rfl rfl ⟨Nat.le_of_ble_eq_true rfl, Nat.le_of_ble_eq_true rfl⟩ ⟨hC, hS⟩ (by decide) (dkL_law_20 (1749, .invokestatic 235, 3) (pgm 16 rfl)) (fun r308 h309 => ?_) rfl
  refine so_istore (i := 5) X (dkL_law_20 (1752, .istore 5, 2) (pgm 17 rfl)) (by decide) (Lf := fun x310 => [(5, .int x310), (0, .ref 197), (1, .ref 0), (2, .ref 152), (3, .ref NC), (4, .int i)]) (fun _ => rfl) (fun x310 => ?_)
  refine so_aload_n (i := 2) X 3 (dkL_law_20 (1754, .aload_n 2, 1) (pgm 18 rfl)) rfl rfl ?_
  refine so_aload_n (i := 0) X 1 (dkL_law_20 (1755, .aload_n 0, 1) (pgm 19 rfl)) rfl rfl ?_
  refine so_iload (i := 4) X 5 (dkL_law_20 (1756, .iload 4, 2) (pgm 20 rfl)) rfl ?_
  refine so_iconst (v := (1 : Int32)) X (dkL_law_20 (1758, .iconst 1, 1) (pgm 21 rfl)) ic_1 ?_
  refine so_iadd X (dkL_law_20 (1759, .iadd, 1) (pgm 22 rfl)) ?_
  refine so_sld X hSc hSb hSA (dkL_law_20 (1760, .iaload, 1) (pgm 23 rfl)) (fun x311 => ?_)
  refine so_callV (n := 1) (As := [.int x311]) X (ct_X12_withdraw l 152 x311 h309 km0) km0 (by decide) rfl lk_2204 lk_2205 lk_2206 lk_134 lk_2207 (by decide +kernel) rfl rfl rfl ⟨Nat.le_of_ble_eq_true rfl, Nat.le_of_ble_eq_true rfl⟩ ⟨by omega, by omega⟩ (Nat.le_of_ble_eq_true rfl) (dkL_law_20 (1761, .invokevirtual 237, 3) (pgm 24 rfl)) (fun r312 h313 => ?_) rfl
  refine so_istore (i := 6) X (dkL_law_20 (1764, .istore 6, 2) (pgm 25 rfl)) (by decide) (Lf := fun x314 => [(6, .int x314), (5, .int x310), (0, .ref 197), (1, .ref 0), (2, .ref 152), (3, .ref NC), (4, .int i)]) (fun _ => rfl) (fun x314 => ?_)
  refine so_aload_n (i := 2) X 4 (dkL_law_20 (1766, .aload_n 2, 1) (pgm 26 rfl)) rfl rfl ?_
  refine so_callV (n := 0) (As := []) X (ct_X12_thrown l 152 h313 km0) km0 (by decide) rfl lk_1820 lk_1821 lk_1822 lk_134 lk_1823 (by decide +kernel) rfl rfl rfl ⟨Nat.le_of_ble_eq_true rfl, Nat.le_of_ble_eq_true rfl⟩ ⟨by omega, by omega⟩ (Nat.le_of_ble_eq_true rfl) (dkL_law_20 (1767, .invokevirtual 144, 3) (pgm 27 rfl)) (fun r315 h316 => ?_) rfl
  refine so_iload (i := 5) X 1 (dkL_law_20 (1770, .iload 5, 2) (pgm 28 rfl)) rfl ?_
  refine so_icmp_eq (tgt := 1777) X (dkL_law_20 (1772, .if_icmp .eq 5, 3) (pgm 29 rfl)) rfl (fun _ => ?_) (fun _ => ?_)
  · refine so_iload (i := 5) X 1 (dkL_law_20 (1777, .iload 5, 2) (pgm 32 rfl)) rfl ?_
    refine so_join (jf := fun (h317 : PH) => j2584 h317) (fun (j : PH → Option (Int32 × PH)) => ∀  (h317 : PH), SWo (QL below args s) p l e room_1 s m args below meth c (cells + 3) (slots + 18) 8 D cA ad A 1794 [(0, .ref 197), (1, .ref 0), (2, .ref 152), (3, .ref NC), (4, .int i)] [] h317 (j h317)) ?_ (fun j1794 hj1794 => ?_)
    · intro h317
      refine so_goto (tgt := 2584) X (dkL_law_20 (1794, .goto 790, 3) (pgm 43 rfl)) rfl ?_
      exact so_pick X [0, 1, 2, 3, 4] rfl (hj2584 h317)
    refine so_if_ne (tgt := 1794) X (dkL_law_20 (1779, .ifCond .ne 15, 3) (pgm 33 rfl)) rfl (fun _ => ?_) (fun _ => ?_)
    · exact so_pick X [2, 3, 4, 5, 6] rfl (hj1794 h316)
    · refine so_aload_n (i := 3) X 5 (dkL_law_20 (1782, .aload_n 3, 1) (pgm 34 rfl)) rfl rfl ?_
      refine so_iconst (v := (0 : Int32)) X (dkL_law_20 (1783, .iconst 0, 1) (pgm 35 rfl)) ic_0 ?_
      refine so_outLd X hnc (dkL_law_20 (1784, .laload, 1) (pgm 36 rfl)) ?_
      refine so_iload (i := 6) X 0 (dkL_law_20 (1785, .iload 6, 2) (pgm 37 rfl)) rfl ?_
      refine so_i2l X (dkL_law_20 (1787, .i2l, 1) (pgm 38 rfl)) ?_
      refine so_lcmp X (dkL_law_20 (1788, .lcmp, 1) (pgm 39 rfl)) ?_
      refine so_if_eq (tgt := 1794) X (dkL_law_20 (1789, .ifCond .eq 5, 3) (pgm 40 rfl)) rfl (fun _ => ?_) (fun _ => ?_)
      · exact so_pick X [2, 3, 4, 5, 6] rfl (hj1794 h316)
      · refine so_iconst (v := (0 : Int32)) X (dkL_law_20 (1792, .iconst 0, 1) (pgm 41 rfl)) ic_0 ?_
        exact so_lawret X hargs rfl hAs hr hlk (by omega) (by omega) (dkL_law_20 (1793, .ireturn, 1) (pgm 42 rfl))
  · refine so_iconst (v := (0 : Int32)) X (dkL_law_20 (1775, .iconst 0, 1) (pgm 30 rfl)) ic_0 ?_
    exact so_lawret X hargs rfl hAs hr hlk (by omega) (by omega) (dkL_law_20 (1776, .ireturn, 1) (pgm 31 rfl))
def br_29 (xs : Nat → Int32) (L : Nat) (i : Int32) (hb : PH) (j2584 : PH → Option (Int32 × PH)) : Option (Int32 × PH) :=
  ldX xs L (i + (1 : Int32)) (fun (x318 : Int32) => cb (f_L_again x318 hb) (fun (r319 : Int32) (h320 : PH) => lt r319 (fun (x321 : Int32) => ldX xs L (i + (1 : Int32)) (fun (x322 : Int32) => cb (f_X12_again 152 x322 h320) (fun (r323 : Int32) (h324 : PH) => lt r323 (fun (x325 : Int32) => cb (f_X12_thrown 152 h324) (fun (r326 : Int32) (h327 : PH) => if r326 = x321 then (lt (fun (h328 : PH) => j2584 h328) (fun (j1850 : PH → Option (Int32 × PH)) => if x321 = 0 then (if (lg_cmp (h327.2 NC 0) x325.toInt64) = 0 then (j1850 h327) else (some ((0 : Int32), h327))) else (j1850 h327))) else (some ((0 : Int32), h327)))))))))
set_option maxRecDepth 100000 in
set_option maxHeartbeats 4000000 in
theorem lb_29 {p : Program} {l : Launch} {e : Env} {s : State} {m : MethodId} {args : Array Value} {below : List Frame} {meth : Method} {c : Code} {D : va_G} {cA : Nat → ClassId} {ad : Nat → Nat} {A : Nat → Prop} {L : Nat} {xs : Nat → Int32} (hlt : l.stackTraces = false) (X : Cx p s m args c RL cL_law 8 D cA ad A) (hnc : nc cA = NC + 1) (hargs : ∃ b0 : Nat, args = #[Value.ref b0]) (hAs : ∀ q, A q → s.heap.size ≤ q) (hr : meth.sig.returnType = ret) (hlk : meth.locks = false) (hSc : va_X (ad 197) L xs s s.heap) (hSb : ad 197 < s.heap.size) (hSA : ¬ A (ad 197)) (cells slots : Nat) (hC : cells + 3 ≤ room_1.cells) (hS : slots + 18 ≤ room_1.slots) (i : Int32) (hb : PH) (j2584 : PH → Option (Int32 × PH)) (hj2584 : ∀ (h2 : PH), SWo (QL below args s) p l e room_1 s m args below meth c (cells + 3) (slots + 18) 8 D cA ad A 2584 [(0, .ref 197), (1, .ref 0), (2, .ref 152), (3, .ref NC), (4, .int i)] [] h2 (j2584 h2)) : SWo (QL below args s) p l e room_1 s m args below meth c cells slots 8 D cA ad A 1797 [(0, .ref 197), (1, .ref 0), (2, .ref 152), (3, .ref NC), (4, .int i)] [] hb (br_29 xs L i hb j2584) := by
  have hroom1 : room_1.cells = 601024 := rfl
  have hroom2 : room_1.slots = 7293034 := rfl
  unfold br_29
  refine so_aload_n (i := 1) X 1 (dkL_law_20 (1797, .aload_n 1, 1) (pgm 44 rfl)) rfl rfl ?_
  refine so_aload_n (i := 0) X 0 (dkL_law_20 (1798, .aload_n 0, 1) (pgm 45 rfl)) rfl rfl ?_
  refine so_iload (i := 4) X 4 (dkL_law_20 (1799, .iload 4, 2) (pgm 46 rfl)) rfl ?_
  refine so_iconst (v := (1 : Int32)) X (dkL_law_20 (1801, .iconst 1, 1) (pgm 47 rfl)) ic_1 ?_
  refine so_iadd X (dkL_law_20 (1802, .iadd, 1) (pgm 48 rfl)) ?_
  refine so_sld X hSc hSb hSA (dkL_law_20 (1803, .iaload, 1) (pgm 49 rfl)) (fun x318 => ?_)
  refine so_aload_n (i := 3) X 3 (dkL_law_21 (1804, .aload_n 3, 1) (pgm 0 rfl)) rfl rfl ?_
  refine so_callW (n := 3) (As := [.ref 0, .int x318, .ref NC]) X hnc (ct_L_again l hlt x318 hb) lk_1488 lk_1489 lk_120 lk_1490 (by decide +kernel) rfl rfl rfl ⟨Nat.le_of_ble_eq_true rfl, Nat.le_of_ble_eq_true rfl⟩ ⟨hC, hS⟩ (by decide) (dkL_law_21 (1805, .invokestatic 238, 3) (pgm 1 rfl)) (fun r319 h320 => ?_) rfl
  refine so_istore (i := 5) X (dkL_law_21 (1808, .istore 5, 2) (pgm 2 rfl)) (by decide) (Lf := fun x321 => [(5, .int x321), (0, .ref 197), (1, .ref 0), (2, .ref 152), (3, .ref NC), (4, .int i)]) (fun _ => rfl) (fun x321 => ?_)
  refine so_aload_n (i := 2) X 3 (dkL_law_21 (1810, .aload_n 2, 1) (pgm 3 rfl)) rfl rfl ?_
  refine so_aload_n (i := 0) X 1 (dkL_law_21 (1811, .aload_n 0, 1) (pgm 4 rfl)) rfl rfl ?_
  refine so_iload (i := 4) X 5 (dkL_law_21 (1812, .iload 4, 2) (pgm 5 rfl)) rfl ?_
  refine so_iconst (v := (1 : Int32)) X (dkL_law_21 (1814, .iconst 1, 1) (pgm 6 rfl)) ic_1 ?_
  refine so_iadd X (dkL_law_21 (1815, .iadd, 1) (pgm 7 rfl)) ?_
  refine so_sld X hSc hSb hSA (dkL_law_21 (1816, .iaload, 1) (pgm 8 rfl)) (fun x322 => ?_)
  refine so_callV (n := 1) (As := [.int x322]) X (ct_X12_again l 152 x322 h320 km0) km0 (by decide) rfl lk_2208 lk_2209 lk_2210 lk_134 lk_2211 (by decide +kernel) rfl rfl rfl ⟨Nat.le_of_ble_eq_true rfl, Nat.le_of_ble_eq_true rfl⟩ ⟨by omega, by omega⟩ (Nat.le_of_ble_eq_true rfl) (dkL_law_21 (1817, .invokevirtual 240, 3) (pgm 9 rfl)) (fun r323 h324 => ?_) rfl
  refine so_istore (i := 6) X (dkL_law_21 (1820, .istore 6, 2) (pgm 10 rfl)) (by decide) (Lf := fun x325 => [(6, .int x325), (5, .int x321), (0, .ref 197), (1, .ref 0), (2, .ref 152), (3, .ref NC), (4, .int i)]) (fun _ => rfl) (fun x325 => ?_)
  refine so_aload_n (i := 2) X 4 (dkL_law_21 (1822, .aload_n 2, 1) (pgm 11 rfl)) rfl rfl ?_
  refine so_callV (n := 0) (As := []) X (ct_X12_thrown l 152 h324 km0) km0 (by decide) rfl lk_1820 lk_1821 lk_1822 lk_134 lk_1823 (by decide +kernel) rfl rfl rfl ⟨Nat.le_of_ble_eq_true rfl, Nat.le_of_ble_eq_true rfl⟩ ⟨by omega, by omega⟩ (Nat.le_of_ble_eq_true rfl) (dkL_law_21 (1823, .invokevirtual 144, 3) (pgm 12 rfl)) (fun r326 h327 => ?_) rfl
  refine so_iload (i := 5) X 1 (dkL_law_21 (1826, .iload 5, 2) (pgm 13 rfl)) rfl ?_
  refine so_icmp_eq (tgt := 1833) X (dkL_law_21 (1828, .if_icmp .eq 5, 3) (pgm 14 rfl)) rfl (fun _ => ?_) (fun _ => ?_)
  · refine so_iload (i := 5) X 1 (dkL_law_21 (1833, .iload 5, 2) (pgm 17 rfl)) rfl ?_
    refine so_join (jf := fun (h328 : PH) => j2584 h328) (fun (j : PH → Option (Int32 × PH)) => ∀  (h328 : PH), SWo (QL below args s) p l e room_1 s m args below meth c (cells + 3) (slots + 18) 8 D cA ad A 1850 [(0, .ref 197), (1, .ref 0), (2, .ref 152), (3, .ref NC), (4, .int i)] [] h328 (j h328)) ?_ (fun j1850 hj1850 => ?_)
    · intro h328
      refine so_goto (tgt := 2584) X (dkL_law_21 (1850, .goto 734, 3) (pgm 28 rfl)) rfl ?_
      exact so_pick X [0, 1, 2, 3, 4] rfl (hj2584 h328)
    refine so_if_ne (tgt := 1850) X (dkL_law_21 (1835, .ifCond .ne 15, 3) (pgm 18 rfl)) rfl (fun _ => ?_) (fun _ => ?_)
    · exact so_pick X [2, 3, 4, 5, 6] rfl (hj1850 h327)
    · refine so_aload_n (i := 3) X 5 (dkL_law_21 (1838, .aload_n 3, 1) (pgm 19 rfl)) rfl rfl ?_
      refine so_iconst (v := (0 : Int32)) X (dkL_law_21 (1839, .iconst 0, 1) (pgm 20 rfl)) ic_0 ?_
      refine so_outLd X hnc (dkL_law_21 (1840, .laload, 1) (pgm 21 rfl)) ?_
      refine so_iload (i := 6) X 0 (dkL_law_21 (1841, .iload 6, 2) (pgm 22 rfl)) rfl ?_
      refine so_i2l X (dkL_law_21 (1843, .i2l, 1) (pgm 23 rfl)) ?_
      refine so_lcmp X (dkL_law_21 (1844, .lcmp, 1) (pgm 24 rfl)) ?_
      refine so_if_eq (tgt := 1850) X (dkL_law_21 (1845, .ifCond .eq 5, 3) (pgm 25 rfl)) rfl (fun _ => ?_) (fun _ => ?_)
      · exact so_pick X [2, 3, 4, 5, 6] rfl (hj1850 h327)
      · refine so_iconst (v := (0 : Int32)) X (dkL_law_21 (1848, .iconst 0, 1) (pgm 26 rfl)) ic_0 ?_
        exact so_lawret X hargs rfl hAs hr hlk (by omega) (by omega) (dkL_law_21 (1849, .ireturn, 1) (pgm 27 rfl))
  · refine so_iconst (v := (0 : Int32)) X (dkL_law_21 (1831, .iconst 0, 1) (pgm 15 rfl)) ic_0 ?_
    exact so_lawret X hargs rfl hAs hr hlk (by omega) (by omega) (dkL_law_21 (1832, .ireturn, 1) (pgm 16 rfl))
def br_30 (xs : Nat → Int32) (L : Nat) (i : Int32) (hb : PH) (j2584 : PH → Option (Int32 × PH)) : Option (Int32 × PH) :=
  ldX xs L (i + (1 : Int32)) (fun (x329 : Int32) => cb (f_L_undo x329 hb) (fun (r330 : Int32) (h331 : PH) => lt r330 (fun (x332 : Int32) => ldX xs L (i + (1 : Int32)) (fun (x333 : Int32) => cb (f_X12_undo 152 x333 h331) (fun (r334 : Int32) (h335 : PH) => lt r334 (fun (x336 : Int32) => cb (f_X12_thrown 152 h335) (fun (r337 : Int32) (h338 : PH) => if r337 = x332 then (lt (fun (h339 : PH) => j2584 h339) (fun (j1906 : PH → Option (Int32 × PH)) => if x332 = 0 then (if (lg_cmp (h338.2 NC 0) x336.toInt64) = 0 then (j1906 h338) else (some ((0 : Int32), h338))) else (j1906 h338))) else (some ((0 : Int32), h338)))))))))
set_option maxRecDepth 100000 in
set_option maxHeartbeats 4000000 in
theorem lb_30 {p : Program} {l : Launch} {e : Env} {s : State} {m : MethodId} {args : Array Value} {below : List Frame} {meth : Method} {c : Code} {D : va_G} {cA : Nat → ClassId} {ad : Nat → Nat} {A : Nat → Prop} {L : Nat} {xs : Nat → Int32} (hlt : l.stackTraces = false) (X : Cx p s m args c RL cL_law 8 D cA ad A) (hnc : nc cA = NC + 1) (hargs : ∃ b0 : Nat, args = #[Value.ref b0]) (hAs : ∀ q, A q → s.heap.size ≤ q) (hr : meth.sig.returnType = ret) (hlk : meth.locks = false) (hSc : va_X (ad 197) L xs s s.heap) (hSb : ad 197 < s.heap.size) (hSA : ¬ A (ad 197)) (cells slots : Nat) (hC : cells + 3 ≤ room_1.cells) (hS : slots + 18 ≤ room_1.slots) (i : Int32) (hb : PH) (j2584 : PH → Option (Int32 × PH)) (hj2584 : ∀ (h2 : PH), SWo (QL below args s) p l e room_1 s m args below meth c (cells + 3) (slots + 18) 8 D cA ad A 2584 [(0, .ref 197), (1, .ref 0), (2, .ref 152), (3, .ref NC), (4, .int i)] [] h2 (j2584 h2)) : SWo (QL below args s) p l e room_1 s m args below meth c cells slots 8 D cA ad A 1853 [(0, .ref 197), (1, .ref 0), (2, .ref 152), (3, .ref NC), (4, .int i)] [] hb (br_30 xs L i hb j2584) := by
  have hroom1 : room_1.cells = 601024 := rfl
  have hroom2 : room_1.slots = 7293034 := rfl
  unfold br_30
  refine so_aload_n (i := 1) X 1 (dkL_law_21 (1853, .aload_n 1, 1) (pgm 29 rfl)) rfl rfl ?_
  refine so_aload_n (i := 0) X 0 (dkL_law_21 (1854, .aload_n 0, 1) (pgm 30 rfl)) rfl rfl ?_
  refine so_iload (i := 4) X 4 (dkL_law_21 (1855, .iload 4, 2) (pgm 31 rfl)) rfl ?_
  refine so_iconst (v := (1 : Int32)) X (dkL_law_21 (1857, .iconst 1, 1) (pgm 32 rfl)) ic_1 ?_
  refine so_iadd X (dkL_law_21 (1858, .iadd, 1) (pgm 33 rfl)) ?_
  refine so_sld X hSc hSb hSA (dkL_law_21 (1859, .iaload, 1) (pgm 34 rfl)) (fun x329 => ?_)
  refine so_aload_n (i := 3) X 3 (dkL_law_21 (1860, .aload_n 3, 1) (pgm 35 rfl)) rfl rfl ?_
  refine so_callW (n := 3) (As := [.ref 0, .int x329, .ref NC]) X hnc (ct_L_undo l hlt x329 hb) lk_1496 lk_1497 lk_120 lk_1498 (by decide +kernel) rfl rfl rfl ⟨Nat.le_of_ble_eq_true rfl, Nat.le_of_ble_eq_true rfl⟩ ⟨hC, hS⟩ (by decide) (dkL_law_21 (1861, .invokestatic 241, 3) (pgm 36 rfl)) (fun r330 h331 => ?_) rfl
  refine so_istore (i := 5) X (dkL_law_21 (1864, .istore 5, 2) (pgm 37 rfl)) (by decide) (Lf := fun x332 => [(5, .int x332), (0, .ref 197), (1, .ref 0), (2, .ref 152), (3, .ref NC), (4, .int i)]) (fun _ => rfl) (fun x332 => ?_)
  refine so_aload_n (i := 2) X 3 (dkL_law_21 (1866, .aload_n 2, 1) (pgm 38 rfl)) rfl rfl ?_
  refine so_aload_n (i := 0) X 1 (dkL_law_21 (1867, .aload_n 0, 1) (pgm 39 rfl)) rfl rfl ?_
  refine so_iload (i := 4) X 5 (dkL_law_21 (1868, .iload 4, 2) (pgm 40 rfl)) rfl ?_
  refine so_iconst (v := (1 : Int32)) X (dkL_law_21 (1870, .iconst 1, 1) (pgm 41 rfl)) ic_1 ?_
  refine so_iadd X (dkL_law_21 (1871, .iadd, 1) (pgm 42 rfl)) ?_
  refine so_sld X hSc hSb hSA (dkL_law_21 (1872, .iaload, 1) (pgm 43 rfl)) (fun x333 => ?_)
  refine so_callV (n := 1) (As := [.int x333]) X (ct_X12_undo l 152 x333 h331 km0) km0 (by decide) rfl lk_2212 lk_2213 lk_2214 lk_134 lk_2215 (by decide +kernel) rfl rfl rfl ⟨Nat.le_of_ble_eq_true rfl, Nat.le_of_ble_eq_true rfl⟩ ⟨by omega, by omega⟩ (Nat.le_of_ble_eq_true rfl) (dkL_law_21 (1873, .invokevirtual 243, 3) (pgm 44 rfl)) (fun r334 h335 => ?_) rfl
  refine so_istore (i := 6) X (dkL_law_21 (1876, .istore 6, 2) (pgm 45 rfl)) (by decide) (Lf := fun x336 => [(6, .int x336), (5, .int x332), (0, .ref 197), (1, .ref 0), (2, .ref 152), (3, .ref NC), (4, .int i)]) (fun _ => rfl) (fun x336 => ?_)
  refine so_aload_n (i := 2) X 4 (dkL_law_21 (1878, .aload_n 2, 1) (pgm 46 rfl)) rfl rfl ?_
  refine so_callV (n := 0) (As := []) X (ct_X12_thrown l 152 h335 km0) km0 (by decide) rfl lk_1820 lk_1821 lk_1822 lk_134 lk_1823 (by decide +kernel) rfl rfl rfl ⟨Nat.le_of_ble_eq_true rfl, Nat.le_of_ble_eq_true rfl⟩ ⟨by omega, by omega⟩ (Nat.le_of_ble_eq_true rfl) (dkL_law_21 (1879, .invokevirtual 144, 3) (pgm 47 rfl)) (fun r337 h338 => ?_) rfl
  refine so_iload (i := 5) X 1 (dkL_law_21 (1882, .iload 5, 2) (pgm 48 rfl)) rfl ?_
  refine so_icmp_eq (tgt := 1889) X (dkL_law_21 (1884, .if_icmp .eq 5, 3) (pgm 49 rfl)) rfl (fun _ => ?_) (fun _ => ?_)
  · refine so_iload (i := 5) X 1 (dkL_law_22 (1889, .iload 5, 2) (pgm 2 rfl)) rfl ?_
    refine so_join (jf := fun (h339 : PH) => j2584 h339) (fun (j : PH → Option (Int32 × PH)) => ∀  (h339 : PH), SWo (QL below args s) p l e room_1 s m args below meth c (cells + 3) (slots + 18) 8 D cA ad A 1906 [(0, .ref 197), (1, .ref 0), (2, .ref 152), (3, .ref NC), (4, .int i)] [] h339 (j h339)) ?_ (fun j1906 hj1906 => ?_)
    · intro h339
      refine so_goto (tgt := 2584) X (dkL_law_22 (1906, .goto 678, 3) (pgm 13 rfl)) rfl ?_
      exact so_pick X [0, 1, 2, 3, 4] rfl (hj2584 h339)
    refine so_if_ne (tgt := 1906) X (dkL_law_22 (1891, .ifCond .ne 15, 3) (pgm 3 rfl)) rfl (fun _ => ?_) (fun _ => ?_)
    · exact so_pick X [2, 3, 4, 5, 6] rfl (hj1906 h338)
    · refine so_aload_n (i := 3) X 5 (dkL_law_22 (1894, .aload_n 3, 1) (pgm 4 rfl)) rfl rfl ?_
      refine so_iconst (v := (0 : Int32)) X (dkL_law_22 (1895, .iconst 0, 1) (pgm 5 rfl)) ic_0 ?_
      refine so_outLd X hnc (dkL_law_22 (1896, .laload, 1) (pgm 6 rfl)) ?_
      refine so_iload (i := 6) X 0 (dkL_law_22 (1897, .iload 6, 2) (pgm 7 rfl)) rfl ?_
      refine so_i2l X (dkL_law_22 (1899, .i2l, 1) (pgm 8 rfl)) ?_
      refine so_lcmp X (dkL_law_22 (1900, .lcmp, 1) (pgm 9 rfl)) ?_
      refine so_if_eq (tgt := 1906) X (dkL_law_22 (1901, .ifCond .eq 5, 3) (pgm 10 rfl)) rfl (fun _ => ?_) (fun _ => ?_)
      · exact so_pick X [2, 3, 4, 5, 6] rfl (hj1906 h338)
      · refine so_iconst (v := (0 : Int32)) X (dkL_law_22 (1904, .iconst 0, 1) (pgm 11 rfl)) ic_0 ?_
        exact so_lawret X hargs rfl hAs hr hlk (by omega) (by omega) (dkL_law_22 (1905, .ireturn, 1) (pgm 12 rfl))
  · refine so_iconst (v := (0 : Int32)) X (dkL_law_22 (1887, .iconst 0, 1) (pgm 0 rfl)) ic_0 ?_
    exact so_lawret X hargs rfl hAs hr hlk (by omega) (by omega) (dkL_law_22 (1888, .ireturn, 1) (pgm 1 rfl))
def br_31 (xs : Nat → Int32) (L : Nat) (i : Int32) (hb : PH) (j2584 : PH → Option (Int32 × PH)) : Option (Int32 × PH) :=
  ldX xs L (i + (1 : Int32)) (fun (x340 : Int32) => ldX xs L (i + (2 : Int32)) (fun (x341 : Int32) => cb (f_L_judge x340 x341 hb) (fun (r342 : Int32) (h343 : PH) => lt r342 (fun (x344 : Int32) => ldX xs L (i + (1 : Int32)) (fun (x345 : Int32) => ldX xs L (i + (2 : Int32)) (fun (x346 : Int32) => cb (f_X12_judge 152 x345 x346 h343) (fun (r347 : Int32) (h348 : PH) => lt r347 (fun (x349 : Int32) => cb (f_X12_thrown 152 h348) (fun (r350 : Int32) (h351 : PH) => if r350 = x344 then (lt (fun (h352 : PH) => j2584 h352) (fun (j1974 : PH → Option (Int32 × PH)) => if x344 = 0 then (if (lg_cmp (h351.2 NC 0) x349.toInt64) = 0 then (j1974 h351) else (some ((0 : Int32), h351))) else (j1974 h351))) else (some ((0 : Int32), h351)))))))))))
set_option maxRecDepth 100000 in
set_option maxHeartbeats 4000000 in
theorem lb_31 {p : Program} {l : Launch} {e : Env} {s : State} {m : MethodId} {args : Array Value} {below : List Frame} {meth : Method} {c : Code} {D : va_G} {cA : Nat → ClassId} {ad : Nat → Nat} {A : Nat → Prop} {L : Nat} {xs : Nat → Int32} (hlt : l.stackTraces = false) (X : Cx p s m args c RL cL_law 8 D cA ad A) (hnc : nc cA = NC + 1) (hargs : ∃ b0 : Nat, args = #[Value.ref b0]) (hAs : ∀ q, A q → s.heap.size ≤ q) (hr : meth.sig.returnType = ret) (hlk : meth.locks = false) (hSc : va_X (ad 197) L xs s s.heap) (hSb : ad 197 < s.heap.size) (hSA : ¬ A (ad 197)) (cells slots : Nat) (hC : cells + 3 ≤ room_1.cells) (hS : slots + 18 ≤ room_1.slots) (i : Int32) (hb : PH) (j2584 : PH → Option (Int32 × PH)) (hj2584 : ∀ (h2 : PH), SWo (QL below args s) p l e room_1 s m args below meth c (cells + 3) (slots + 18) 8 D cA ad A 2584 [(0, .ref 197), (1, .ref 0), (2, .ref 152), (3, .ref NC), (4, .int i)] [] h2 (j2584 h2)) : SWo (QL below args s) p l e room_1 s m args below meth c cells slots 8 D cA ad A 1909 [(0, .ref 197), (1, .ref 0), (2, .ref 152), (3, .ref NC), (4, .int i)] [] hb (br_31 xs L i hb j2584) := by
  have hroom1 : room_1.cells = 601024 := rfl
  have hroom2 : room_1.slots = 7293034 := rfl
  unfold br_31
  refine so_aload_n (i := 1) X 1 (dkL_law_22 (1909, .aload_n 1, 1) (pgm 14 rfl)) rfl rfl ?_
  refine so_aload_n (i := 0) X 0 (dkL_law_22 (1910, .aload_n 0, 1) (pgm 15 rfl)) rfl rfl ?_
  refine so_iload (i := 4) X 4 (dkL_law_22 (1911, .iload 4, 2) (pgm 16 rfl)) rfl ?_
  refine so_iconst (v := (1 : Int32)) X (dkL_law_22 (1913, .iconst 1, 1) (pgm 17 rfl)) ic_1 ?_
  refine so_iadd X (dkL_law_22 (1914, .iadd, 1) (pgm 18 rfl)) ?_
  refine so_sld X hSc hSb hSA (dkL_law_22 (1915, .iaload, 1) (pgm 19 rfl)) (fun x340 => ?_)
  refine so_aload_n (i := 0) X 0 (dkL_law_22 (1916, .aload_n 0, 1) (pgm 20 rfl)) rfl rfl ?_
  refine so_iload (i := 4) X 4 (dkL_law_22 (1917, .iload 4, 2) (pgm 21 rfl)) rfl ?_
  refine so_iconst (v := (2 : Int32)) X (dkL_law_22 (1919, .iconst 2, 1) (pgm 22 rfl)) ic_2 ?_
  refine so_iadd X (dkL_law_22 (1920, .iadd, 1) (pgm 23 rfl)) ?_
  refine so_sld X hSc hSb hSA (dkL_law_22 (1921, .iaload, 1) (pgm 24 rfl)) (fun x341 => ?_)
  refine so_aload_n (i := 3) X 3 (dkL_law_22 (1922, .aload_n 3, 1) (pgm 25 rfl)) rfl rfl ?_
  refine so_callW (n := 4) (As := [.ref 0, .int x340, .int x341, .ref NC]) X hnc (ct_L_judge l hlt x340 x341 hb) lk_1508 lk_1509 lk_120 lk_1510 (by decide +kernel) rfl rfl rfl ⟨Nat.le_of_ble_eq_true rfl, Nat.le_of_ble_eq_true rfl⟩ ⟨hC, hS⟩ (by decide) (dkL_law_22 (1923, .invokestatic 244, 3) (pgm 26 rfl)) (fun r342 h343 => ?_) rfl
  refine so_istore (i := 5) X (dkL_law_22 (1926, .istore 5, 2) (pgm 27 rfl)) (by decide) (Lf := fun x344 => [(5, .int x344), (0, .ref 197), (1, .ref 0), (2, .ref 152), (3, .ref NC), (4, .int i)]) (fun _ => rfl) (fun x344 => ?_)
  refine so_aload_n (i := 2) X 3 (dkL_law_22 (1928, .aload_n 2, 1) (pgm 28 rfl)) rfl rfl ?_
  refine so_aload_n (i := 0) X 1 (dkL_law_22 (1929, .aload_n 0, 1) (pgm 29 rfl)) rfl rfl ?_
  refine so_iload (i := 4) X 5 (dkL_law_22 (1930, .iload 4, 2) (pgm 30 rfl)) rfl ?_
  refine so_iconst (v := (1 : Int32)) X (dkL_law_22 (1932, .iconst 1, 1) (pgm 31 rfl)) ic_1 ?_
  refine so_iadd X (dkL_law_22 (1933, .iadd, 1) (pgm 32 rfl)) ?_
  refine so_sld X hSc hSb hSA (dkL_law_22 (1934, .iaload, 1) (pgm 33 rfl)) (fun x345 => ?_)
  refine so_aload_n (i := 0) X 1 (dkL_law_22 (1935, .aload_n 0, 1) (pgm 34 rfl)) rfl rfl ?_
  refine so_iload (i := 4) X 5 (dkL_law_22 (1936, .iload 4, 2) (pgm 35 rfl)) rfl ?_
  refine so_iconst (v := (2 : Int32)) X (dkL_law_22 (1938, .iconst 2, 1) (pgm 36 rfl)) ic_2 ?_
  refine so_iadd X (dkL_law_22 (1939, .iadd, 1) (pgm 37 rfl)) ?_
  refine so_sld X hSc hSb hSA (dkL_law_22 (1940, .iaload, 1) (pgm 38 rfl)) (fun x346 => ?_)
  refine so_callV (n := 2) (As := [.int x345, .int x346]) X (ct_X12_judge l 152 x345 x346 h343 km0) km0 (by decide) rfl lk_2216 lk_2217 lk_2218 lk_134 lk_2219 (by decide +kernel) rfl rfl rfl ⟨Nat.le_of_ble_eq_true rfl, Nat.le_of_ble_eq_true rfl⟩ ⟨by omega, by omega⟩ (Nat.le_of_ble_eq_true rfl) (dkL_law_22 (1941, .invokevirtual 246, 3) (pgm 39 rfl)) (fun r347 h348 => ?_) rfl
  refine so_istore (i := 6) X (dkL_law_22 (1944, .istore 6, 2) (pgm 40 rfl)) (by decide) (Lf := fun x349 => [(6, .int x349), (5, .int x344), (0, .ref 197), (1, .ref 0), (2, .ref 152), (3, .ref NC), (4, .int i)]) (fun _ => rfl) (fun x349 => ?_)
  refine so_aload_n (i := 2) X 4 (dkL_law_22 (1946, .aload_n 2, 1) (pgm 41 rfl)) rfl rfl ?_
  refine so_callV (n := 0) (As := []) X (ct_X12_thrown l 152 h348 km0) km0 (by decide) rfl lk_1820 lk_1821 lk_1822 lk_134 lk_1823 (by decide +kernel) rfl rfl rfl ⟨Nat.le_of_ble_eq_true rfl, Nat.le_of_ble_eq_true rfl⟩ ⟨by omega, by omega⟩ (Nat.le_of_ble_eq_true rfl) (dkL_law_22 (1947, .invokevirtual 144, 3) (pgm 42 rfl)) (fun r350 h351 => ?_) rfl
  refine so_iload (i := 5) X 1 (dkL_law_22 (1950, .iload 5, 2) (pgm 43 rfl)) rfl ?_
  refine so_icmp_eq (tgt := 1957) X (dkL_law_22 (1952, .if_icmp .eq 5, 3) (pgm 44 rfl)) rfl (fun _ => ?_) (fun _ => ?_)
  · refine so_iload (i := 5) X 1 (dkL_law_22 (1957, .iload 5, 2) (pgm 47 rfl)) rfl ?_
    refine so_join (jf := fun (h352 : PH) => j2584 h352) (fun (j : PH → Option (Int32 × PH)) => ∀  (h352 : PH), SWo (QL below args s) p l e room_1 s m args below meth c (cells + 3) (slots + 18) 8 D cA ad A 1974 [(0, .ref 197), (1, .ref 0), (2, .ref 152), (3, .ref NC), (4, .int i)] [] h352 (j h352)) ?_ (fun j1974 hj1974 => ?_)
    · intro h352
      refine so_goto (tgt := 2584) X (dkL_law_23 (1974, .goto 610, 3) (pgm 8 rfl)) rfl ?_
      exact so_pick X [0, 1, 2, 3, 4] rfl (hj2584 h352)
    refine so_if_ne (tgt := 1974) X (dkL_law_22 (1959, .ifCond .ne 15, 3) (pgm 48 rfl)) rfl (fun _ => ?_) (fun _ => ?_)
    · exact so_pick X [2, 3, 4, 5, 6] rfl (hj1974 h351)
    · refine so_aload_n (i := 3) X 5 (dkL_law_22 (1962, .aload_n 3, 1) (pgm 49 rfl)) rfl rfl ?_
      refine so_iconst (v := (0 : Int32)) X (dkL_law_23 (1963, .iconst 0, 1) (pgm 0 rfl)) ic_0 ?_
      refine so_outLd X hnc (dkL_law_23 (1964, .laload, 1) (pgm 1 rfl)) ?_
      refine so_iload (i := 6) X 0 (dkL_law_23 (1965, .iload 6, 2) (pgm 2 rfl)) rfl ?_
      refine so_i2l X (dkL_law_23 (1967, .i2l, 1) (pgm 3 rfl)) ?_
      refine so_lcmp X (dkL_law_23 (1968, .lcmp, 1) (pgm 4 rfl)) ?_
      refine so_if_eq (tgt := 1974) X (dkL_law_23 (1969, .ifCond .eq 5, 3) (pgm 5 rfl)) rfl (fun _ => ?_) (fun _ => ?_)
      · exact so_pick X [2, 3, 4, 5, 6] rfl (hj1974 h351)
      · refine so_iconst (v := (0 : Int32)) X (dkL_law_23 (1972, .iconst 0, 1) (pgm 6 rfl)) ic_0 ?_
        exact so_lawret X hargs rfl hAs hr hlk (by omega) (by omega) (dkL_law_23 (1973, .ireturn, 1) (pgm 7 rfl))
  · refine so_iconst (v := (0 : Int32)) X (dkL_law_22 (1955, .iconst 0, 1) (pgm 45 rfl)) ic_0 ?_
    exact so_lawret X hargs rfl hAs hr hlk (by omega) (by omega) (dkL_law_22 (1956, .ireturn, 1) (pgm 46 rfl))
def br_32 (xs : Nat → Int32) (L : Nat) (i : Int32) (hb : PH) (j2584 : PH → Option (Int32 × PH)) : Option (Int32 × PH) :=
  ldX xs L (i + (1 : Int32)) (fun (x353 : Int32) => cb (f_L_perform x353 hb) (fun (r354 : Int32) (h355 : PH) => lt r354 (fun (x356 : Int32) => ldX xs L (i + (1 : Int32)) (fun (x357 : Int32) => cb (f_X12_perform 152 x357 h355) (fun (r358 : Int32) (h359 : PH) => lt r358 (fun (x360 : Int32) => cb (f_X12_thrown 152 h359) (fun (r361 : Int32) (h362 : PH) => if r361 = x356 then (lt (fun (h363 : PH) => j2584 h363) (fun (j2030 : PH → Option (Int32 × PH)) => if x356 = 0 then (if (lg_cmp (h362.2 NC 0) x360.toInt64) = 0 then (j2030 h362) else (some ((0 : Int32), h362))) else (j2030 h362))) else (some ((0 : Int32), h362)))))))))
set_option maxRecDepth 100000 in
set_option maxHeartbeats 4000000 in
theorem lb_32 {p : Program} {l : Launch} {e : Env} {s : State} {m : MethodId} {args : Array Value} {below : List Frame} {meth : Method} {c : Code} {D : va_G} {cA : Nat → ClassId} {ad : Nat → Nat} {A : Nat → Prop} {L : Nat} {xs : Nat → Int32} (hlt : l.stackTraces = false) (X : Cx p s m args c RL cL_law 8 D cA ad A) (hnc : nc cA = NC + 1) (hargs : ∃ b0 : Nat, args = #[Value.ref b0]) (hAs : ∀ q, A q → s.heap.size ≤ q) (hr : meth.sig.returnType = ret) (hlk : meth.locks = false) (hSc : va_X (ad 197) L xs s s.heap) (hSb : ad 197 < s.heap.size) (hSA : ¬ A (ad 197)) (cells slots : Nat) (hC : cells + 3 ≤ room_1.cells) (hS : slots + 18 ≤ room_1.slots) (i : Int32) (hb : PH) (j2584 : PH → Option (Int32 × PH)) (hj2584 : ∀ (h2 : PH), SWo (QL below args s) p l e room_1 s m args below meth c (cells + 3) (slots + 18) 8 D cA ad A 2584 [(0, .ref 197), (1, .ref 0), (2, .ref 152), (3, .ref NC), (4, .int i)] [] h2 (j2584 h2)) : SWo (QL below args s) p l e room_1 s m args below meth c cells slots 8 D cA ad A 1977 [(0, .ref 197), (1, .ref 0), (2, .ref 152), (3, .ref NC), (4, .int i)] [] hb (br_32 xs L i hb j2584) := by
  have hroom1 : room_1.cells = 601024 := rfl
  have hroom2 : room_1.slots = 7293034 := rfl
  unfold br_32
  refine so_aload_n (i := 1) X 1 (dkL_law_23 (1977, .aload_n 1, 1) (pgm 9 rfl)) rfl rfl ?_
  refine so_aload_n (i := 0) X 0 (dkL_law_23 (1978, .aload_n 0, 1) (pgm 10 rfl)) rfl rfl ?_
  refine so_iload (i := 4) X 4 (dkL_law_23 (1979, .iload 4, 2) (pgm 11 rfl)) rfl ?_
  refine so_iconst (v := (1 : Int32)) X (dkL_law_23 (1981, .iconst 1, 1) (pgm 12 rfl)) ic_1 ?_
  refine so_iadd X (dkL_law_23 (1982, .iadd, 1) (pgm 13 rfl)) ?_
  refine so_sld X hSc hSb hSA (dkL_law_23 (1983, .iaload, 1) (pgm 14 rfl)) (fun x353 => ?_)
  refine so_aload_n (i := 3) X 3 (dkL_law_23 (1984, .aload_n 3, 1) (pgm 15 rfl)) rfl rfl ?_
  refine so_callW (n := 3) (As := [.ref 0, .int x353, .ref NC]) X hnc (ct_L_perform l hlt x353 hb) lk_1515 lk_1516 lk_120 lk_1517 (by decide +kernel) rfl rfl rfl ⟨Nat.le_of_ble_eq_true rfl, Nat.le_of_ble_eq_true rfl⟩ ⟨hC, hS⟩ (by decide) (dkL_law_23 (1985, .invokestatic 247, 3) (pgm 16 rfl)) (fun r354 h355 => ?_) rfl
  refine so_istore (i := 5) X (dkL_law_23 (1988, .istore 5, 2) (pgm 17 rfl)) (by decide) (Lf := fun x356 => [(5, .int x356), (0, .ref 197), (1, .ref 0), (2, .ref 152), (3, .ref NC), (4, .int i)]) (fun _ => rfl) (fun x356 => ?_)
  refine so_aload_n (i := 2) X 3 (dkL_law_23 (1990, .aload_n 2, 1) (pgm 18 rfl)) rfl rfl ?_
  refine so_aload_n (i := 0) X 1 (dkL_law_23 (1991, .aload_n 0, 1) (pgm 19 rfl)) rfl rfl ?_
  refine so_iload (i := 4) X 5 (dkL_law_23 (1992, .iload 4, 2) (pgm 20 rfl)) rfl ?_
  refine so_iconst (v := (1 : Int32)) X (dkL_law_23 (1994, .iconst 1, 1) (pgm 21 rfl)) ic_1 ?_
  refine so_iadd X (dkL_law_23 (1995, .iadd, 1) (pgm 22 rfl)) ?_
  refine so_sld X hSc hSb hSA (dkL_law_23 (1996, .iaload, 1) (pgm 23 rfl)) (fun x357 => ?_)
  refine so_callV (n := 1) (As := [.int x357]) X (ct_X12_perform l 152 x357 h355 km0) km0 (by decide) rfl lk_2220 lk_2221 lk_2222 lk_134 lk_2223 (by decide +kernel) rfl rfl rfl ⟨Nat.le_of_ble_eq_true rfl, Nat.le_of_ble_eq_true rfl⟩ ⟨by omega, by omega⟩ (Nat.le_of_ble_eq_true rfl) (dkL_law_23 (1997, .invokevirtual 249, 3) (pgm 24 rfl)) (fun r358 h359 => ?_) rfl
  refine so_istore (i := 6) X (dkL_law_23 (2000, .istore 6, 2) (pgm 25 rfl)) (by decide) (Lf := fun x360 => [(6, .int x360), (5, .int x356), (0, .ref 197), (1, .ref 0), (2, .ref 152), (3, .ref NC), (4, .int i)]) (fun _ => rfl) (fun x360 => ?_)
  refine so_aload_n (i := 2) X 4 (dkL_law_23 (2002, .aload_n 2, 1) (pgm 26 rfl)) rfl rfl ?_
  refine so_callV (n := 0) (As := []) X (ct_X12_thrown l 152 h359 km0) km0 (by decide) rfl lk_1820 lk_1821 lk_1822 lk_134 lk_1823 (by decide +kernel) rfl rfl rfl ⟨Nat.le_of_ble_eq_true rfl, Nat.le_of_ble_eq_true rfl⟩ ⟨by omega, by omega⟩ (Nat.le_of_ble_eq_true rfl) (dkL_law_23 (2003, .invokevirtual 144, 3) (pgm 27 rfl)) (fun r361 h362 => ?_) rfl
  refine so_iload (i := 5) X 1 (dkL_law_23 (2006, .iload 5, 2) (pgm 28 rfl)) rfl ?_
  refine so_icmp_eq (tgt := 2013) X (dkL_law_23 (2008, .if_icmp .eq 5, 3) (pgm 29 rfl)) rfl (fun _ => ?_) (fun _ => ?_)
  · refine so_iload (i := 5) X 1 (dkL_law_23 (2013, .iload 5, 2) (pgm 32 rfl)) rfl ?_
    refine so_join (jf := fun (h363 : PH) => j2584 h363) (fun (j : PH → Option (Int32 × PH)) => ∀  (h363 : PH), SWo (QL below args s) p l e room_1 s m args below meth c (cells + 3) (slots + 18) 8 D cA ad A 2030 [(0, .ref 197), (1, .ref 0), (2, .ref 152), (3, .ref NC), (4, .int i)] [] h363 (j h363)) ?_ (fun j2030 hj2030 => ?_)
    · intro h363
      refine so_goto (tgt := 2584) X (dkL_law_23 (2030, .goto 554, 3) (pgm 43 rfl)) rfl ?_
      exact so_pick X [0, 1, 2, 3, 4] rfl (hj2584 h363)
    refine so_if_ne (tgt := 2030) X (dkL_law_23 (2015, .ifCond .ne 15, 3) (pgm 33 rfl)) rfl (fun _ => ?_) (fun _ => ?_)
    · exact so_pick X [2, 3, 4, 5, 6] rfl (hj2030 h362)
    · refine so_aload_n (i := 3) X 5 (dkL_law_23 (2018, .aload_n 3, 1) (pgm 34 rfl)) rfl rfl ?_
      refine so_iconst (v := (0 : Int32)) X (dkL_law_23 (2019, .iconst 0, 1) (pgm 35 rfl)) ic_0 ?_
      refine so_outLd X hnc (dkL_law_23 (2020, .laload, 1) (pgm 36 rfl)) ?_
      refine so_iload (i := 6) X 0 (dkL_law_23 (2021, .iload 6, 2) (pgm 37 rfl)) rfl ?_
      refine so_i2l X (dkL_law_23 (2023, .i2l, 1) (pgm 38 rfl)) ?_
      refine so_lcmp X (dkL_law_23 (2024, .lcmp, 1) (pgm 39 rfl)) ?_
      refine so_if_eq (tgt := 2030) X (dkL_law_23 (2025, .ifCond .eq 5, 3) (pgm 40 rfl)) rfl (fun _ => ?_) (fun _ => ?_)
      · exact so_pick X [2, 3, 4, 5, 6] rfl (hj2030 h362)
      · refine so_iconst (v := (0 : Int32)) X (dkL_law_23 (2028, .iconst 0, 1) (pgm 41 rfl)) ic_0 ?_
        exact so_lawret X hargs rfl hAs hr hlk (by omega) (by omega) (dkL_law_23 (2029, .ireturn, 1) (pgm 42 rfl))
  · refine so_iconst (v := (0 : Int32)) X (dkL_law_23 (2011, .iconst 0, 1) (pgm 30 rfl)) ic_0 ?_
    exact so_lawret X hargs rfl hAs hr hlk (by omega) (by omega) (dkL_law_23 (2012, .ireturn, 1) (pgm 31 rfl))
def br_33 (xs : Nat → Int32) (L : Nat) (i : Int32) (hb : PH) (j2584 : PH → Option (Int32 × PH)) : Option (Int32 × PH) :=
  ldX xs L (i + (1 : Int32)) (fun (x364 : Int32) => ldX xs L (i + (2 : Int32)) (fun (x365 : Int32) => cb (f_L_season x364 x365 hb) (fun (r366 : Int32) (h367 : PH) => lt r366 (fun (x368 : Int32) => ldX xs L (i + (1 : Int32)) (fun (x369 : Int32) => ldX xs L (i + (2 : Int32)) (fun (x370 : Int32) => cb (f_X12_season 152 x369 x370 h367) (fun (r371 : Int32) (h372 : PH) => lt r371 (fun (x373 : Int32) => cb (f_X12_thrown 152 h372) (fun (r374 : Int32) (h375 : PH) => if r374 = x368 then (lt (fun (h376 : PH) => j2584 h376) (fun (j2098 : PH → Option (Int32 × PH)) => if x368 = 0 then (if (lg_cmp (h375.2 NC 0) x373.toInt64) = 0 then (j2098 h375) else (some ((0 : Int32), h375))) else (j2098 h375))) else (some ((0 : Int32), h375)))))))))))
set_option maxRecDepth 100000 in
set_option maxHeartbeats 4000000 in
theorem lb_33 {p : Program} {l : Launch} {e : Env} {s : State} {m : MethodId} {args : Array Value} {below : List Frame} {meth : Method} {c : Code} {D : va_G} {cA : Nat → ClassId} {ad : Nat → Nat} {A : Nat → Prop} {L : Nat} {xs : Nat → Int32} (hlt : l.stackTraces = false) (X : Cx p s m args c RL cL_law 8 D cA ad A) (hnc : nc cA = NC + 1) (hargs : ∃ b0 : Nat, args = #[Value.ref b0]) (hAs : ∀ q, A q → s.heap.size ≤ q) (hr : meth.sig.returnType = ret) (hlk : meth.locks = false) (hSc : va_X (ad 197) L xs s s.heap) (hSb : ad 197 < s.heap.size) (hSA : ¬ A (ad 197)) (cells slots : Nat) (hC : cells + 3 ≤ room_1.cells) (hS : slots + 18 ≤ room_1.slots) (i : Int32) (hb : PH) (j2584 : PH → Option (Int32 × PH)) (hj2584 : ∀ (h2 : PH), SWo (QL below args s) p l e room_1 s m args below meth c (cells + 3) (slots + 18) 8 D cA ad A 2584 [(0, .ref 197), (1, .ref 0), (2, .ref 152), (3, .ref NC), (4, .int i)] [] h2 (j2584 h2)) : SWo (QL below args s) p l e room_1 s m args below meth c cells slots 8 D cA ad A 2033 [(0, .ref 197), (1, .ref 0), (2, .ref 152), (3, .ref NC), (4, .int i)] [] hb (br_33 xs L i hb j2584) := by
  have hroom1 : room_1.cells = 601024 := rfl
  have hroom2 : room_1.slots = 7293034 := rfl
  unfold br_33
  refine so_aload_n (i := 1) X 1 (dkL_law_23 (2033, .aload_n 1, 1) (pgm 44 rfl)) rfl rfl ?_
  refine so_aload_n (i := 0) X 0 (dkL_law_23 (2034, .aload_n 0, 1) (pgm 45 rfl)) rfl rfl ?_
  refine so_iload (i := 4) X 4 (dkL_law_23 (2035, .iload 4, 2) (pgm 46 rfl)) rfl ?_
  refine so_iconst (v := (1 : Int32)) X (dkL_law_23 (2037, .iconst 1, 1) (pgm 47 rfl)) ic_1 ?_
  refine so_iadd X (dkL_law_23 (2038, .iadd, 1) (pgm 48 rfl)) ?_
  refine so_sld X hSc hSb hSA (dkL_law_23 (2039, .iaload, 1) (pgm 49 rfl)) (fun x364 => ?_)
  refine so_aload_n (i := 0) X 0 (dkL_law_24 (2040, .aload_n 0, 1) (pgm 0 rfl)) rfl rfl ?_
  refine so_iload (i := 4) X 4 (dkL_law_24 (2041, .iload 4, 2) (pgm 1 rfl)) rfl ?_
  refine so_iconst (v := (2 : Int32)) X (dkL_law_24 (2043, .iconst 2, 1) (pgm 2 rfl)) ic_2 ?_
  refine so_iadd X (dkL_law_24 (2044, .iadd, 1) (pgm 3 rfl)) ?_
  refine so_sld X hSc hSb hSA (dkL_law_24 (2045, .iaload, 1) (pgm 4 rfl)) (fun x365 => ?_)
  refine so_aload_n (i := 3) X 3 (dkL_law_24 (2046, .aload_n 3, 1) (pgm 5 rfl)) rfl rfl ?_
  refine so_callW (n := 4) (As := [.ref 0, .int x364, .int x365, .ref NC]) X hnc (ct_L_season l hlt x364 x365 hb) lk_1522 lk_1523 lk_120 lk_1524 (by decide +kernel) rfl rfl rfl ⟨Nat.le_of_ble_eq_true rfl, Nat.le_of_ble_eq_true rfl⟩ ⟨hC, hS⟩ (by decide) (dkL_law_24 (2047, .invokestatic 250, 3) (pgm 6 rfl)) (fun r366 h367 => ?_) rfl
  refine so_istore (i := 5) X (dkL_law_24 (2050, .istore 5, 2) (pgm 7 rfl)) (by decide) (Lf := fun x368 => [(5, .int x368), (0, .ref 197), (1, .ref 0), (2, .ref 152), (3, .ref NC), (4, .int i)]) (fun _ => rfl) (fun x368 => ?_)
  refine so_aload_n (i := 2) X 3 (dkL_law_24 (2052, .aload_n 2, 1) (pgm 8 rfl)) rfl rfl ?_
  refine so_aload_n (i := 0) X 1 (dkL_law_24 (2053, .aload_n 0, 1) (pgm 9 rfl)) rfl rfl ?_
  refine so_iload (i := 4) X 5 (dkL_law_24 (2054, .iload 4, 2) (pgm 10 rfl)) rfl ?_
  refine so_iconst (v := (1 : Int32)) X (dkL_law_24 (2056, .iconst 1, 1) (pgm 11 rfl)) ic_1 ?_
  refine so_iadd X (dkL_law_24 (2057, .iadd, 1) (pgm 12 rfl)) ?_
  refine so_sld X hSc hSb hSA (dkL_law_24 (2058, .iaload, 1) (pgm 13 rfl)) (fun x369 => ?_)
  refine so_aload_n (i := 0) X 1 (dkL_law_24 (2059, .aload_n 0, 1) (pgm 14 rfl)) rfl rfl ?_
  refine so_iload (i := 4) X 5 (dkL_law_24 (2060, .iload 4, 2) (pgm 15 rfl)) rfl ?_
  refine so_iconst (v := (2 : Int32)) X (dkL_law_24 (2062, .iconst 2, 1) (pgm 16 rfl)) ic_2 ?_
  refine so_iadd X (dkL_law_24 (2063, .iadd, 1) (pgm 17 rfl)) ?_
  refine so_sld X hSc hSb hSA (dkL_law_24 (2064, .iaload, 1) (pgm 18 rfl)) (fun x370 => ?_)
  refine so_callV (n := 2) (As := [.int x369, .int x370]) X (ct_X12_season l 152 x369 x370 h367 km0) km0 (by decide) rfl lk_2224 lk_2225 lk_2226 lk_134 lk_2227 (by decide +kernel) rfl rfl rfl ⟨Nat.le_of_ble_eq_true rfl, Nat.le_of_ble_eq_true rfl⟩ ⟨by omega, by omega⟩ (Nat.le_of_ble_eq_true rfl) (dkL_law_24 (2065, .invokevirtual 252, 3) (pgm 19 rfl)) (fun r371 h372 => ?_) rfl
  refine so_istore (i := 6) X (dkL_law_24 (2068, .istore 6, 2) (pgm 20 rfl)) (by decide) (Lf := fun x373 => [(6, .int x373), (5, .int x368), (0, .ref 197), (1, .ref 0), (2, .ref 152), (3, .ref NC), (4, .int i)]) (fun _ => rfl) (fun x373 => ?_)
  refine so_aload_n (i := 2) X 4 (dkL_law_24 (2070, .aload_n 2, 1) (pgm 21 rfl)) rfl rfl ?_
  refine so_callV (n := 0) (As := []) X (ct_X12_thrown l 152 h372 km0) km0 (by decide) rfl lk_1820 lk_1821 lk_1822 lk_134 lk_1823 (by decide +kernel) rfl rfl rfl ⟨Nat.le_of_ble_eq_true rfl, Nat.le_of_ble_eq_true rfl⟩ ⟨by omega, by omega⟩ (Nat.le_of_ble_eq_true rfl) (dkL_law_24 (2071, .invokevirtual 144, 3) (pgm 22 rfl)) (fun r374 h375 => ?_) rfl
  refine so_iload (i := 5) X 1 (dkL_law_24 (2074, .iload 5, 2) (pgm 23 rfl)) rfl ?_
  refine so_icmp_eq (tgt := 2081) X (dkL_law_24 (2076, .if_icmp .eq 5, 3) (pgm 24 rfl)) rfl (fun _ => ?_) (fun _ => ?_)
  · refine so_iload (i := 5) X 1 (dkL_law_24 (2081, .iload 5, 2) (pgm 27 rfl)) rfl ?_
    refine so_join (jf := fun (h376 : PH) => j2584 h376) (fun (j : PH → Option (Int32 × PH)) => ∀  (h376 : PH), SWo (QL below args s) p l e room_1 s m args below meth c (cells + 3) (slots + 18) 8 D cA ad A 2098 [(0, .ref 197), (1, .ref 0), (2, .ref 152), (3, .ref NC), (4, .int i)] [] h376 (j h376)) ?_ (fun j2098 hj2098 => ?_)
    · intro h376
      refine so_goto (tgt := 2584) X (dkL_law_24 (2098, .goto 486, 3) (pgm 38 rfl)) rfl ?_
      exact so_pick X [0, 1, 2, 3, 4] rfl (hj2584 h376)
    refine so_if_ne (tgt := 2098) X (dkL_law_24 (2083, .ifCond .ne 15, 3) (pgm 28 rfl)) rfl (fun _ => ?_) (fun _ => ?_)
    · exact so_pick X [2, 3, 4, 5, 6] rfl (hj2098 h375)
    · refine so_aload_n (i := 3) X 5 (dkL_law_24 (2086, .aload_n 3, 1) (pgm 29 rfl)) rfl rfl ?_
      refine so_iconst (v := (0 : Int32)) X (dkL_law_24 (2087, .iconst 0, 1) (pgm 30 rfl)) ic_0 ?_
      refine so_outLd X hnc (dkL_law_24 (2088, .laload, 1) (pgm 31 rfl)) ?_
      refine so_iload (i := 6) X 0 (dkL_law_24 (2089, .iload 6, 2) (pgm 32 rfl)) rfl ?_
      refine so_i2l X (dkL_law_24 (2091, .i2l, 1) (pgm 33 rfl)) ?_
      refine so_lcmp X (dkL_law_24 (2092, .lcmp, 1) (pgm 34 rfl)) ?_
      refine so_if_eq (tgt := 2098) X (dkL_law_24 (2093, .ifCond .eq 5, 3) (pgm 35 rfl)) rfl (fun _ => ?_) (fun _ => ?_)
      · exact so_pick X [2, 3, 4, 5, 6] rfl (hj2098 h375)
      · refine so_iconst (v := (0 : Int32)) X (dkL_law_24 (2096, .iconst 0, 1) (pgm 36 rfl)) ic_0 ?_
        exact so_lawret X hargs rfl hAs hr hlk (by omega) (by omega) (dkL_law_24 (2097, .ireturn, 1) (pgm 37 rfl))
  · refine so_iconst (v := (0 : Int32)) X (dkL_law_24 (2079, .iconst 0, 1) (pgm 25 rfl)) ic_0 ?_
    exact so_lawret X hargs rfl hAs hr hlk (by omega) (by omega) (dkL_law_24 (2080, .ireturn, 1) (pgm 26 rfl))
def br_34 (xs : Nat → Int32) (L : Nat) (i : Int32) (hb : PH) (j2584 : PH → Option (Int32 × PH)) : Option (Int32 × PH) :=
  ldX xs L (i + (1 : Int32)) (fun (x377 : Int32) => ldX xs L (i + (2 : Int32)) (fun (x378 : Int32) => ldX xs L (i + (3 : Int32)) (fun (x379 : Int32) => cb (f_L_holding x377 x378 x379 hb) (fun (r380 : Int32) (h381 : PH) => lt r380 (fun (x382 : Int32) => ldX xs L (i + (1 : Int32)) (fun (x383 : Int32) => ldX xs L (i + (2 : Int32)) (fun (x384 : Int32) => ldX xs L (i + (3 : Int32)) (fun (x385 : Int32) => cb (f_X12_holding 152 x383 x384 x385 h381) (fun (r386 : Int64) (h387 : PH) => lt r386 (fun (x388 : Int64) => cb (f_X12_thrown 152 h387) (fun (r389 : Int32) (h390 : PH) => if r389 = x382 then (lt (fun (h391 : PH) => j2584 h391) (fun (j2177 : PH → Option (Int32 × PH)) => if x382 = 0 then (if (lg_cmp (h390.2 NC 0) x388) = 0 then (j2177 h390) else (some ((0 : Int32), h390))) else (j2177 h390))) else (some ((0 : Int32), h390)))))))))))))
set_option maxRecDepth 100000 in
set_option maxHeartbeats 4000000 in
theorem lb_34 {p : Program} {l : Launch} {e : Env} {s : State} {m : MethodId} {args : Array Value} {below : List Frame} {meth : Method} {c : Code} {D : va_G} {cA : Nat → ClassId} {ad : Nat → Nat} {A : Nat → Prop} {L : Nat} {xs : Nat → Int32} (hlt : l.stackTraces = false) (X : Cx p s m args c RL cL_law 8 D cA ad A) (hnc : nc cA = NC + 1) (hargs : ∃ b0 : Nat, args = #[Value.ref b0]) (hAs : ∀ q, A q → s.heap.size ≤ q) (hr : meth.sig.returnType = ret) (hlk : meth.locks = false) (hSc : va_X (ad 197) L xs s s.heap) (hSb : ad 197 < s.heap.size) (hSA : ¬ A (ad 197)) (cells slots : Nat) (hC : cells + 3 ≤ room_1.cells) (hS : slots + 18 ≤ room_1.slots) (i : Int32) (hb : PH) (j2584 : PH → Option (Int32 × PH)) (hj2584 : ∀ (h2 : PH), SWo (QL below args s) p l e room_1 s m args below meth c (cells + 3) (slots + 18) 8 D cA ad A 2584 [(0, .ref 197), (1, .ref 0), (2, .ref 152), (3, .ref NC), (4, .int i)] [] h2 (j2584 h2)) : SWo (QL below args s) p l e room_1 s m args below meth c cells slots 8 D cA ad A 2101 [(0, .ref 197), (1, .ref 0), (2, .ref 152), (3, .ref NC), (4, .int i)] [] hb (br_34 xs L i hb j2584) := by
  have hroom1 : room_1.cells = 601024 := rfl
  have hroom2 : room_1.slots = 7293034 := rfl
  unfold br_34
  refine so_aload_n (i := 1) X 1 (dkL_law_24 (2101, .aload_n 1, 1) (pgm 39 rfl)) rfl rfl ?_
  refine so_aload_n (i := 0) X 0 (dkL_law_24 (2102, .aload_n 0, 1) (pgm 40 rfl)) rfl rfl ?_
  refine so_iload (i := 4) X 4 (dkL_law_24 (2103, .iload 4, 2) (pgm 41 rfl)) rfl ?_
  refine so_iconst (v := (1 : Int32)) X (dkL_law_24 (2105, .iconst 1, 1) (pgm 42 rfl)) ic_1 ?_
  refine so_iadd X (dkL_law_24 (2106, .iadd, 1) (pgm 43 rfl)) ?_
  refine so_sld X hSc hSb hSA (dkL_law_24 (2107, .iaload, 1) (pgm 44 rfl)) (fun x377 => ?_)
  refine so_aload_n (i := 0) X 0 (dkL_law_24 (2108, .aload_n 0, 1) (pgm 45 rfl)) rfl rfl ?_
  refine so_iload (i := 4) X 4 (dkL_law_24 (2109, .iload 4, 2) (pgm 46 rfl)) rfl ?_
  refine so_iconst (v := (2 : Int32)) X (dkL_law_24 (2111, .iconst 2, 1) (pgm 47 rfl)) ic_2 ?_
  refine so_iadd X (dkL_law_24 (2112, .iadd, 1) (pgm 48 rfl)) ?_
  refine so_sld X hSc hSb hSA (dkL_law_24 (2113, .iaload, 1) (pgm 49 rfl)) (fun x378 => ?_)
  refine so_aload_n (i := 0) X 0 (dkL_law_25 (2114, .aload_n 0, 1) (pgm 0 rfl)) rfl rfl ?_
  refine so_iload (i := 4) X 4 (dkL_law_25 (2115, .iload 4, 2) (pgm 1 rfl)) rfl ?_
  refine so_iconst (v := (3 : Int32)) X (dkL_law_25 (2117, .iconst 3, 1) (pgm 2 rfl)) ic_3 ?_
  refine so_iadd X (dkL_law_25 (2118, .iadd, 1) (pgm 3 rfl)) ?_
  refine so_sld X hSc hSb hSA (dkL_law_25 (2119, .iaload, 1) (pgm 4 rfl)) (fun x379 => ?_)
  refine so_aload_n (i := 3) X 3 (dkL_law_25 (2120, .aload_n 3, 1) (pgm 5 rfl)) rfl rfl ?_
  refine so_callW (n := 5) (As := [.ref 0, .int x377, .int x378, .int x379, .ref NC]) X hnc (ct_L_holding l hlt x377 x378 x379 hb) lk_1534 lk_1535 lk_120 lk_1536 (by decide +kernel) rfl rfl rfl ⟨Nat.le_of_ble_eq_true rfl, Nat.le_of_ble_eq_true rfl⟩ ⟨hC, hS⟩ (by decide) (dkL_law_25 (2121, .invokestatic 253, 3) (pgm 6 rfl)) (fun r380 h381 => ?_) rfl
  refine so_istore (i := 5) X (dkL_law_25 (2124, .istore 5, 2) (pgm 7 rfl)) (by decide) (Lf := fun x382 => [(5, .int x382), (0, .ref 197), (1, .ref 0), (2, .ref 152), (3, .ref NC), (4, .int i)]) (fun _ => rfl) (fun x382 => ?_)
  refine so_aload_n (i := 2) X 3 (dkL_law_25 (2126, .aload_n 2, 1) (pgm 8 rfl)) rfl rfl ?_
  refine so_aload_n (i := 0) X 1 (dkL_law_25 (2127, .aload_n 0, 1) (pgm 9 rfl)) rfl rfl ?_
  refine so_iload (i := 4) X 5 (dkL_law_25 (2128, .iload 4, 2) (pgm 10 rfl)) rfl ?_
  refine so_iconst (v := (1 : Int32)) X (dkL_law_25 (2130, .iconst 1, 1) (pgm 11 rfl)) ic_1 ?_
  refine so_iadd X (dkL_law_25 (2131, .iadd, 1) (pgm 12 rfl)) ?_
  refine so_sld X hSc hSb hSA (dkL_law_25 (2132, .iaload, 1) (pgm 13 rfl)) (fun x383 => ?_)
  refine so_aload_n (i := 0) X 1 (dkL_law_25 (2133, .aload_n 0, 1) (pgm 14 rfl)) rfl rfl ?_
  refine so_iload (i := 4) X 5 (dkL_law_25 (2134, .iload 4, 2) (pgm 15 rfl)) rfl ?_
  refine so_iconst (v := (2 : Int32)) X (dkL_law_25 (2136, .iconst 2, 1) (pgm 16 rfl)) ic_2 ?_
  refine so_iadd X (dkL_law_25 (2137, .iadd, 1) (pgm 17 rfl)) ?_
  refine so_sld X hSc hSb hSA (dkL_law_25 (2138, .iaload, 1) (pgm 18 rfl)) (fun x384 => ?_)
  refine so_aload_n (i := 0) X 1 (dkL_law_25 (2139, .aload_n 0, 1) (pgm 19 rfl)) rfl rfl ?_
  refine so_iload (i := 4) X 5 (dkL_law_25 (2140, .iload 4, 2) (pgm 20 rfl)) rfl ?_
  refine so_iconst (v := (3 : Int32)) X (dkL_law_25 (2142, .iconst 3, 1) (pgm 21 rfl)) ic_3 ?_
  refine so_iadd X (dkL_law_25 (2143, .iadd, 1) (pgm 22 rfl)) ?_
  refine so_sld X hSc hSb hSA (dkL_law_25 (2144, .iaload, 1) (pgm 23 rfl)) (fun x385 => ?_)
  refine so_callV (n := 3) (As := [.int x383, .int x384, .int x385]) X (ct_X12_holding l 152 x383 x384 x385 h381 km0) km0 (by decide) rfl lk_2234 lk_2235 lk_2236 lk_134 lk_2237 (by decide +kernel) rfl rfl rfl ⟨Nat.le_of_ble_eq_true rfl, Nat.le_of_ble_eq_true rfl⟩ ⟨by omega, by omega⟩ (Nat.le_of_ble_eq_true rfl) (dkL_law_25 (2145, .invokevirtual 255, 3) (pgm 24 rfl)) (fun r386 h387 => ?_) rfl
  refine so_lstore (i := 6) X (dkL_law_25 (2148, .lstore 6, 2) (pgm 25 rfl)) (by decide) (Lf := fun x388 => [(6, .long x388), (5, .int x382), (0, .ref 197), (1, .ref 0), (2, .ref 152), (3, .ref NC), (4, .int i)]) (fun _ => rfl) (fun x388 => ?_)
  refine so_aload_n (i := 2) X 4 (dkL_law_25 (2150, .aload_n 2, 1) (pgm 26 rfl)) rfl rfl ?_
  refine so_callV (n := 0) (As := []) X (ct_X12_thrown l 152 h387 km0) km0 (by decide) rfl lk_1820 lk_1821 lk_1822 lk_134 lk_1823 (by decide +kernel) rfl rfl rfl ⟨Nat.le_of_ble_eq_true rfl, Nat.le_of_ble_eq_true rfl⟩ ⟨by omega, by omega⟩ (Nat.le_of_ble_eq_true rfl) (dkL_law_25 (2151, .invokevirtual 144, 3) (pgm 27 rfl)) (fun r389 h390 => ?_) rfl
  refine so_iload (i := 5) X 1 (dkL_law_25 (2154, .iload 5, 2) (pgm 28 rfl)) rfl ?_
  refine so_icmp_eq (tgt := 2161) X (dkL_law_25 (2156, .if_icmp .eq 5, 3) (pgm 29 rfl)) rfl (fun _ => ?_) (fun _ => ?_)
  · refine so_iload (i := 5) X 1 (dkL_law_25 (2161, .iload 5, 2) (pgm 32 rfl)) rfl ?_
    refine so_join (jf := fun (h391 : PH) => j2584 h391) (fun (j : PH → Option (Int32 × PH)) => ∀  (h391 : PH), SWo (QL below args s) p l e room_1 s m args below meth c (cells + 3) (slots + 18) 8 D cA ad A 2177 [(0, .ref 197), (1, .ref 0), (2, .ref 152), (3, .ref NC), (4, .int i)] [] h391 (j h391)) ?_ (fun j2177 hj2177 => ?_)
    · intro h391
      refine so_goto (tgt := 2584) X (dkL_law_25 (2177, .goto 407, 3) (pgm 42 rfl)) rfl ?_
      exact so_pick X [0, 1, 2, 3, 4] rfl (hj2584 h391)
    refine so_if_ne (tgt := 2177) X (dkL_law_25 (2163, .ifCond .ne 14, 3) (pgm 33 rfl)) rfl (fun _ => ?_) (fun _ => ?_)
    · exact so_pick X [2, 3, 4, 5, 6] rfl (hj2177 h390)
    · refine so_aload_n (i := 3) X 5 (dkL_law_25 (2166, .aload_n 3, 1) (pgm 34 rfl)) rfl rfl ?_
      refine so_iconst (v := (0 : Int32)) X (dkL_law_25 (2167, .iconst 0, 1) (pgm 35 rfl)) ic_0 ?_
      refine so_outLd X hnc (dkL_law_25 (2168, .laload, 1) (pgm 36 rfl)) ?_
      refine so_lload (i := 6) X 0 (dkL_law_25 (2169, .lload 6, 2) (pgm 37 rfl)) rfl ?_
      refine so_lcmp X (dkL_law_25 (2171, .lcmp, 1) (pgm 38 rfl)) ?_
      refine so_if_eq (tgt := 2177) X (dkL_law_25 (2172, .ifCond .eq 5, 3) (pgm 39 rfl)) rfl (fun _ => ?_) (fun _ => ?_)
      · exact so_pick X [2, 3, 4, 5, 6] rfl (hj2177 h390)
      · refine so_iconst (v := (0 : Int32)) X (dkL_law_25 (2175, .iconst 0, 1) (pgm 40 rfl)) ic_0 ?_
        exact so_lawret X hargs rfl hAs hr hlk (by omega) (by omega) (dkL_law_25 (2176, .ireturn, 1) (pgm 41 rfl))
  · refine so_iconst (v := (0 : Int32)) X (dkL_law_25 (2159, .iconst 0, 1) (pgm 30 rfl)) ic_0 ?_
    exact so_lawret X hargs rfl hAs hr hlk (by omega) (by omega) (dkL_law_25 (2160, .ireturn, 1) (pgm 31 rfl))
def br_35 (xs : Nat → Int32) (L : Nat) (i : Int32) (hb : PH) (j2584 : PH → Option (Int32 × PH)) : Option (Int32 × PH) :=
  ldX xs L (i + (1 : Int32)) (fun (x392 : Int32) => ldX xs L (i + (2 : Int32)) (fun (x393 : Int32) => ldX xs L (i + (3 : Int32)) (fun (x394 : Int32) => cb (f_L_grants x392 x393 x394 hb) (fun (r395 : Int32) (h396 : PH) => lt r395 (fun (x397 : Int32) => ldX xs L (i + (1 : Int32)) (fun (x398 : Int32) => ldX xs L (i + (2 : Int32)) (fun (x399 : Int32) => ldX xs L (i + (3 : Int32)) (fun (x400 : Int32) => cb (f_X12_grants 152 x398 x399 x400 h396) (fun (r401 : Int32) (h402 : PH) => lt r401 (fun (x403 : Int32) => cb (f_X12_thrown 152 h402) (fun (r404 : Int32) (h405 : PH) => if r404 = x397 then (lt (fun (h406 : PH) => j2584 h406) (fun (j2257 : PH → Option (Int32 × PH)) => if x397 = 0 then (if (lg_cmp (h405.2 NC 0) x403.toInt64) = 0 then (j2257 h405) else (some ((0 : Int32), h405))) else (j2257 h405))) else (some ((0 : Int32), h405)))))))))))))
set_option maxRecDepth 100000 in
set_option maxHeartbeats 4000000 in
theorem lb_35 {p : Program} {l : Launch} {e : Env} {s : State} {m : MethodId} {args : Array Value} {below : List Frame} {meth : Method} {c : Code} {D : va_G} {cA : Nat → ClassId} {ad : Nat → Nat} {A : Nat → Prop} {L : Nat} {xs : Nat → Int32} (hlt : l.stackTraces = false) (X : Cx p s m args c RL cL_law 8 D cA ad A) (hnc : nc cA = NC + 1) (hargs : ∃ b0 : Nat, args = #[Value.ref b0]) (hAs : ∀ q, A q → s.heap.size ≤ q) (hr : meth.sig.returnType = ret) (hlk : meth.locks = false) (hSc : va_X (ad 197) L xs s s.heap) (hSb : ad 197 < s.heap.size) (hSA : ¬ A (ad 197)) (cells slots : Nat) (hC : cells + 3 ≤ room_1.cells) (hS : slots + 18 ≤ room_1.slots) (i : Int32) (hb : PH) (j2584 : PH → Option (Int32 × PH)) (hj2584 : ∀ (h2 : PH), SWo (QL below args s) p l e room_1 s m args below meth c (cells + 3) (slots + 18) 8 D cA ad A 2584 [(0, .ref 197), (1, .ref 0), (2, .ref 152), (3, .ref NC), (4, .int i)] [] h2 (j2584 h2)) : SWo (QL below args s) p l e room_1 s m args below meth c cells slots 8 D cA ad A 2180 [(0, .ref 197), (1, .ref 0), (2, .ref 152), (3, .ref NC), (4, .int i)] [] hb (br_35 xs L i hb j2584) := by
  have hroom1 : room_1.cells = 601024 := rfl
  have hroom2 : room_1.slots = 7293034 := rfl
  unfold br_35
  refine so_aload_n (i := 1) X 1 (dkL_law_25 (2180, .aload_n 1, 1) (pgm 43 rfl)) rfl rfl ?_
  refine so_aload_n (i := 0) X 0 (dkL_law_25 (2181, .aload_n 0, 1) (pgm 44 rfl)) rfl rfl ?_
  refine so_iload (i := 4) X 4 (dkL_law_25 (2182, .iload 4, 2) (pgm 45 rfl)) rfl ?_
  refine so_iconst (v := (1 : Int32)) X (dkL_law_25 (2184, .iconst 1, 1) (pgm 46 rfl)) ic_1 ?_
  refine so_iadd X (dkL_law_25 (2185, .iadd, 1) (pgm 47 rfl)) ?_
  refine so_sld X hSc hSb hSA (dkL_law_25 (2186, .iaload, 1) (pgm 48 rfl)) (fun x392 => ?_)
  refine so_aload_n (i := 0) X 0 (dkL_law_25 (2187, .aload_n 0, 1) (pgm 49 rfl)) rfl rfl ?_
  refine so_iload (i := 4) X 4 (dkL_law_26 (2188, .iload 4, 2) (pgm 0 rfl)) rfl ?_
  refine so_iconst (v := (2 : Int32)) X (dkL_law_26 (2190, .iconst 2, 1) (pgm 1 rfl)) ic_2 ?_
  refine so_iadd X (dkL_law_26 (2191, .iadd, 1) (pgm 2 rfl)) ?_
  refine so_sld X hSc hSb hSA (dkL_law_26 (2192, .iaload, 1) (pgm 3 rfl)) (fun x393 => ?_)
  refine so_aload_n (i := 0) X 0 (dkL_law_26 (2193, .aload_n 0, 1) (pgm 4 rfl)) rfl rfl ?_
  refine so_iload (i := 4) X 4 (dkL_law_26 (2194, .iload 4, 2) (pgm 5 rfl)) rfl ?_
  refine so_iconst (v := (3 : Int32)) X (dkL_law_26 (2196, .iconst 3, 1) (pgm 6 rfl)) ic_3 ?_
  refine so_iadd X (dkL_law_26 (2197, .iadd, 1) (pgm 7 rfl)) ?_
  refine so_sld X hSc hSb hSA (dkL_law_26 (2198, .iaload, 1) (pgm 8 rfl)) (fun x394 => ?_)
  refine so_aload_n (i := 3) X 3 (dkL_law_26 (2199, .aload_n 3, 1) (pgm 9 rfl)) rfl rfl ?_
  refine so_callW (n := 5) (As := [.ref 0, .int x392, .int x393, .int x394, .ref NC]) X hnc (ct_L_grants l hlt x392 x393 x394 hb) lk_1567 lk_1568 lk_120 lk_1569 (by decide +kernel) rfl rfl rfl ⟨Nat.le_of_ble_eq_true rfl, Nat.le_of_ble_eq_true rfl⟩ ⟨hC, hS⟩ (by decide) (dkL_law_26 (2200, .invokestatic 256, 3) (pgm 10 rfl)) (fun r395 h396 => ?_) rfl
  refine so_istore (i := 5) X (dkL_law_26 (2203, .istore 5, 2) (pgm 11 rfl)) (by decide) (Lf := fun x397 => [(5, .int x397), (0, .ref 197), (1, .ref 0), (2, .ref 152), (3, .ref NC), (4, .int i)]) (fun _ => rfl) (fun x397 => ?_)
  refine so_aload_n (i := 2) X 3 (dkL_law_26 (2205, .aload_n 2, 1) (pgm 12 rfl)) rfl rfl ?_
  refine so_aload_n (i := 0) X 1 (dkL_law_26 (2206, .aload_n 0, 1) (pgm 13 rfl)) rfl rfl ?_
  refine so_iload (i := 4) X 5 (dkL_law_26 (2207, .iload 4, 2) (pgm 14 rfl)) rfl ?_
  refine so_iconst (v := (1 : Int32)) X (dkL_law_26 (2209, .iconst 1, 1) (pgm 15 rfl)) ic_1 ?_
  refine so_iadd X (dkL_law_26 (2210, .iadd, 1) (pgm 16 rfl)) ?_
  refine so_sld X hSc hSb hSA (dkL_law_26 (2211, .iaload, 1) (pgm 17 rfl)) (fun x398 => ?_)
  refine so_aload_n (i := 0) X 1 (dkL_law_26 (2212, .aload_n 0, 1) (pgm 18 rfl)) rfl rfl ?_
  refine so_iload (i := 4) X 5 (dkL_law_26 (2213, .iload 4, 2) (pgm 19 rfl)) rfl ?_
  refine so_iconst (v := (2 : Int32)) X (dkL_law_26 (2215, .iconst 2, 1) (pgm 20 rfl)) ic_2 ?_
  refine so_iadd X (dkL_law_26 (2216, .iadd, 1) (pgm 21 rfl)) ?_
  refine so_sld X hSc hSb hSA (dkL_law_26 (2217, .iaload, 1) (pgm 22 rfl)) (fun x399 => ?_)
  refine so_aload_n (i := 0) X 1 (dkL_law_26 (2218, .aload_n 0, 1) (pgm 23 rfl)) rfl rfl ?_
  refine so_iload (i := 4) X 5 (dkL_law_26 (2219, .iload 4, 2) (pgm 24 rfl)) rfl ?_
  refine so_iconst (v := (3 : Int32)) X (dkL_law_26 (2221, .iconst 3, 1) (pgm 25 rfl)) ic_3 ?_
  refine so_iadd X (dkL_law_26 (2222, .iadd, 1) (pgm 26 rfl)) ?_
  refine so_sld X hSc hSb hSA (dkL_law_26 (2223, .iaload, 1) (pgm 27 rfl)) (fun x400 => ?_)
  refine so_callV (n := 3) (As := [.int x398, .int x399, .int x400]) X (ct_X12_grants l 152 x398 x399 x400 h396 km0) km0 (by decide) rfl lk_2251 lk_2252 lk_2253 lk_134 lk_2254 (by decide +kernel) rfl rfl rfl ⟨Nat.le_of_ble_eq_true rfl, Nat.le_of_ble_eq_true rfl⟩ ⟨by omega, by omega⟩ (Nat.le_of_ble_eq_true rfl) (dkL_law_26 (2224, .invokevirtual 258, 3) (pgm 28 rfl)) (fun r401 h402 => ?_) rfl
  refine so_istore (i := 6) X (dkL_law_26 (2227, .istore 6, 2) (pgm 29 rfl)) (by decide) (Lf := fun x403 => [(6, .int x403), (5, .int x397), (0, .ref 197), (1, .ref 0), (2, .ref 152), (3, .ref NC), (4, .int i)]) (fun _ => rfl) (fun x403 => ?_)
  refine so_aload_n (i := 2) X 4 (dkL_law_26 (2229, .aload_n 2, 1) (pgm 30 rfl)) rfl rfl ?_
  refine so_callV (n := 0) (As := []) X (ct_X12_thrown l 152 h402 km0) km0 (by decide) rfl lk_1820 lk_1821 lk_1822 lk_134 lk_1823 (by decide +kernel) rfl rfl rfl ⟨Nat.le_of_ble_eq_true rfl, Nat.le_of_ble_eq_true rfl⟩ ⟨by omega, by omega⟩ (Nat.le_of_ble_eq_true rfl) (dkL_law_26 (2230, .invokevirtual 144, 3) (pgm 31 rfl)) (fun r404 h405 => ?_) rfl
  refine so_iload (i := 5) X 1 (dkL_law_26 (2233, .iload 5, 2) (pgm 32 rfl)) rfl ?_
  refine so_icmp_eq (tgt := 2240) X (dkL_law_26 (2235, .if_icmp .eq 5, 3) (pgm 33 rfl)) rfl (fun _ => ?_) (fun _ => ?_)
  · refine so_iload (i := 5) X 1 (dkL_law_26 (2240, .iload 5, 2) (pgm 36 rfl)) rfl ?_
    refine so_join (jf := fun (h406 : PH) => j2584 h406) (fun (j : PH → Option (Int32 × PH)) => ∀  (h406 : PH), SWo (QL below args s) p l e room_1 s m args below meth c (cells + 3) (slots + 18) 8 D cA ad A 2257 [(0, .ref 197), (1, .ref 0), (2, .ref 152), (3, .ref NC), (4, .int i)] [] h406 (j h406)) ?_ (fun j2257 hj2257 => ?_)
    · intro h406
      refine so_goto (tgt := 2584) X (dkL_law_26 (2257, .goto 327, 3) (pgm 47 rfl)) rfl ?_
      exact so_pick X [0, 1, 2, 3, 4] rfl (hj2584 h406)
    refine so_if_ne (tgt := 2257) X (dkL_law_26 (2242, .ifCond .ne 15, 3) (pgm 37 rfl)) rfl (fun _ => ?_) (fun _ => ?_)
    · exact so_pick X [2, 3, 4, 5, 6] rfl (hj2257 h405)
    · refine so_aload_n (i := 3) X 5 (dkL_law_26 (2245, .aload_n 3, 1) (pgm 38 rfl)) rfl rfl ?_
      refine so_iconst (v := (0 : Int32)) X (dkL_law_26 (2246, .iconst 0, 1) (pgm 39 rfl)) ic_0 ?_
      refine so_outLd X hnc (dkL_law_26 (2247, .laload, 1) (pgm 40 rfl)) ?_
      refine so_iload (i := 6) X 0 (dkL_law_26 (2248, .iload 6, 2) (pgm 41 rfl)) rfl ?_
      refine so_i2l X (dkL_law_26 (2250, .i2l, 1) (pgm 42 rfl)) ?_
      refine so_lcmp X (dkL_law_26 (2251, .lcmp, 1) (pgm 43 rfl)) ?_
      refine so_if_eq (tgt := 2257) X (dkL_law_26 (2252, .ifCond .eq 5, 3) (pgm 44 rfl)) rfl (fun _ => ?_) (fun _ => ?_)
      · exact so_pick X [2, 3, 4, 5, 6] rfl (hj2257 h405)
      · refine so_iconst (v := (0 : Int32)) X (dkL_law_26 (2255, .iconst 0, 1) (pgm 45 rfl)) ic_0 ?_
        exact so_lawret X hargs rfl hAs hr hlk (by omega) (by omega) (dkL_law_26 (2256, .ireturn, 1) (pgm 46 rfl))
  · refine so_iconst (v := (0 : Int32)) X (dkL_law_26 (2238, .iconst 0, 1) (pgm 34 rfl)) ic_0 ?_
    exact so_lawret X hargs rfl hAs hr hlk (by omega) (by omega) (dkL_law_26 (2239, .ireturn, 1) (pgm 35 rfl))
def br_36 (xs : Nat → Int32) (L : Nat) (i : Int32) (hb : PH) (j2584 : PH → Option (Int32 × PH)) : Option (Int32 × PH) :=
  ldX xs L (i + (1 : Int32)) (fun (x407 : Int32) => ldX xs L (i + (2 : Int32)) (fun (x408 : Int32) => ldX xs L (i + (3 : Int32)) (fun (x409 : Int32) => cb (f_L_tray x407 x408 x409 hb) (fun (r410 : Int32) (h411 : PH) => lt r410 (fun (x412 : Int32) => ldX xs L (i + (1 : Int32)) (fun (x413 : Int32) => ldX xs L (i + (2 : Int32)) (fun (x414 : Int32) => ldX xs L (i + (3 : Int32)) (fun (x415 : Int32) => cb (f_X12_tray 152 x413 x414 x415 h411) (fun (r416 : Unit) (h417 : PH) => cb (f_X12_thrown 152 h417) (fun (r418 : Int32) (h419 : PH) => if r418 = x412 then (j2584 h419) else (some ((0 : Int32), h419))))))))))))
set_option maxRecDepth 100000 in
set_option maxHeartbeats 4000000 in
theorem lb_36 {p : Program} {l : Launch} {e : Env} {s : State} {m : MethodId} {args : Array Value} {below : List Frame} {meth : Method} {c : Code} {D : va_G} {cA : Nat → ClassId} {ad : Nat → Nat} {A : Nat → Prop} {L : Nat} {xs : Nat → Int32} (hlt : l.stackTraces = false) (X : Cx p s m args c RL cL_law 8 D cA ad A) (hnc : nc cA = NC + 1) (hargs : ∃ b0 : Nat, args = #[Value.ref b0]) (hAs : ∀ q, A q → s.heap.size ≤ q) (hr : meth.sig.returnType = ret) (hlk : meth.locks = false) (hSc : va_X (ad 197) L xs s s.heap) (hSb : ad 197 < s.heap.size) (hSA : ¬ A (ad 197)) (cells slots : Nat) (hC : cells + 3 ≤ room_1.cells) (hS : slots + 18 ≤ room_1.slots) (i : Int32) (hb : PH) (j2584 : PH → Option (Int32 × PH)) (hj2584 : ∀ (h2 : PH), SWo (QL below args s) p l e room_1 s m args below meth c (cells + 3) (slots + 18) 8 D cA ad A 2584 [(0, .ref 197), (1, .ref 0), (2, .ref 152), (3, .ref NC), (4, .int i)] [] h2 (j2584 h2)) : SWo (QL below args s) p l e room_1 s m args below meth c cells slots 8 D cA ad A 2260 [(0, .ref 197), (1, .ref 0), (2, .ref 152), (3, .ref NC), (4, .int i)] [] hb (br_36 xs L i hb j2584) := by
  have hroom1 : room_1.cells = 601024 := rfl
  have hroom2 : room_1.slots = 7293034 := rfl
  unfold br_36
  refine so_aload_n (i := 1) X 1 (dkL_law_26 (2260, .aload_n 1, 1) (pgm 48 rfl)) rfl rfl ?_
  refine so_aload_n (i := 0) X 0 (dkL_law_26 (2261, .aload_n 0, 1) (pgm 49 rfl)) rfl rfl ?_
  refine so_iload (i := 4) X 4 (dkL_law_27 (2262, .iload 4, 2) (pgm 0 rfl)) rfl ?_
  refine so_iconst (v := (1 : Int32)) X (dkL_law_27 (2264, .iconst 1, 1) (pgm 1 rfl)) ic_1 ?_
  refine so_iadd X (dkL_law_27 (2265, .iadd, 1) (pgm 2 rfl)) ?_
  refine so_sld X hSc hSb hSA (dkL_law_27 (2266, .iaload, 1) (pgm 3 rfl)) (fun x407 => ?_)
  refine so_aload_n (i := 0) X 0 (dkL_law_27 (2267, .aload_n 0, 1) (pgm 4 rfl)) rfl rfl ?_
  refine so_iload (i := 4) X 4 (dkL_law_27 (2268, .iload 4, 2) (pgm 5 rfl)) rfl ?_
  refine so_iconst (v := (2 : Int32)) X (dkL_law_27 (2270, .iconst 2, 1) (pgm 6 rfl)) ic_2 ?_
  refine so_iadd X (dkL_law_27 (2271, .iadd, 1) (pgm 7 rfl)) ?_
  refine so_sld X hSc hSb hSA (dkL_law_27 (2272, .iaload, 1) (pgm 8 rfl)) (fun x408 => ?_)
  refine so_aload_n (i := 0) X 0 (dkL_law_27 (2273, .aload_n 0, 1) (pgm 9 rfl)) rfl rfl ?_
  refine so_iload (i := 4) X 4 (dkL_law_27 (2274, .iload 4, 2) (pgm 10 rfl)) rfl ?_
  refine so_iconst (v := (3 : Int32)) X (dkL_law_27 (2276, .iconst 3, 1) (pgm 11 rfl)) ic_3 ?_
  refine so_iadd X (dkL_law_27 (2277, .iadd, 1) (pgm 12 rfl)) ?_
  refine so_sld X hSc hSb hSA (dkL_law_27 (2278, .iaload, 1) (pgm 13 rfl)) (fun x409 => ?_)
  refine so_callW (n := 4) (As := [.ref 0, .int x407, .int x408, .int x409]) X hnc (ct_L_tray l hlt x407 x408 x409 hb) lk_1578 lk_1579 lk_120 lk_1580 (by decide +kernel) rfl rfl rfl ⟨Nat.le_of_ble_eq_true rfl, Nat.le_of_ble_eq_true rfl⟩ ⟨hC, hS⟩ (by decide) (dkL_law_27 (2279, .invokestatic 259, 3) (pgm 14 rfl)) (fun r410 h411 => ?_) rfl
  refine so_istore (i := 5) X (dkL_law_27 (2282, .istore 5, 2) (pgm 15 rfl)) (by decide) (Lf := fun x412 => [(5, .int x412), (0, .ref 197), (1, .ref 0), (2, .ref 152), (3, .ref NC), (4, .int i)]) (fun _ => rfl) (fun x412 => ?_)
  refine so_aload_n (i := 2) X 3 (dkL_law_27 (2284, .aload_n 2, 1) (pgm 16 rfl)) rfl rfl ?_
  refine so_aload_n (i := 0) X 1 (dkL_law_27 (2285, .aload_n 0, 1) (pgm 17 rfl)) rfl rfl ?_
  refine so_iload (i := 4) X 5 (dkL_law_27 (2286, .iload 4, 2) (pgm 18 rfl)) rfl ?_
  refine so_iconst (v := (1 : Int32)) X (dkL_law_27 (2288, .iconst 1, 1) (pgm 19 rfl)) ic_1 ?_
  refine so_iadd X (dkL_law_27 (2289, .iadd, 1) (pgm 20 rfl)) ?_
  refine so_sld X hSc hSb hSA (dkL_law_27 (2290, .iaload, 1) (pgm 21 rfl)) (fun x413 => ?_)
  refine so_aload_n (i := 0) X 1 (dkL_law_27 (2291, .aload_n 0, 1) (pgm 22 rfl)) rfl rfl ?_
  refine so_iload (i := 4) X 5 (dkL_law_27 (2292, .iload 4, 2) (pgm 23 rfl)) rfl ?_
  refine so_iconst (v := (2 : Int32)) X (dkL_law_27 (2294, .iconst 2, 1) (pgm 24 rfl)) ic_2 ?_
  refine so_iadd X (dkL_law_27 (2295, .iadd, 1) (pgm 25 rfl)) ?_
  refine so_sld X hSc hSb hSA (dkL_law_27 (2296, .iaload, 1) (pgm 26 rfl)) (fun x414 => ?_)
  refine so_aload_n (i := 0) X 1 (dkL_law_27 (2297, .aload_n 0, 1) (pgm 27 rfl)) rfl rfl ?_
  refine so_iload (i := 4) X 5 (dkL_law_27 (2298, .iload 4, 2) (pgm 28 rfl)) rfl ?_
  refine so_iconst (v := (3 : Int32)) X (dkL_law_27 (2300, .iconst 3, 1) (pgm 29 rfl)) ic_3 ?_
  refine so_iadd X (dkL_law_27 (2301, .iadd, 1) (pgm 30 rfl)) ?_
  refine so_sld X hSc hSb hSA (dkL_law_27 (2302, .iaload, 1) (pgm 31 rfl)) (fun x415 => ?_)
  refine so_callV (n := 3) (As := [.int x413, .int x414, .int x415]) X (ct_X12_tray l 152 x413 x414 x415 h411 km0) km0 (by decide) rfl lk_2256 lk_2257 lk_2258 lk_134 lk_2259 (by decide +kernel) rfl rfl rfl ⟨Nat.le_of_ble_eq_true rfl, Nat.le_of_ble_eq_true rfl⟩ ⟨by omega, by omega⟩ (Nat.le_of_ble_eq_true rfl) (dkL_law_27 (2303, .invokevirtual 262, 3) (pgm 32 rfl)) (fun r416 h417 => ?_) rfl
  refine so_aload_n (i := 2) X 3 (dkL_law_27 (2306, .aload_n 2, 1) (pgm 33 rfl)) rfl rfl ?_
  refine so_callV (n := 0) (As := []) X (ct_X12_thrown l 152 h417 km0) km0 (by decide) rfl lk_1820 lk_1821 lk_1822 lk_134 lk_1823 (by decide +kernel) rfl rfl rfl ⟨Nat.le_of_ble_eq_true rfl, Nat.le_of_ble_eq_true rfl⟩ ⟨by omega, by omega⟩ (Nat.le_of_ble_eq_true rfl) (dkL_law_27 (2307, .invokevirtual 144, 3) (pgm 34 rfl)) (fun r418 h419 => ?_) rfl
  refine so_iload (i := 5) X 0 (dkL_law_27 (2310, .iload 5, 2) (pgm 35 rfl)) rfl ?_
  refine so_icmp_eq (tgt := 2317) X (dkL_law_27 (2312, .if_icmp .eq 5, 3) (pgm 36 rfl)) rfl (fun _ => ?_) (fun _ => ?_)
  · refine so_goto (tgt := 2584) X (dkL_law_27 (2317, .goto 267, 3) (pgm 39 rfl)) rfl ?_
    exact so_pick X [1, 2, 3, 4, 5] rfl (hj2584 h419)
  · refine so_iconst (v := (0 : Int32)) X (dkL_law_27 (2315, .iconst 0, 1) (pgm 37 rfl)) ic_0 ?_
    exact so_lawret X hargs rfl hAs hr hlk (by omega) (by omega) (dkL_law_27 (2316, .ireturn, 1) (pgm 38 rfl))
def br_37 (xs : Nat → Int32) (L : Nat) (i : Int32) (hb : PH) (j2584 : PH → Option (Int32 × PH)) : Option (Int32 × PH) :=
  ldX xs L (i + (1 : Int32)) (fun (x420 : Int32) => ldX xs L (i + (2 : Int32)) (fun (x421 : Int32) => ldX xs L (i + (3 : Int32)) (fun (x422 : Int32) => ldX xs L (i + (4 : Int32)) (fun (x423 : Int32) => cb (f_L_write x420 x421 ((x422.toInt64 <<< ((32 : Int32).toInt64 &&& 63)) ||| (x423.toInt64 &&& (4294967295 : Int64))) hb) (fun (r424 : Int32) (h425 : PH) => lt r424 (fun (x426 : Int32) => ldX xs L (i + (1 : Int32)) (fun (x427 : Int32) => ldX xs L (i + (2 : Int32)) (fun (x428 : Int32) => ldX xs L (i + (3 : Int32)) (fun (x429 : Int32) => ldX xs L (i + (4 : Int32)) (fun (x430 : Int32) => cb (f_X12_write 152 x427 x428 ((x429.toInt64 <<< ((32 : Int32).toInt64 &&& 63)) ||| (x430.toInt64 &&& (4294967295 : Int64))) h425) (fun (r431 : Int64) (h432 : PH) => lt r431 (fun (x433 : Int64) => cb (f_X12_thrown 152 h432) (fun (r434 : Int32) (h435 : PH) => if r434 = x426 then (lt (fun (h436 : PH) => j2584 h436) (fun (j2428 : PH → Option (Int32 × PH)) => if x426 = 0 then (if (lg_cmp (h435.2 NC 0) x433) = 0 then (j2428 h435) else (some ((0 : Int32), h435))) else (j2428 h435))) else (some ((0 : Int32), h435)))))))))))))))
set_option maxRecDepth 100000 in
set_option maxHeartbeats 4000000 in
theorem lb_37 {p : Program} {l : Launch} {e : Env} {s : State} {m : MethodId} {args : Array Value} {below : List Frame} {meth : Method} {c : Code} {D : va_G} {cA : Nat → ClassId} {ad : Nat → Nat} {A : Nat → Prop} {L : Nat} {xs : Nat → Int32} (hlt : l.stackTraces = false) (X : Cx p s m args c RL cL_law 8 D cA ad A) (hnc : nc cA = NC + 1) (hargs : ∃ b0 : Nat, args = #[Value.ref b0]) (hAs : ∀ q, A q → s.heap.size ≤ q) (hr : meth.sig.returnType = ret) (hlk : meth.locks = false) (hSc : va_X (ad 197) L xs s s.heap) (hSb : ad 197 < s.heap.size) (hSA : ¬ A (ad 197)) (cells slots : Nat) (hC : cells + 3 ≤ room_1.cells) (hS : slots + 18 ≤ room_1.slots) (i : Int32) (hb : PH) (j2584 : PH → Option (Int32 × PH)) (hj2584 : ∀ (h2 : PH), SWo (QL below args s) p l e room_1 s m args below meth c (cells + 3) (slots + 18) 8 D cA ad A 2584 [(0, .ref 197), (1, .ref 0), (2, .ref 152), (3, .ref NC), (4, .int i)] [] h2 (j2584 h2)) : SWo (QL below args s) p l e room_1 s m args below meth c cells slots 8 D cA ad A 2320 [(0, .ref 197), (1, .ref 0), (2, .ref 152), (3, .ref NC), (4, .int i)] [] hb (br_37 xs L i hb j2584) := by
  have hroom1 : room_1.cells = 601024 := rfl
  have hroom2 : room_1.slots = 7293034 := rfl
  unfold br_37
  refine so_aload_n (i := 1) X 1 (dkL_law_27 (2320, .aload_n 1, 1) (pgm 40 rfl)) rfl rfl ?_
  refine so_aload_n (i := 0) X 0 (dkL_law_27 (2321, .aload_n 0, 1) (pgm 41 rfl)) rfl rfl ?_
  refine so_iload (i := 4) X 4 (dkL_law_27 (2322, .iload 4, 2) (pgm 42 rfl)) rfl ?_
  refine so_iconst (v := (1 : Int32)) X (dkL_law_27 (2324, .iconst 1, 1) (pgm 43 rfl)) ic_1 ?_
  refine so_iadd X (dkL_law_27 (2325, .iadd, 1) (pgm 44 rfl)) ?_
  refine so_sld X hSc hSb hSA (dkL_law_27 (2326, .iaload, 1) (pgm 45 rfl)) (fun x420 => ?_)
  refine so_aload_n (i := 0) X 0 (dkL_law_27 (2327, .aload_n 0, 1) (pgm 46 rfl)) rfl rfl ?_
  refine so_iload (i := 4) X 4 (dkL_law_27 (2328, .iload 4, 2) (pgm 47 rfl)) rfl ?_
  refine so_iconst (v := (2 : Int32)) X (dkL_law_27 (2330, .iconst 2, 1) (pgm 48 rfl)) ic_2 ?_
  refine so_iadd X (dkL_law_27 (2331, .iadd, 1) (pgm 49 rfl)) ?_
  refine so_sld X hSc hSb hSA (dkL_law_28 (2332, .iaload, 1) (pgm 0 rfl)) (fun x421 => ?_)
  refine so_aload_n (i := 0) X 0 (dkL_law_28 (2333, .aload_n 0, 1) (pgm 1 rfl)) rfl rfl ?_
  refine so_iload (i := 4) X 4 (dkL_law_28 (2334, .iload 4, 2) (pgm 2 rfl)) rfl ?_
  refine so_iconst (v := (3 : Int32)) X (dkL_law_28 (2336, .iconst 3, 1) (pgm 3 rfl)) ic_3 ?_
  refine so_iadd X (dkL_law_28 (2337, .iadd, 1) (pgm 4 rfl)) ?_
  refine so_sld X hSc hSb hSA (dkL_law_28 (2338, .iaload, 1) (pgm 5 rfl)) (fun x422 => ?_)
  refine so_i2l X (dkL_law_28 (2339, .i2l, 1) (pgm 6 rfl)) ?_
  refine so_bipush (v := (32 : Int32)) X (dkL_law_28 (2340, .bipush 32, 2) (pgm 7 rfl)) bp_32 ?_
  refine so_lshl X (dkL_law_28 (2342, .lshl, 1) (pgm 8 rfl)) ?_
  refine so_aload_n (i := 0) X 0 (dkL_law_28 (2343, .aload_n 0, 1) (pgm 9 rfl)) rfl rfl ?_
  refine so_iload (i := 4) X 4 (dkL_law_28 (2344, .iload 4, 2) (pgm 10 rfl)) rfl ?_
  refine so_iconst (v := (4 : Int32)) X (dkL_law_28 (2346, .iconst 4, 1) (pgm 11 rfl)) ic_4 ?_
  refine so_iadd X (dkL_law_28 (2347, .iadd, 1) (pgm 12 rfl)) ?_
  refine so_sld X hSc hSb hSA (dkL_law_28 (2348, .iaload, 1) (pgm 13 rfl)) (fun x423 => ?_)
  refine so_i2l X (dkL_law_28 (2349, .i2l, 1) (pgm 14 rfl)) ?_
  refine so_ldc2 X lk_2284 (dkL_law_28 (2350, .ldc2_w 263, 3) (pgm 15 rfl)) ?_
  refine so_land X (dkL_law_28 (2353, .land, 1) (pgm 16 rfl)) ?_
  refine so_lor X (dkL_law_28 (2354, .lor, 1) (pgm 17 rfl)) ?_
  refine so_aload_n (i := 3) X 3 (dkL_law_28 (2355, .aload_n 3, 1) (pgm 18 rfl)) rfl rfl ?_
  refine so_callW (n := 5) (As := [.ref 0, .int x420, .int x421, .long ((x422.toInt64 <<< ((32 : Int32).toInt64 &&& 63)) ||| (x423.toInt64 &&& (4294967295 : Int64))), .ref NC]) X hnc (ct_L_write l hlt x420 x421 ((x422.toInt64 <<< ((32 : Int32).toInt64 &&& 63)) ||| (x423.toInt64 &&& (4294967295 : Int64))) hb) lk_1593 lk_1594 lk_120 lk_1595 (by decide +kernel) rfl rfl rfl ⟨Nat.le_of_ble_eq_true rfl, Nat.le_of_ble_eq_true rfl⟩ ⟨hC, hS⟩ (by decide) (dkL_law_28 (2356, .invokestatic 265, 3) (pgm 19 rfl)) (fun r424 h425 => ?_) rfl
  refine so_istore (i := 5) X (dkL_law_28 (2359, .istore 5, 2) (pgm 20 rfl)) (by decide) (Lf := fun x426 => [(5, .int x426), (0, .ref 197), (1, .ref 0), (2, .ref 152), (3, .ref NC), (4, .int i)]) (fun _ => rfl) (fun x426 => ?_)
  refine so_aload_n (i := 2) X 3 (dkL_law_28 (2361, .aload_n 2, 1) (pgm 21 rfl)) rfl rfl ?_
  refine so_aload_n (i := 0) X 1 (dkL_law_28 (2362, .aload_n 0, 1) (pgm 22 rfl)) rfl rfl ?_
  refine so_iload (i := 4) X 5 (dkL_law_28 (2363, .iload 4, 2) (pgm 23 rfl)) rfl ?_
  refine so_iconst (v := (1 : Int32)) X (dkL_law_28 (2365, .iconst 1, 1) (pgm 24 rfl)) ic_1 ?_
  refine so_iadd X (dkL_law_28 (2366, .iadd, 1) (pgm 25 rfl)) ?_
  refine so_sld X hSc hSb hSA (dkL_law_28 (2367, .iaload, 1) (pgm 26 rfl)) (fun x427 => ?_)
  refine so_aload_n (i := 0) X 1 (dkL_law_28 (2368, .aload_n 0, 1) (pgm 27 rfl)) rfl rfl ?_
  refine so_iload (i := 4) X 5 (dkL_law_28 (2369, .iload 4, 2) (pgm 28 rfl)) rfl ?_
  refine so_iconst (v := (2 : Int32)) X (dkL_law_28 (2371, .iconst 2, 1) (pgm 29 rfl)) ic_2 ?_
  refine so_iadd X (dkL_law_28 (2372, .iadd, 1) (pgm 30 rfl)) ?_
  refine so_sld X hSc hSb hSA (dkL_law_28 (2373, .iaload, 1) (pgm 31 rfl)) (fun x428 => ?_)
  refine so_aload_n (i := 0) X 1 (dkL_law_28 (2374, .aload_n 0, 1) (pgm 32 rfl)) rfl rfl ?_
  refine so_iload (i := 4) X 5 (dkL_law_28 (2375, .iload 4, 2) (pgm 33 rfl)) rfl ?_
  refine so_iconst (v := (3 : Int32)) X (dkL_law_28 (2377, .iconst 3, 1) (pgm 34 rfl)) ic_3 ?_
  refine so_iadd X (dkL_law_28 (2378, .iadd, 1) (pgm 35 rfl)) ?_
  refine so_sld X hSc hSb hSA (dkL_law_28 (2379, .iaload, 1) (pgm 36 rfl)) (fun x429 => ?_)
  refine so_i2l X (dkL_law_28 (2380, .i2l, 1) (pgm 37 rfl)) ?_
  refine so_bipush (v := (32 : Int32)) X (dkL_law_28 (2381, .bipush 32, 2) (pgm 38 rfl)) bp_32 ?_
  refine so_lshl X (dkL_law_28 (2383, .lshl, 1) (pgm 39 rfl)) ?_
  refine so_aload_n (i := 0) X 1 (dkL_law_28 (2384, .aload_n 0, 1) (pgm 40 rfl)) rfl rfl ?_
  refine so_iload (i := 4) X 5 (dkL_law_28 (2385, .iload 4, 2) (pgm 41 rfl)) rfl ?_
  refine so_iconst (v := (4 : Int32)) X (dkL_law_28 (2387, .iconst 4, 1) (pgm 42 rfl)) ic_4 ?_
  refine so_iadd X (dkL_law_28 (2388, .iadd, 1) (pgm 43 rfl)) ?_
  refine so_sld X hSc hSb hSA (dkL_law_28 (2389, .iaload, 1) (pgm 44 rfl)) (fun x430 => ?_)
  refine so_i2l X (dkL_law_28 (2390, .i2l, 1) (pgm 45 rfl)) ?_
  refine so_ldc2 X lk_2284 (dkL_law_28 (2391, .ldc2_w 263, 3) (pgm 46 rfl)) ?_
  refine so_land X (dkL_law_28 (2394, .land, 1) (pgm 47 rfl)) ?_
  refine so_lor X (dkL_law_28 (2395, .lor, 1) (pgm 48 rfl)) ?_
  refine so_callV (n := 3) (As := [.int x427, .int x428, .long ((x429.toInt64 <<< ((32 : Int32).toInt64 &&& 63)) ||| (x430.toInt64 &&& (4294967295 : Int64)))]) X (ct_X12_write l 152 x427 x428 ((x429.toInt64 <<< ((32 : Int32).toInt64 &&& 63)) ||| (x430.toInt64 &&& (4294967295 : Int64))) h425 km0) km0 (by decide) rfl lk_2260 lk_2261 lk_2262 lk_134 lk_2263 (by decide +kernel) rfl rfl rfl ⟨Nat.le_of_ble_eq_true rfl, Nat.le_of_ble_eq_true rfl⟩ ⟨by omega, by omega⟩ (Nat.le_of_ble_eq_true rfl) (dkL_law_28 (2396, .invokevirtual 268, 3) (pgm 49 rfl)) (fun r431 h432 => ?_) rfl
  refine so_lstore (i := 6) X (dkL_law_29 (2399, .lstore 6, 2) (pgm 0 rfl)) (by decide) (Lf := fun x433 => [(6, .long x433), (5, .int x426), (0, .ref 197), (1, .ref 0), (2, .ref 152), (3, .ref NC), (4, .int i)]) (fun _ => rfl) (fun x433 => ?_)
  refine so_aload_n (i := 2) X 4 (dkL_law_29 (2401, .aload_n 2, 1) (pgm 1 rfl)) rfl rfl ?_
  refine so_callV (n := 0) (As := []) X (ct_X12_thrown l 152 h432 km0) km0 (by decide) rfl lk_1820 lk_1821 lk_1822 lk_134 lk_1823 (by decide +kernel) rfl rfl rfl ⟨Nat.le_of_ble_eq_true rfl, Nat.le_of_ble_eq_true rfl⟩ ⟨by omega, by omega⟩ (Nat.le_of_ble_eq_true rfl) (dkL_law_29 (2402, .invokevirtual 144, 3) (pgm 2 rfl)) (fun r434 h435 => ?_) rfl
  refine so_iload (i := 5) X 1 (dkL_law_29 (2405, .iload 5, 2) (pgm 3 rfl)) rfl ?_
  refine so_icmp_eq (tgt := 2412) X (dkL_law_29 (2407, .if_icmp .eq 5, 3) (pgm 4 rfl)) rfl (fun _ => ?_) (fun _ => ?_)
  · refine so_iload (i := 5) X 1 (dkL_law_29 (2412, .iload 5, 2) (pgm 7 rfl)) rfl ?_
    refine so_join (jf := fun (h436 : PH) => j2584 h436) (fun (j : PH → Option (Int32 × PH)) => ∀  (h436 : PH), SWo (QL below args s) p l e room_1 s m args below meth c (cells + 3) (slots + 18) 8 D cA ad A 2428 [(0, .ref 197), (1, .ref 0), (2, .ref 152), (3, .ref NC), (4, .int i)] [] h436 (j h436)) ?_ (fun j2428 hj2428 => ?_)
    · intro h436
      refine so_goto (tgt := 2584) X (dkL_law_29 (2428, .goto 156, 3) (pgm 17 rfl)) rfl ?_
      exact so_pick X [0, 1, 2, 3, 4] rfl (hj2584 h436)
    refine so_if_ne (tgt := 2428) X (dkL_law_29 (2414, .ifCond .ne 14, 3) (pgm 8 rfl)) rfl (fun _ => ?_) (fun _ => ?_)
    · exact so_pick X [2, 3, 4, 5, 6] rfl (hj2428 h435)
    · refine so_aload_n (i := 3) X 5 (dkL_law_29 (2417, .aload_n 3, 1) (pgm 9 rfl)) rfl rfl ?_
      refine so_iconst (v := (0 : Int32)) X (dkL_law_29 (2418, .iconst 0, 1) (pgm 10 rfl)) ic_0 ?_
      refine so_outLd X hnc (dkL_law_29 (2419, .laload, 1) (pgm 11 rfl)) ?_
      refine so_lload (i := 6) X 0 (dkL_law_29 (2420, .lload 6, 2) (pgm 12 rfl)) rfl ?_
      refine so_lcmp X (dkL_law_29 (2422, .lcmp, 1) (pgm 13 rfl)) ?_
      refine so_if_eq (tgt := 2428) X (dkL_law_29 (2423, .ifCond .eq 5, 3) (pgm 14 rfl)) rfl (fun _ => ?_) (fun _ => ?_)
      · exact so_pick X [2, 3, 4, 5, 6] rfl (hj2428 h435)
      · refine so_iconst (v := (0 : Int32)) X (dkL_law_29 (2426, .iconst 0, 1) (pgm 15 rfl)) ic_0 ?_
        exact so_lawret X hargs rfl hAs hr hlk (by omega) (by omega) (dkL_law_29 (2427, .ireturn, 1) (pgm 16 rfl))
  · refine so_iconst (v := (0 : Int32)) X (dkL_law_29 (2410, .iconst 0, 1) (pgm 5 rfl)) ic_0 ?_
    exact so_lawret X hargs rfl hAs hr hlk (by omega) (by omega) (dkL_law_29 (2411, .ireturn, 1) (pgm 6 rfl))
def br_38 (xs : Nat → Int32) (L : Nat) (i : Int32) (hb : PH) (j2584 : PH → Option (Int32 × PH)) : Option (Int32 × PH) :=
  ldX xs L (i + (1 : Int32)) (fun (x437 : Int32) => cb (f_L_pour x437 hb) (fun (r438 : Int32) (h439 : PH) => lt r438 (fun (x440 : Int32) => ldX xs L (i + (1 : Int32)) (fun (x441 : Int32) => cb (f_X12_pour 152 x441 h439) (fun (r442 : Int32) (h443 : PH) => lt r442 (fun (x444 : Int32) => cb (f_X12_thrown 152 h443) (fun (r445 : Int32) (h446 : PH) => if r445 = x440 then (lt (fun (h447 : PH) => j2584 h447) (fun (j2484 : PH → Option (Int32 × PH)) => if x440 = 0 then (if (lg_cmp (h446.2 NC 0) x444.toInt64) = 0 then (j2484 h446) else (some ((0 : Int32), h446))) else (j2484 h446))) else (some ((0 : Int32), h446)))))))))
set_option maxRecDepth 100000 in
set_option maxHeartbeats 4000000 in
theorem lb_38 {p : Program} {l : Launch} {e : Env} {s : State} {m : MethodId} {args : Array Value} {below : List Frame} {meth : Method} {c : Code} {D : va_G} {cA : Nat → ClassId} {ad : Nat → Nat} {A : Nat → Prop} {L : Nat} {xs : Nat → Int32} (hlt : l.stackTraces = false) (X : Cx p s m args c RL cL_law 8 D cA ad A) (hnc : nc cA = NC + 1) (hargs : ∃ b0 : Nat, args = #[Value.ref b0]) (hAs : ∀ q, A q → s.heap.size ≤ q) (hr : meth.sig.returnType = ret) (hlk : meth.locks = false) (hSc : va_X (ad 197) L xs s s.heap) (hSb : ad 197 < s.heap.size) (hSA : ¬ A (ad 197)) (cells slots : Nat) (hC : cells + 3 ≤ room_1.cells) (hS : slots + 18 ≤ room_1.slots) (i : Int32) (hb : PH) (j2584 : PH → Option (Int32 × PH)) (hj2584 : ∀ (h2 : PH), SWo (QL below args s) p l e room_1 s m args below meth c (cells + 3) (slots + 18) 8 D cA ad A 2584 [(0, .ref 197), (1, .ref 0), (2, .ref 152), (3, .ref NC), (4, .int i)] [] h2 (j2584 h2)) : SWo (QL below args s) p l e room_1 s m args below meth c cells slots 8 D cA ad A 2431 [(0, .ref 197), (1, .ref 0), (2, .ref 152), (3, .ref NC), (4, .int i)] [] hb (br_38 xs L i hb j2584) := by
  have hroom1 : room_1.cells = 601024 := rfl
  have hroom2 : room_1.slots = 7293034 := rfl
  unfold br_38
  refine so_aload_n (i := 1) X 1 (dkL_law_29 (2431, .aload_n 1, 1) (pgm 18 rfl)) rfl rfl ?_
  refine so_aload_n (i := 0) X 0 (dkL_law_29 (2432, .aload_n 0, 1) (pgm 19 rfl)) rfl rfl ?_
  refine so_iload (i := 4) X 4 (dkL_law_29 (2433, .iload 4, 2) (pgm 20 rfl)) rfl ?_
  refine so_iconst (v := (1 : Int32)) X (dkL_law_29 (2435, .iconst 1, 1) (pgm 21 rfl)) ic_1 ?_
  refine so_iadd X (dkL_law_29 (2436, .iadd, 1) (pgm 22 rfl)) ?_
  refine so_sld X hSc hSb hSA (dkL_law_29 (2437, .iaload, 1) (pgm 23 rfl)) (fun x437 => ?_)
  refine so_aload_n (i := 3) X 3 (dkL_law_29 (2438, .aload_n 3, 1) (pgm 24 rfl)) rfl rfl ?_
  refine so_callW (n := 3) (As := [.ref 0, .int x437, .ref NC]) X hnc (ct_L_pour l hlt x437 hb) lk_1621 lk_1622 lk_120 lk_1623 (by decide +kernel) rfl rfl rfl ⟨Nat.le_of_ble_eq_true rfl, Nat.le_of_ble_eq_true rfl⟩ ⟨hC, hS⟩ (by decide) (dkL_law_29 (2439, .invokestatic 269, 3) (pgm 25 rfl)) (fun r438 h439 => ?_) rfl
  refine so_istore (i := 5) X (dkL_law_29 (2442, .istore 5, 2) (pgm 26 rfl)) (by decide) (Lf := fun x440 => [(5, .int x440), (0, .ref 197), (1, .ref 0), (2, .ref 152), (3, .ref NC), (4, .int i)]) (fun _ => rfl) (fun x440 => ?_)
  refine so_aload_n (i := 2) X 3 (dkL_law_29 (2444, .aload_n 2, 1) (pgm 27 rfl)) rfl rfl ?_
  refine so_aload_n (i := 0) X 1 (dkL_law_29 (2445, .aload_n 0, 1) (pgm 28 rfl)) rfl rfl ?_
  refine so_iload (i := 4) X 5 (dkL_law_29 (2446, .iload 4, 2) (pgm 29 rfl)) rfl ?_
  refine so_iconst (v := (1 : Int32)) X (dkL_law_29 (2448, .iconst 1, 1) (pgm 30 rfl)) ic_1 ?_
  refine so_iadd X (dkL_law_29 (2449, .iadd, 1) (pgm 31 rfl)) ?_
  refine so_sld X hSc hSb hSA (dkL_law_29 (2450, .iaload, 1) (pgm 32 rfl)) (fun x441 => ?_)
  refine so_callV (n := 1) (As := [.int x441]) X (ct_X12_pour l 152 x441 h439 km0) km0 (by decide) rfl lk_2268 lk_2269 lk_2270 lk_134 lk_2271 (by decide +kernel) rfl rfl rfl ⟨Nat.le_of_ble_eq_true rfl, Nat.le_of_ble_eq_true rfl⟩ ⟨by omega, by omega⟩ (Nat.le_of_ble_eq_true rfl) (dkL_law_29 (2451, .invokevirtual 271, 3) (pgm 33 rfl)) (fun r442 h443 => ?_) rfl
  refine so_istore (i := 6) X (dkL_law_29 (2454, .istore 6, 2) (pgm 34 rfl)) (by decide) (Lf := fun x444 => [(6, .int x444), (5, .int x440), (0, .ref 197), (1, .ref 0), (2, .ref 152), (3, .ref NC), (4, .int i)]) (fun _ => rfl) (fun x444 => ?_)
  refine so_aload_n (i := 2) X 4 (dkL_law_29 (2456, .aload_n 2, 1) (pgm 35 rfl)) rfl rfl ?_
  refine so_callV (n := 0) (As := []) X (ct_X12_thrown l 152 h443 km0) km0 (by decide) rfl lk_1820 lk_1821 lk_1822 lk_134 lk_1823 (by decide +kernel) rfl rfl rfl ⟨Nat.le_of_ble_eq_true rfl, Nat.le_of_ble_eq_true rfl⟩ ⟨by omega, by omega⟩ (Nat.le_of_ble_eq_true rfl) (dkL_law_29 (2457, .invokevirtual 144, 3) (pgm 36 rfl)) (fun r445 h446 => ?_) rfl
  refine so_iload (i := 5) X 1 (dkL_law_29 (2460, .iload 5, 2) (pgm 37 rfl)) rfl ?_
  refine so_icmp_eq (tgt := 2467) X (dkL_law_29 (2462, .if_icmp .eq 5, 3) (pgm 38 rfl)) rfl (fun _ => ?_) (fun _ => ?_)
  · refine so_iload (i := 5) X 1 (dkL_law_29 (2467, .iload 5, 2) (pgm 41 rfl)) rfl ?_
    refine so_join (jf := fun (h447 : PH) => j2584 h447) (fun (j : PH → Option (Int32 × PH)) => ∀  (h447 : PH), SWo (QL below args s) p l e room_1 s m args below meth c (cells + 3) (slots + 18) 8 D cA ad A 2484 [(0, .ref 197), (1, .ref 0), (2, .ref 152), (3, .ref NC), (4, .int i)] [] h447 (j h447)) ?_ (fun j2484 hj2484 => ?_)
    · intro h447
      refine so_goto (tgt := 2584) X (dkL_law_30 (2484, .goto 100, 3) (pgm 2 rfl)) rfl ?_
      exact so_pick X [0, 1, 2, 3, 4] rfl (hj2584 h447)
    refine so_if_ne (tgt := 2484) X (dkL_law_29 (2469, .ifCond .ne 15, 3) (pgm 42 rfl)) rfl (fun _ => ?_) (fun _ => ?_)
    · exact so_pick X [2, 3, 4, 5, 6] rfl (hj2484 h446)
    · refine so_aload_n (i := 3) X 5 (dkL_law_29 (2472, .aload_n 3, 1) (pgm 43 rfl)) rfl rfl ?_
      refine so_iconst (v := (0 : Int32)) X (dkL_law_29 (2473, .iconst 0, 1) (pgm 44 rfl)) ic_0 ?_
      refine so_outLd X hnc (dkL_law_29 (2474, .laload, 1) (pgm 45 rfl)) ?_
      refine so_iload (i := 6) X 0 (dkL_law_29 (2475, .iload 6, 2) (pgm 46 rfl)) rfl ?_
      refine so_i2l X (dkL_law_29 (2477, .i2l, 1) (pgm 47 rfl)) ?_
      refine so_lcmp X (dkL_law_29 (2478, .lcmp, 1) (pgm 48 rfl)) ?_
      refine so_if_eq (tgt := 2484) X (dkL_law_29 (2479, .ifCond .eq 5, 3) (pgm 49 rfl)) rfl (fun _ => ?_) (fun _ => ?_)
      · exact so_pick X [2, 3, 4, 5, 6] rfl (hj2484 h446)
      · refine so_iconst (v := (0 : Int32)) X (dkL_law_30 (2482, .iconst 0, 1) (pgm 0 rfl)) ic_0 ?_
        exact so_lawret X hargs rfl hAs hr hlk (by omega) (by omega) (dkL_law_30 (2483, .ireturn, 1) (pgm 1 rfl))
  · refine so_iconst (v := (0 : Int32)) X (dkL_law_29 (2465, .iconst 0, 1) (pgm 39 rfl)) ic_0 ?_
    exact so_lawret X hargs rfl hAs hr hlk (by omega) (by omega) (dkL_law_29 (2466, .ireturn, 1) (pgm 40 rfl))
def br_39 (xs : Nat → Int32) (L : Nat) (i : Int32) (hb : PH) (j2584 : PH → Option (Int32 × PH)) : Option (Int32 × PH) :=
  ldX xs L (i + (1 : Int32)) (fun (x448 : Int32) => cb (f_L_image x448 hb) (fun (r449 : Int32) (h450 : PH) => lt r449 (fun (x451 : Int32) => ldX xs L (i + (1 : Int32)) (fun (x452 : Int32) => cb (f_X12_image 152 x452 h450) (fun (r453 : Unit) (h454 : PH) => cb (f_X12_thrown 152 h454) (fun (r455 : Int32) (h456 : PH) => if r455 = x451 then (j2584 h456) else (some ((0 : Int32), h456))))))))
set_option maxRecDepth 100000 in
set_option maxHeartbeats 4000000 in
theorem lb_39 {p : Program} {l : Launch} {e : Env} {s : State} {m : MethodId} {args : Array Value} {below : List Frame} {meth : Method} {c : Code} {D : va_G} {cA : Nat → ClassId} {ad : Nat → Nat} {A : Nat → Prop} {L : Nat} {xs : Nat → Int32} (hlt : l.stackTraces = false) (X : Cx p s m args c RL cL_law 8 D cA ad A) (hnc : nc cA = NC + 1) (hargs : ∃ b0 : Nat, args = #[Value.ref b0]) (hAs : ∀ q, A q → s.heap.size ≤ q) (hr : meth.sig.returnType = ret) (hlk : meth.locks = false) (hSc : va_X (ad 197) L xs s s.heap) (hSb : ad 197 < s.heap.size) (hSA : ¬ A (ad 197)) (cells slots : Nat) (hC : cells + 3 ≤ room_1.cells) (hS : slots + 18 ≤ room_1.slots) (i : Int32) (hb : PH) (j2584 : PH → Option (Int32 × PH)) (hj2584 : ∀ (h2 : PH), SWo (QL below args s) p l e room_1 s m args below meth c (cells + 3) (slots + 18) 8 D cA ad A 2584 [(0, .ref 197), (1, .ref 0), (2, .ref 152), (3, .ref NC), (4, .int i)] [] h2 (j2584 h2)) : SWo (QL below args s) p l e room_1 s m args below meth c cells slots 8 D cA ad A 2487 [(0, .ref 197), (1, .ref 0), (2, .ref 152), (3, .ref NC), (4, .int i)] [] hb (br_39 xs L i hb j2584) := by
  have hroom1 : room_1.cells = 601024 := rfl
  have hroom2 : room_1.slots = 7293034 := rfl
  unfold br_39
  refine so_aload_n (i := 1) X 1 (dkL_law_30 (2487, .aload_n 1, 1) (pgm 3 rfl)) rfl rfl ?_
  refine so_aload_n (i := 0) X 0 (dkL_law_30 (2488, .aload_n 0, 1) (pgm 4 rfl)) rfl rfl ?_
  refine so_iload (i := 4) X 4 (dkL_law_30 (2489, .iload 4, 2) (pgm 5 rfl)) rfl ?_
  refine so_iconst (v := (1 : Int32)) X (dkL_law_30 (2491, .iconst 1, 1) (pgm 6 rfl)) ic_1 ?_
  refine so_iadd X (dkL_law_30 (2492, .iadd, 1) (pgm 7 rfl)) ?_
  refine so_sld X hSc hSb hSA (dkL_law_30 (2493, .iaload, 1) (pgm 8 rfl)) (fun x448 => ?_)
  refine so_callW (n := 2) (As := [.ref 0, .int x448]) X hnc (ct_L_image l hlt x448 hb) lk_1629 lk_1630 lk_120 lk_1631 (by decide +kernel) rfl rfl rfl ⟨Nat.le_of_ble_eq_true rfl, Nat.le_of_ble_eq_true rfl⟩ ⟨hC, hS⟩ (by decide) (dkL_law_30 (2494, .invokestatic 272, 3) (pgm 9 rfl)) (fun r449 h450 => ?_) rfl
  refine so_istore (i := 5) X (dkL_law_30 (2497, .istore 5, 2) (pgm 10 rfl)) (by decide) (Lf := fun x451 => [(5, .int x451), (0, .ref 197), (1, .ref 0), (2, .ref 152), (3, .ref NC), (4, .int i)]) (fun _ => rfl) (fun x451 => ?_)
  refine so_aload_n (i := 2) X 3 (dkL_law_30 (2499, .aload_n 2, 1) (pgm 11 rfl)) rfl rfl ?_
  refine so_aload_n (i := 0) X 1 (dkL_law_30 (2500, .aload_n 0, 1) (pgm 12 rfl)) rfl rfl ?_
  refine so_iload (i := 4) X 5 (dkL_law_30 (2501, .iload 4, 2) (pgm 13 rfl)) rfl ?_
  refine so_iconst (v := (1 : Int32)) X (dkL_law_30 (2503, .iconst 1, 1) (pgm 14 rfl)) ic_1 ?_
  refine so_iadd X (dkL_law_30 (2504, .iadd, 1) (pgm 15 rfl)) ?_
  refine so_sld X hSc hSb hSA (dkL_law_30 (2505, .iaload, 1) (pgm 16 rfl)) (fun x452 => ?_)
  refine so_callV (n := 1) (As := [.int x452]) X (ct_X12_image l 152 x452 h450 km0) km0 (by decide) rfl lk_2272 lk_2273 lk_2274 lk_134 lk_2275 (by decide +kernel) rfl rfl rfl ⟨Nat.le_of_ble_eq_true rfl, Nat.le_of_ble_eq_true rfl⟩ ⟨by omega, by omega⟩ (Nat.le_of_ble_eq_true rfl) (dkL_law_30 (2506, .invokevirtual 275, 3) (pgm 17 rfl)) (fun r453 h454 => ?_) rfl
  refine so_aload_n (i := 2) X 3 (dkL_law_30 (2509, .aload_n 2, 1) (pgm 18 rfl)) rfl rfl ?_
  refine so_callV (n := 0) (As := []) X (ct_X12_thrown l 152 h454 km0) km0 (by decide) rfl lk_1820 lk_1821 lk_1822 lk_134 lk_1823 (by decide +kernel) rfl rfl rfl ⟨Nat.le_of_ble_eq_true rfl, Nat.le_of_ble_eq_true rfl⟩ ⟨by omega, by omega⟩ (Nat.le_of_ble_eq_true rfl) (dkL_law_30 (2510, .invokevirtual 144, 3) (pgm 19 rfl)) (fun r455 h456 => ?_) rfl
  refine so_iload (i := 5) X 0 (dkL_law_30 (2513, .iload 5, 2) (pgm 20 rfl)) rfl ?_
  refine so_icmp_eq (tgt := 2520) X (dkL_law_30 (2515, .if_icmp .eq 5, 3) (pgm 21 rfl)) rfl (fun _ => ?_) (fun _ => ?_)
  · refine so_goto (tgt := 2584) X (dkL_law_30 (2520, .goto 64, 3) (pgm 24 rfl)) rfl ?_
    exact so_pick X [1, 2, 3, 4, 5] rfl (hj2584 h456)
  · refine so_iconst (v := (0 : Int32)) X (dkL_law_30 (2518, .iconst 0, 1) (pgm 22 rfl)) ic_0 ?_
    exact so_lawret X hargs rfl hAs hr hlk (by omega) (by omega) (dkL_law_30 (2519, .ireturn, 1) (pgm 23 rfl))
def br_40 (xs : Nat → Int32) (L : Nat) (i : Int32) (hb : PH) (j2584 : PH → Option (Int32 × PH)) : Option (Int32 × PH) :=
  ldX xs L (i + (1 : Int32)) (fun (x457 : Int32) => cb (f_L_restore x457 hb) (fun (r458 : Int32) (h459 : PH) => lt r458 (fun (x460 : Int32) => ldX xs L (i + (1 : Int32)) (fun (x461 : Int32) => cb (f_X12_restore 152 x461 h459) (fun (r462 : Unit) (h463 : PH) => cb (f_X12_thrown 152 h463) (fun (r464 : Int32) (h465 : PH) => if r464 = x460 then (j2584 h465) else (some ((0 : Int32), h465))))))))
set_option maxRecDepth 100000 in
set_option maxHeartbeats 4000000 in
theorem lb_40 {p : Program} {l : Launch} {e : Env} {s : State} {m : MethodId} {args : Array Value} {below : List Frame} {meth : Method} {c : Code} {D : va_G} {cA : Nat → ClassId} {ad : Nat → Nat} {A : Nat → Prop} {L : Nat} {xs : Nat → Int32} (hlt : l.stackTraces = false) (X : Cx p s m args c RL cL_law 8 D cA ad A) (hnc : nc cA = NC + 1) (hargs : ∃ b0 : Nat, args = #[Value.ref b0]) (hAs : ∀ q, A q → s.heap.size ≤ q) (hr : meth.sig.returnType = ret) (hlk : meth.locks = false) (hSc : va_X (ad 197) L xs s s.heap) (hSb : ad 197 < s.heap.size) (hSA : ¬ A (ad 197)) (cells slots : Nat) (hC : cells + 3 ≤ room_1.cells) (hS : slots + 18 ≤ room_1.slots) (i : Int32) (hb : PH) (j2584 : PH → Option (Int32 × PH)) (hj2584 : ∀ (h2 : PH), SWo (QL below args s) p l e room_1 s m args below meth c (cells + 3) (slots + 18) 8 D cA ad A 2584 [(0, .ref 197), (1, .ref 0), (2, .ref 152), (3, .ref NC), (4, .int i)] [] h2 (j2584 h2)) : SWo (QL below args s) p l e room_1 s m args below meth c cells slots 8 D cA ad A 2523 [(0, .ref 197), (1, .ref 0), (2, .ref 152), (3, .ref NC), (4, .int i)] [] hb (br_40 xs L i hb j2584) := by
  have hroom1 : room_1.cells = 601024 := rfl
  have hroom2 : room_1.slots = 7293034 := rfl
  unfold br_40
  refine so_aload_n (i := 1) X 1 (dkL_law_30 (2523, .aload_n 1, 1) (pgm 25 rfl)) rfl rfl ?_
  refine so_aload_n (i := 0) X 0 (dkL_law_30 (2524, .aload_n 0, 1) (pgm 26 rfl)) rfl rfl ?_
  refine so_iload (i := 4) X 4 (dkL_law_30 (2525, .iload 4, 2) (pgm 27 rfl)) rfl ?_
  refine so_iconst (v := (1 : Int32)) X (dkL_law_30 (2527, .iconst 1, 1) (pgm 28 rfl)) ic_1 ?_
  refine so_iadd X (dkL_law_30 (2528, .iadd, 1) (pgm 29 rfl)) ?_
  refine so_sld X hSc hSb hSA (dkL_law_30 (2529, .iaload, 1) (pgm 30 rfl)) (fun x457 => ?_)
  refine so_callW (n := 2) (As := [.ref 0, .int x457]) X hnc (ct_L_restore l hlt x457 hb) lk_1645 lk_1646 lk_120 lk_1647 (by decide +kernel) rfl rfl rfl ⟨Nat.le_of_ble_eq_true rfl, Nat.le_of_ble_eq_true rfl⟩ ⟨hC, hS⟩ (by decide) (dkL_law_30 (2530, .invokestatic 276, 3) (pgm 31 rfl)) (fun r458 h459 => ?_) rfl
  refine so_istore (i := 5) X (dkL_law_30 (2533, .istore 5, 2) (pgm 32 rfl)) (by decide) (Lf := fun x460 => [(5, .int x460), (0, .ref 197), (1, .ref 0), (2, .ref 152), (3, .ref NC), (4, .int i)]) (fun _ => rfl) (fun x460 => ?_)
  refine so_aload_n (i := 2) X 3 (dkL_law_30 (2535, .aload_n 2, 1) (pgm 33 rfl)) rfl rfl ?_
  refine so_aload_n (i := 0) X 1 (dkL_law_30 (2536, .aload_n 0, 1) (pgm 34 rfl)) rfl rfl ?_
  refine so_iload (i := 4) X 5 (dkL_law_30 (2537, .iload 4, 2) (pgm 35 rfl)) rfl ?_
  refine so_iconst (v := (1 : Int32)) X (dkL_law_30 (2539, .iconst 1, 1) (pgm 36 rfl)) ic_1 ?_
  refine so_iadd X (dkL_law_30 (2540, .iadd, 1) (pgm 37 rfl)) ?_
  refine so_sld X hSc hSb hSA (dkL_law_30 (2541, .iaload, 1) (pgm 38 rfl)) (fun x461 => ?_)
  refine so_callV (n := 1) (As := [.int x461]) X (ct_X12_restore l 152 x461 h459 km0) km0 (by decide) rfl lk_2276 lk_2277 lk_2278 lk_134 lk_2279 (by decide +kernel) rfl rfl rfl ⟨Nat.le_of_ble_eq_true rfl, Nat.le_of_ble_eq_true rfl⟩ ⟨by omega, by omega⟩ (Nat.le_of_ble_eq_true rfl) (dkL_law_30 (2542, .invokevirtual 278, 3) (pgm 39 rfl)) (fun r462 h463 => ?_) rfl
  refine so_aload_n (i := 2) X 3 (dkL_law_30 (2545, .aload_n 2, 1) (pgm 40 rfl)) rfl rfl ?_
  refine so_callV (n := 0) (As := []) X (ct_X12_thrown l 152 h463 km0) km0 (by decide) rfl lk_1820 lk_1821 lk_1822 lk_134 lk_1823 (by decide +kernel) rfl rfl rfl ⟨Nat.le_of_ble_eq_true rfl, Nat.le_of_ble_eq_true rfl⟩ ⟨by omega, by omega⟩ (Nat.le_of_ble_eq_true rfl) (dkL_law_30 (2546, .invokevirtual 144, 3) (pgm 41 rfl)) (fun r464 h465 => ?_) rfl
  refine so_iload (i := 5) X 0 (dkL_law_30 (2549, .iload 5, 2) (pgm 42 rfl)) rfl ?_
  refine so_icmp_eq (tgt := 2556) X (dkL_law_30 (2551, .if_icmp .eq 5, 3) (pgm 43 rfl)) rfl (fun _ => ?_) (fun _ => ?_)
  · refine so_goto (tgt := 2584) X (dkL_law_30 (2556, .goto 28, 3) (pgm 46 rfl)) rfl ?_
    exact so_pick X [1, 2, 3, 4, 5] rfl (hj2584 h465)
  · refine so_iconst (v := (0 : Int32)) X (dkL_law_30 (2554, .iconst 0, 1) (pgm 44 rfl)) ic_0 ?_
    exact so_lawret X hargs rfl hAs hr hlk (by omega) (by omega) (dkL_law_30 (2555, .ireturn, 1) (pgm 45 rfl))
def br_41 (xs : Nat → Int32) (L : Nat) (i : Int32) (hb : PH) (j2584 : PH → Option (Int32 × PH)) : Option (Int32 × PH) :=
  ldX xs L (i + (1 : Int32)) (fun (x466 : Int32) => cb (f_X11_count 0 x466 hb) (fun (r467 : Int32) (h468 : PH) => ldX xs L (i + (1 : Int32)) (fun (x469 : Int32) => cb (f_X12_count 152 x469 h468) (fun (r470 : Int32) (h471 : PH) => if r467 = r470 then (j2584 h471) else (some ((0 : Int32), h471))))))
set_option maxRecDepth 100000 in
set_option maxHeartbeats 4000000 in
theorem lb_41 {p : Program} {l : Launch} {e : Env} {s : State} {m : MethodId} {args : Array Value} {below : List Frame} {meth : Method} {c : Code} {D : va_G} {cA : Nat → ClassId} {ad : Nat → Nat} {A : Nat → Prop} {L : Nat} {xs : Nat → Int32} (hlt : l.stackTraces = false) (X : Cx p s m args c RL cL_law 8 D cA ad A) (hnc : nc cA = NC + 1) (hargs : ∃ b0 : Nat, args = #[Value.ref b0]) (hAs : ∀ q, A q → s.heap.size ≤ q) (hr : meth.sig.returnType = ret) (hlk : meth.locks = false) (hSc : va_X (ad 197) L xs s s.heap) (hSb : ad 197 < s.heap.size) (hSA : ¬ A (ad 197)) (cells slots : Nat) (hC : cells + 3 ≤ room_1.cells) (hS : slots + 18 ≤ room_1.slots) (i : Int32) (hb : PH) (j2584 : PH → Option (Int32 × PH)) (hj2584 : ∀ (h2 : PH), SWo (QL below args s) p l e room_1 s m args below meth c (cells + 3) (slots + 18) 8 D cA ad A 2584 [(0, .ref 197), (1, .ref 0), (2, .ref 152), (3, .ref NC), (4, .int i)] [] h2 (j2584 h2)) : SWo (QL below args s) p l e room_1 s m args below meth c cells slots 8 D cA ad A 2559 [(0, .ref 197), (1, .ref 0), (2, .ref 152), (3, .ref NC), (4, .int i)] [] hb (br_41 xs L i hb j2584) := by
  have hroom1 : room_1.cells = 601024 := rfl
  have hroom2 : room_1.slots = 7293034 := rfl
  unfold br_41
  refine so_aload_n (i := 1) X 1 (dkL_law_30 (2559, .aload_n 1, 1) (pgm 47 rfl)) rfl rfl ?_
  refine so_aload_n (i := 0) X 0 (dkL_law_30 (2560, .aload_n 0, 1) (pgm 48 rfl)) rfl rfl ?_
  refine so_iload (i := 4) X 4 (dkL_law_30 (2561, .iload 4, 2) (pgm 49 rfl)) rfl ?_
  refine so_iconst (v := (1 : Int32)) X (dkL_law_31 (2563, .iconst 1, 1) (pgm 0 rfl)) ic_1 ?_
  refine so_iadd X (dkL_law_31 (2564, .iadd, 1) (pgm 1 rfl)) ?_
  refine so_sld X hSc hSb hSA (dkL_law_31 (2565, .iaload, 1) (pgm 2 rfl)) (fun x466 => ?_)
  refine so_callV (n := 1) (As := [.int x466]) X (ct_X11_count l 0 x466 hb kx0) kx0 (by decide) rfl lk_762 lk_763 lk_764 lk_121 lk_765 (by decide +kernel) rfl rfl rfl ⟨Nat.le_of_ble_eq_true rfl, Nat.le_of_ble_eq_true rfl⟩ ⟨by omega, by omega⟩ (Nat.le_of_ble_eq_true rfl) (dkL_law_31 (2566, .invokevirtual 279, 3) (pgm 3 rfl)) (fun r467 h468 => ?_) rfl
  refine so_aload_n (i := 2) X 2 (dkL_law_31 (2569, .aload_n 2, 1) (pgm 4 rfl)) rfl rfl ?_
  refine so_aload_n (i := 0) X 0 (dkL_law_31 (2570, .aload_n 0, 1) (pgm 5 rfl)) rfl rfl ?_
  refine so_iload (i := 4) X 4 (dkL_law_31 (2571, .iload 4, 2) (pgm 6 rfl)) rfl ?_
  refine so_iconst (v := (1 : Int32)) X (dkL_law_31 (2573, .iconst 1, 1) (pgm 7 rfl)) ic_1 ?_
  refine so_iadd X (dkL_law_31 (2574, .iadd, 1) (pgm 8 rfl)) ?_
  refine so_sld X hSc hSb hSA (dkL_law_31 (2575, .iaload, 1) (pgm 9 rfl)) (fun x469 => ?_)
  refine so_callV (n := 1) (As := [.int x469]) X (ct_X12_count l 152 x469 h468 km0) km0 (by decide) rfl lk_2280 lk_2281 lk_2282 lk_134 lk_2283 (by decide +kernel) rfl rfl rfl ⟨Nat.le_of_ble_eq_true rfl, Nat.le_of_ble_eq_true rfl⟩ ⟨by omega, by omega⟩ (Nat.le_of_ble_eq_true rfl) (dkL_law_31 (2576, .invokevirtual 282, 3) (pgm 10 rfl)) (fun r470 h471 => ?_) rfl
  refine so_icmp_eq (tgt := 2584) X (dkL_law_31 (2579, .if_icmp .eq 5, 3) (pgm 11 rfl)) rfl (fun _ => ?_) (fun _ => ?_)
  · refine so_widen (c1 := cells + 3) (s1 := slots + 18) (Nat.le_add_right _ _) (Nat.le_add_right _ _) ?_
    exact so_pick X [0, 1, 2, 3, 4] rfl (hj2584 h471)
  · refine so_iconst (v := (0 : Int32)) X (dkL_law_31 (2582, .iconst 0, 1) (pgm 12 rfl)) ic_0 ?_
    exact so_lawret X hargs rfl hAs hr hlk (by omega) (by omega) (dkL_law_31 (2583, .ireturn, 1) (pgm 13 rfl))
def b_law (xs : Nat → Int32) (L : Nat) (rec : Int32 → PH → Option (Int32 × PH)) (i : Int32) (hb : PH) : Option (Int32 × PH) :=
  if ((Int32.ofNat L) - (6 : Int32)) < i then (some ((1 : Int32), hb)) else (ldX xs L i (fun (x1 : Int32) => lt (fun (h2 : PH) => lt (i + Int32.ofInt 6) (fun (x3 : Int32) => rec x3 h2)) (fun (j2584 : PH → Option (Int32 × PH)) => if (x1 &&& (63 : Int32)).toInt < 0 ∨ 41 < (x1 &&& (63 : Int32)).toInt then (j2584 hb) else ([br_0 xs L i hb j2584, br_1 xs L i hb j2584, br_2 xs L i hb j2584, br_3 xs L i hb j2584, br_4 xs L i hb j2584, br_5 xs L i hb j2584, br_6 xs L i hb j2584, br_7 xs L i hb j2584, br_8 xs L i hb j2584, br_9 xs L i hb j2584, br_10 xs L i hb j2584, br_11 xs L i hb j2584, br_12 xs L i hb j2584, br_13 xs L i hb j2584, br_14 xs L i hb j2584, br_15 xs L i hb j2584, br_16 xs L i hb j2584, br_17 xs L i hb j2584, br_18 xs L i hb j2584, br_19 xs L i hb j2584, br_20 xs L i hb j2584, br_21 xs L i hb j2584, br_22 xs L i hb j2584, br_23 xs L i hb j2584, br_24 xs L i hb j2584, br_25 xs L i hb j2584, br_26 xs L i hb j2584, br_27 xs L i hb j2584, br_28 xs L i hb j2584, br_29 xs L i hb j2584, br_30 xs L i hb j2584, br_31 xs L i hb j2584, br_32 xs L i hb j2584, br_33 xs L i hb j2584, br_34 xs L i hb j2584, br_35 xs L i hb j2584, br_36 xs L i hb j2584, br_37 xs L i hb j2584, br_38 xs L i hb j2584, br_39 xs L i hb j2584, br_40 xs L i hb j2584, br_41 xs L i hb j2584] : List (Option (Int32 × PH))).getD ((x1 &&& (63 : Int32)).toInt - 0).toNat none)))
set_option maxRecDepth 100000 in
set_option maxHeartbeats 40000000 in
theorem law_body {p : Program} {l : Launch} {e : Env} {s : State} {m : MethodId} {args : Array Value} {below : List Frame} {meth : Method} {c : Code} {D : va_G} {cA : Nat → ClassId} {ad : Nat → Nat} {A : Nat → Prop} {L : Nat} {xs : Nat → Int32} (hlt : l.stackTraces = false) (X : Cx p s m args c RL cL_law 8 D cA ad A) (hnc : nc cA = NC + 1) (hargs : ∃ b0 : Nat, args = #[Value.ref b0]) (hAs : ∀ q, A q → s.heap.size ≤ q) (hr : meth.sig.returnType = ret) (hlk : meth.locks = false) (hSc : va_X (ad 197) L xs s s.heap) (hSb : ad 197 < s.heap.size) (hSA : ¬ A (ad 197))
    (rec : Int32 → PH → Option (Int32 × PH)) (cells slots : Nat) (hC : cells + 3 ≤ room_1.cells) (hS : slots + 18 ≤ room_1.slots) (hrec : ∀ (i : Int32) (h1 : PH), SWo (QL below args s) p l e room_1 s m args below meth c (cells + 3) (slots + 18) 8 D cA ad A 23 [(0, .ref 197), (1, .ref 0), (2, .ref 152), (3, .ref NC), (4, .int i)] [] h1 (rec i h1)) (i : Int32) (hb : PH) : SWo (QL below args s) p l e room_1 s m args below meth c cells slots 8 D cA ad A 23 [(0, .ref 197), (1, .ref 0), (2, .ref 152), (3, .ref NC), (4, .int i)] [] hb (b_law xs L rec i hb) := by
  have hroom1 : room_1.cells = 601024 := rfl
  have hroom2 : room_1.slots = 7293034 := rfl
  unfold b_law
  refine so_iload (i := 4) X 4 (dkL_law_0 (23, .iload 4, 2) (pgm 13 rfl)) rfl ?_
  refine so_aload_n (i := 0) X 0 (dkL_law_0 (25, .aload_n 0, 1) (pgm 14 rfl)) rfl rfl ?_
  refine so_slen X hSc hSb hSA (dkL_law_0 (26, .arraylength, 1) (pgm 15 rfl)) ?_
  refine so_bipush (v := (6 : Int32)) X (dkL_law_0 (27, .bipush 6, 2) (pgm 16 rfl)) bp_6 ?_
  refine so_isub X (dkL_law_0 (29, .isub, 1) (pgm 17 rfl)) ?_
  refine so_icmp_gt (tgt := 2590) X (dkL_law_0 (30, .if_icmp .gt 2560, 3) (pgm 18 rfl)) rfl (fun _ => ?_) (fun _ => ?_)
  · refine so_iconst (v := (1 : Int32)) X (dkL_law_31 (2590, .iconst 1, 1) (pgm 16 rfl)) ic_1 ?_
    exact so_lawret X hargs rfl hAs hr hlk (by omega) (by omega) (dkL_law_31 (2591, .ireturn, 1) (pgm 17 rfl))
  · refine so_aload_n (i := 0) X 0 (dkL_law_0 (33, .aload_n 0, 1) (pgm 19 rfl)) rfl rfl ?_
    refine so_iload (i := 4) X 4 (dkL_law_0 (34, .iload 4, 2) (pgm 20 rfl)) rfl ?_
    refine so_sld X hSc hSb hSA (dkL_law_0 (36, .iaload, 1) (pgm 21 rfl)) (fun x1 => ?_)
    refine so_bipush (v := (63 : Int32)) X (dkL_law_0 (37, .bipush 63, 2) (pgm 22 rfl)) bp_63 ?_
    refine so_iand X (dkL_law_0 (39, .iand, 1) (pgm 23 rfl)) ?_
    refine so_join (jf := fun (h2 : PH) => lt (i + Int32.ofInt 6) (fun (x3 : Int32) => rec x3 h2)) (fun (j : PH → Option (Int32 × PH)) => ∀  (h2 : PH), SWo (QL below args s) p l e room_1 s m args below meth c (cells + 3) (slots + 18) 8 D cA ad A 2584 [(0, .ref 197), (1, .ref 0), (2, .ref 152), (3, .ref NC), (4, .int i)] [] h2 (j h2)) ?_ (fun j2584 hj2584 => ?_)
    · intro h2
      refine so_iinc (i := 4) X 4 (dkL_law_31 (2584, .iinc 4 6, 3) (pgm 14 rfl)) rfl rfl (by decide) (Lf := fun x3 => [(4, .int x3), (0, .ref 197), (1, .ref 0), (2, .ref 152), (3, .ref NC)]) (fun _ => rfl) (fun x3 => ?_)
      refine so_goto (tgt := 23) X (dkL_law_31 (2587, .goto (-2564), 3) (pgm 15 rfl)) rfl ?_
      exact so_pick X [1, 2, 3, 4, 0] rfl (hrec x3 h2)
    refine so_tsw (tgt := 2584) (os := [br_0 xs L i hb j2584, br_1 xs L i hb j2584, br_2 xs L i hb j2584, br_3 xs L i hb j2584, br_4 xs L i hb j2584, br_5 xs L i hb j2584, br_6 xs L i hb j2584, br_7 xs L i hb j2584, br_8 xs L i hb j2584, br_9 xs L i hb j2584, br_10 xs L i hb j2584, br_11 xs L i hb j2584, br_12 xs L i hb j2584, br_13 xs L i hb j2584, br_14 xs L i hb j2584, br_15 xs L i hb j2584, br_16 xs L i hb j2584, br_17 xs L i hb j2584, br_18 xs L i hb j2584, br_19 xs L i hb j2584, br_20 xs L i hb j2584, br_21 xs L i hb j2584, br_22 xs L i hb j2584, br_23 xs L i hb j2584, br_24 xs L i hb j2584, br_25 xs L i hb j2584, br_26 xs L i hb j2584, br_27 xs L i hb j2584, br_28 xs L i hb j2584, br_29 xs L i hb j2584, br_30 xs L i hb j2584, br_31 xs L i hb j2584, br_32 xs L i hb j2584, br_33 xs L i hb j2584, br_34 xs L i hb j2584, br_35 xs L i hb j2584, br_36 xs L i hb j2584, br_37 xs L i hb j2584, br_38 xs L i hb j2584, br_39 xs L i hb j2584, br_40 xs L i hb j2584, br_41 xs L i hb j2584]) X (dkL_law_0 (40, .tableswitch 2544 0 41 #[184, 257, 313, 338, 406, 462, 537, 562, 618, 631, 687, 743, 799, 855, 868, 936, 992, 1076, 1143, 1199, 1255, 1323, 1403, 1416, 1484, 1552, 1577, 1645, 1701, 1757, 1813, 1869, 1937, 1993, 2061, 2140, 2220, 2280, 2391, 2447, 2483, 2519], 184) (pgm 24 rfl)) rfl ?_ ?_ rfl
    · refine so_widen (c1 := cells + 3) (s1 := slots + 18) (Nat.le_add_right _ _) (Nat.le_add_right _ _) ?_
      exact so_pick X [0, 1, 2, 3, 4] rfl (hj2584 hb)
    · intro kq ok hkq
      match kq, hkq with
      | 0, hkq =>
        obtain rfl := Option.some.inj hkq
        refine ⟨184, 224, rfl, rfl, ?_⟩
        exact lb_0 hlt X hnc hargs hAs hr hlk hSc hSb hSA cells slots hC hS i hb j2584 hj2584
      | 1, hkq =>
        obtain rfl := Option.some.inj hkq
        refine ⟨257, 297, rfl, rfl, ?_⟩
        exact lb_1 hlt X hnc hargs hAs hr hlk hSc hSb hSA cells slots hC hS i hb j2584 hj2584
      | 2, hkq =>
        obtain rfl := Option.some.inj hkq
        refine ⟨313, 353, rfl, rfl, ?_⟩
        exact lb_2 hlt X hnc hargs hAs hr hlk hSc hSb hSA cells slots hC hS i hb j2584 hj2584
      | 3, hkq =>
        obtain rfl := Option.some.inj hkq
        refine ⟨338, 378, rfl, rfl, ?_⟩
        exact lb_3 hlt X hnc hargs hAs hr hlk hSc hSb hSA cells slots hC hS i hb j2584 hj2584
      | 4, hkq =>
        obtain rfl := Option.some.inj hkq
        refine ⟨406, 446, rfl, rfl, ?_⟩
        exact lb_4 hlt X hnc hargs hAs hr hlk hSc hSb hSA cells slots hC hS i hb j2584 hj2584
      | 5, hkq =>
        obtain rfl := Option.some.inj hkq
        refine ⟨462, 502, rfl, rfl, ?_⟩
        exact lb_5 hlt X hnc hargs hAs hr hlk hSc hSb hSA cells slots hC hS i hb j2584 hj2584
      | 6, hkq =>
        obtain rfl := Option.some.inj hkq
        refine ⟨537, 577, rfl, rfl, ?_⟩
        exact lb_6 hlt X hnc hargs hAs hr hlk hSc hSb hSA cells slots hC hS i hb j2584 hj2584
      | 7, hkq =>
        obtain rfl := Option.some.inj hkq
        refine ⟨562, 602, rfl, rfl, ?_⟩
        exact lb_7 hlt X hnc hargs hAs hr hlk hSc hSb hSA cells slots hC hS i hb j2584 hj2584
      | 8, hkq =>
        obtain rfl := Option.some.inj hkq
        refine ⟨618, 658, rfl, rfl, ?_⟩
        exact lb_8 hlt X hnc hargs hAs hr hlk hSc hSb hSA cells slots hC hS i hb j2584 hj2584
      | 9, hkq =>
        obtain rfl := Option.some.inj hkq
        refine ⟨631, 671, rfl, rfl, ?_⟩
        exact lb_9 hlt X hnc hargs hAs hr hlk hSc hSb hSA cells slots hC hS i hb j2584 hj2584
      | 10, hkq =>
        obtain rfl := Option.some.inj hkq
        refine ⟨687, 727, rfl, rfl, ?_⟩
        exact lb_10 hlt X hnc hargs hAs hr hlk hSc hSb hSA cells slots hC hS i hb j2584 hj2584
      | 11, hkq =>
        obtain rfl := Option.some.inj hkq
        refine ⟨743, 783, rfl, rfl, ?_⟩
        exact lb_11 hlt X hnc hargs hAs hr hlk hSc hSb hSA cells slots hC hS i hb j2584 hj2584
      | 12, hkq =>
        obtain rfl := Option.some.inj hkq
        refine ⟨799, 839, rfl, rfl, ?_⟩
        exact lb_12 hlt X hnc hargs hAs hr hlk hSc hSb hSA cells slots hC hS i hb j2584 hj2584
      | 13, hkq =>
        obtain rfl := Option.some.inj hkq
        refine ⟨855, 895, rfl, rfl, ?_⟩
        exact lb_13 hlt X hnc hargs hAs hr hlk hSc hSb hSA cells slots hC hS i hb j2584 hj2584
      | 14, hkq =>
        obtain rfl := Option.some.inj hkq
        refine ⟨868, 908, rfl, rfl, ?_⟩
        exact lb_14 hlt X hnc hargs hAs hr hlk hSc hSb hSA cells slots hC hS i hb j2584 hj2584
      | 15, hkq =>
        obtain rfl := Option.some.inj hkq
        refine ⟨936, 976, rfl, rfl, ?_⟩
        exact lb_15 hlt X hnc hargs hAs hr hlk hSc hSb hSA cells slots hC hS i hb j2584 hj2584
      | 16, hkq =>
        obtain rfl := Option.some.inj hkq
        refine ⟨992, 1032, rfl, rfl, ?_⟩
        exact lb_16 hlt X hnc hargs hAs hr hlk hSc hSb hSA cells slots hC hS i hb j2584 hj2584
      | 17, hkq =>
        obtain rfl := Option.some.inj hkq
        refine ⟨1076, 1116, rfl, rfl, ?_⟩
        exact lb_17 hlt X hnc hargs hAs hr hlk hSc hSb hSA cells slots hC hS i hb j2584 hj2584
      | 18, hkq =>
        obtain rfl := Option.some.inj hkq
        refine ⟨1143, 1183, rfl, rfl, ?_⟩
        exact lb_18 hlt X hnc hargs hAs hr hlk hSc hSb hSA cells slots hC hS i hb j2584 hj2584
      | 19, hkq =>
        obtain rfl := Option.some.inj hkq
        refine ⟨1199, 1239, rfl, rfl, ?_⟩
        exact lb_19 hlt X hnc hargs hAs hr hlk hSc hSb hSA cells slots hC hS i hb j2584 hj2584
      | 20, hkq =>
        obtain rfl := Option.some.inj hkq
        refine ⟨1255, 1295, rfl, rfl, ?_⟩
        exact lb_20 hlt X hnc hargs hAs hr hlk hSc hSb hSA cells slots hC hS i hb j2584 hj2584
      | 21, hkq =>
        obtain rfl := Option.some.inj hkq
        refine ⟨1323, 1363, rfl, rfl, ?_⟩
        exact lb_21 hlt X hnc hargs hAs hr hlk hSc hSb hSA cells slots hC hS i hb j2584 hj2584
      | 22, hkq =>
        obtain rfl := Option.some.inj hkq
        refine ⟨1403, 1443, rfl, rfl, ?_⟩
        exact lb_22 hlt X hnc hargs hAs hr hlk hSc hSb hSA cells slots hC hS i hb j2584 hj2584
      | 23, hkq =>
        obtain rfl := Option.some.inj hkq
        refine ⟨1416, 1456, rfl, rfl, ?_⟩
        exact lb_23 hlt X hnc hargs hAs hr hlk hSc hSb hSA cells slots hC hS i hb j2584 hj2584
      | 24, hkq =>
        obtain rfl := Option.some.inj hkq
        refine ⟨1484, 1524, rfl, rfl, ?_⟩
        exact lb_24 hlt X hnc hargs hAs hr hlk hSc hSb hSA cells slots hC hS i hb j2584 hj2584
      | 25, hkq =>
        obtain rfl := Option.some.inj hkq
        refine ⟨1552, 1592, rfl, rfl, ?_⟩
        exact lb_25 hlt X hnc hargs hAs hr hlk hSc hSb hSA cells slots hC hS i hb j2584 hj2584
      | 26, hkq =>
        obtain rfl := Option.some.inj hkq
        refine ⟨1577, 1617, rfl, rfl, ?_⟩
        exact lb_26 hlt X hnc hargs hAs hr hlk hSc hSb hSA cells slots hC hS i hb j2584 hj2584
      | 27, hkq =>
        obtain rfl := Option.some.inj hkq
        refine ⟨1645, 1685, rfl, rfl, ?_⟩
        exact lb_27 hlt X hnc hargs hAs hr hlk hSc hSb hSA cells slots hC hS i hb j2584 hj2584
      | 28, hkq =>
        obtain rfl := Option.some.inj hkq
        refine ⟨1701, 1741, rfl, rfl, ?_⟩
        exact lb_28 hlt X hnc hargs hAs hr hlk hSc hSb hSA cells slots hC hS i hb j2584 hj2584
      | 29, hkq =>
        obtain rfl := Option.some.inj hkq
        refine ⟨1757, 1797, rfl, rfl, ?_⟩
        exact lb_29 hlt X hnc hargs hAs hr hlk hSc hSb hSA cells slots hC hS i hb j2584 hj2584
      | 30, hkq =>
        obtain rfl := Option.some.inj hkq
        refine ⟨1813, 1853, rfl, rfl, ?_⟩
        exact lb_30 hlt X hnc hargs hAs hr hlk hSc hSb hSA cells slots hC hS i hb j2584 hj2584
      | 31, hkq =>
        obtain rfl := Option.some.inj hkq
        refine ⟨1869, 1909, rfl, rfl, ?_⟩
        exact lb_31 hlt X hnc hargs hAs hr hlk hSc hSb hSA cells slots hC hS i hb j2584 hj2584
      | 32, hkq =>
        obtain rfl := Option.some.inj hkq
        refine ⟨1937, 1977, rfl, rfl, ?_⟩
        exact lb_32 hlt X hnc hargs hAs hr hlk hSc hSb hSA cells slots hC hS i hb j2584 hj2584
      | 33, hkq =>
        obtain rfl := Option.some.inj hkq
        refine ⟨1993, 2033, rfl, rfl, ?_⟩
        exact lb_33 hlt X hnc hargs hAs hr hlk hSc hSb hSA cells slots hC hS i hb j2584 hj2584
      | 34, hkq =>
        obtain rfl := Option.some.inj hkq
        refine ⟨2061, 2101, rfl, rfl, ?_⟩
        exact lb_34 hlt X hnc hargs hAs hr hlk hSc hSb hSA cells slots hC hS i hb j2584 hj2584
      | 35, hkq =>
        obtain rfl := Option.some.inj hkq
        refine ⟨2140, 2180, rfl, rfl, ?_⟩
        exact lb_35 hlt X hnc hargs hAs hr hlk hSc hSb hSA cells slots hC hS i hb j2584 hj2584
      | 36, hkq =>
        obtain rfl := Option.some.inj hkq
        refine ⟨2220, 2260, rfl, rfl, ?_⟩
        exact lb_36 hlt X hnc hargs hAs hr hlk hSc hSb hSA cells slots hC hS i hb j2584 hj2584
      | 37, hkq =>
        obtain rfl := Option.some.inj hkq
        refine ⟨2280, 2320, rfl, rfl, ?_⟩
        exact lb_37 hlt X hnc hargs hAs hr hlk hSc hSb hSA cells slots hC hS i hb j2584 hj2584
      | 38, hkq =>
        obtain rfl := Option.some.inj hkq
        refine ⟨2391, 2431, rfl, rfl, ?_⟩
        exact lb_38 hlt X hnc hargs hAs hr hlk hSc hSb hSA cells slots hC hS i hb j2584 hj2584
      | 39, hkq =>
        obtain rfl := Option.some.inj hkq
        refine ⟨2447, 2487, rfl, rfl, ?_⟩
        exact lb_39 hlt X hnc hargs hAs hr hlk hSc hSb hSA cells slots hC hS i hb j2584 hj2584
      | 40, hkq =>
        obtain rfl := Option.some.inj hkq
        refine ⟨2483, 2523, rfl, rfl, ?_⟩
        exact lb_40 hlt X hnc hargs hAs hr hlk hSc hSb hSA cells slots hC hS i hb j2584 hj2584
      | 41, hkq =>
        obtain rfl := Option.some.inj hkq
        refine ⟨2519, 2559, rfl, rfl, ?_⟩
        exact lb_41 hlt X hnc hargs hAs hr hlk hSc hSb hSA cells slots hC hS i hb j2584 hj2584
      | kq + 42, hkq => simp at hkq

def pgX8_clear : List (Nat × Instr × Nat) := [(0, .aload_n 0, 1), (1, .iconst 0, 1), (2, .putfield 28, 3), (5, .aload_n 0, 1), (6, .iconst 0, 1), (7, .putfield 31, 3), (10, .aload_n 0, 1), (11, .iconst 0, 1), (12, .putfield 34, 3), (15, .aload_n 0, 1), (16, .iconst 3, 1), (17, .putfield 9, 3), (20, .aload_n 0, 1), (21, .iconst 0, 1), (22, .putfield 37, 3), (25, .aload_n 0, 1), (26, .iconst 0, 1), (27, .putfield 40, 3), (30, .aload_n 0, 1), (31, .iconst 0, 1), (32, .putfield 43, 3), (35, .aload_n 0, 1), (36, .iconst 0, 1), (37, .putfield 46, 3), (40, .aload_n 0, 1), (41, .invokevirtual 49, 3), (44, .return_, 1)]
theorem dkX8_clear : ∀ q ∈ pgX8_clear, decode cX8_clear q.1 = .ok q.2 := by decide +kernel
def f_X8_clear (this : Nat) (h0 : PH) : Option (Unit × PH) :=
  lt (pI h0 this 0 (0 : Int32)) (fun (h1 : PH) => lt (pI h1 this 1 (0 : Int32)) (fun (h2 : PH) => lt (pI h2 this 2 (0 : Int32)) (fun (h3 : PH) => lt (pI h3 this 3 (3 : Int32)) (fun (h4 : PH) => lt (pI h4 this 4 (0 : Int32)) (fun (h5 : PH) => lt (pI h5 this 5 (0 : Int32)) (fun (h6 : PH) => lt (pI h6 this 6 (0 : Int32)) (fun (h7 : PH) => lt (pI h7 this 9 (0 : Int32)) (fun (h8 : PH) => cb (f_X8_measure this h8) (fun (r9 : Unit) (h10 : PH) => some ((), h10))))))))))
set_option maxRecDepth 100000 in
set_option maxHeartbeats 4000000 in
theorem ct_X8_clear (l : Launch) (this : Nat) (h0 : PH) (hk : (kd this).1 = 8) : CT mkV l yX8_clear cX8_clear 1 none (rmd 1) [.ref this] h0 (f_X8_clear this h0) := by
  refine ct_of (by decide) (Nat.le_of_ble_eq_true rfl) ?_
  intro p e s m args below meth c D cA ad A X hr hlk
  have X : Cx p s m args c RX8 cX8_clear 1 D cA ad A := X
  unfold f_X8_clear
  refine so_pick (L' := [(0, .ref this)]) X [0] rfl ?_
  refine so_aload_n (i := 0) X 0 (dkX8_clear (0, .aload_n 0, 1) (pgm 0 rfl)) rfl rfl ?_
  refine so_iconst (v := (0 : Int32)) X (dkX8_clear (1, .iconst 0, 1) (pgm 1 rfl)) ic_0 ?_
  refine sf_putI X ff_8_0 ft_8 rfl lk_164 hk rfl rfl (dkX8_clear (2, .putfield 28, 3) (pgm 2 rfl)) (fun h1 => ?_)
  refine so_aload_n (i := 0) X 0 (dkX8_clear (5, .aload_n 0, 1) (pgm 3 rfl)) rfl rfl ?_
  refine so_iconst (v := (0 : Int32)) X (dkX8_clear (6, .iconst 0, 1) (pgm 4 rfl)) ic_0 ?_
  refine sf_putI X ff_8_1 ft_8 rfl lk_167 hk rfl rfl (dkX8_clear (7, .putfield 31, 3) (pgm 5 rfl)) (fun h2 => ?_)
  refine so_aload_n (i := 0) X 0 (dkX8_clear (10, .aload_n 0, 1) (pgm 6 rfl)) rfl rfl ?_
  refine so_iconst (v := (0 : Int32)) X (dkX8_clear (11, .iconst 0, 1) (pgm 7 rfl)) ic_0 ?_
  refine sf_putI X ff_8_2 ft_8 rfl lk_170 hk rfl rfl (dkX8_clear (12, .putfield 34, 3) (pgm 8 rfl)) (fun h3 => ?_)
  refine so_aload_n (i := 0) X 0 (dkX8_clear (15, .aload_n 0, 1) (pgm 9 rfl)) rfl rfl ?_
  refine so_iconst (v := (3 : Int32)) X (dkX8_clear (16, .iconst 3, 1) (pgm 10 rfl)) ic_3 ?_
  refine sf_putI X ff_8_3 ft_8 rfl lk_173 hk rfl rfl (dkX8_clear (17, .putfield 9, 3) (pgm 11 rfl)) (fun h4 => ?_)
  refine so_aload_n (i := 0) X 0 (dkX8_clear (20, .aload_n 0, 1) (pgm 12 rfl)) rfl rfl ?_
  refine so_iconst (v := (0 : Int32)) X (dkX8_clear (21, .iconst 0, 1) (pgm 13 rfl)) ic_0 ?_
  refine sf_putI X ff_8_4 ft_8 rfl lk_177 hk rfl rfl (dkX8_clear (22, .putfield 37, 3) (pgm 14 rfl)) (fun h5 => ?_)
  refine so_aload_n (i := 0) X 0 (dkX8_clear (25, .aload_n 0, 1) (pgm 15 rfl)) rfl rfl ?_
  refine so_iconst (v := (0 : Int32)) X (dkX8_clear (26, .iconst 0, 1) (pgm 16 rfl)) ic_0 ?_
  refine sf_putI X ff_8_5 ft_8 rfl lk_180 hk rfl rfl (dkX8_clear (27, .putfield 40, 3) (pgm 17 rfl)) (fun h6 => ?_)
  refine so_aload_n (i := 0) X 0 (dkX8_clear (30, .aload_n 0, 1) (pgm 18 rfl)) rfl rfl ?_
  refine so_iconst (v := (0 : Int32)) X (dkX8_clear (31, .iconst 0, 1) (pgm 19 rfl)) ic_0 ?_
  refine sf_putI X ff_8_6 ft_8 rfl lk_187 hk rfl rfl (dkX8_clear (32, .putfield 43, 3) (pgm 20 rfl)) (fun h7 => ?_)
  refine so_aload_n (i := 0) X 0 (dkX8_clear (35, .aload_n 0, 1) (pgm 21 rfl)) rfl rfl ?_
  refine so_iconst (v := (0 : Int32)) X (dkX8_clear (36, .iconst 0, 1) (pgm 22 rfl)) ic_0 ?_
  refine sf_putI X ff_8_9 ft_8 rfl lk_203 hk rfl rfl (dkX8_clear (37, .putfield 46, 3) (pgm 23 rfl)) (fun h8 => ?_)
  refine so_aload_n (i := 0) X 0 (dkX8_clear (40, .aload_n 0, 1) (pgm 24 rfl)) rfl rfl ?_
  refine so_callV (n := 0) (As := []) X (ct_X8_measure l this h8 hk) hk (by decide) rfl lk_855 lk_856 lk_857 lk_122 lk_858 (by decide +kernel) rfl rfl rfl (rm_ok (by omega) (by decide)) ⟨Nat.zero_le _, Nat.zero_le _⟩ (Nat.le_of_ble_eq_true rfl) (dkX8_clear (41, .invokevirtual 49, 3) (pgm 25 rfl)) (fun r9 h10 => ?_) rfl
  exact so_vret X hr hlk (dkX8_clear (44, .return_, 1) (pgm 26 rfl))
def pgX10_lay : List (Nat × Instr × Nat) := [(0, .aload_n 0, 1), (1, .iload_n 1, 1), (2, .putfield 19, 3), (5, .aload_n 0, 1), (6, .iload_n 2, 1), (7, .putfield 9, 3), (10, .aload_n 0, 1), (11, .getfield 15, 3), (14, .lconst 0, 1), (15, .invokestatic 22, 3), (18, .return_, 1)]
theorem dkX10_lay : ∀ q ∈ pgX10_lay, decode cX10_lay q.1 = .ok q.2 := by decide +kernel
def f_X10_lay (this : Nat) (a1 : Int32) (a2 : Int32) (h0 : PH) : Option (Unit × PH) :=
  lt (pI h0 this 0 a1) (fun (h1 : PH) => lt (pI h1 this 1 a2) (fun (h2 : PH) => cb (f_J7_fill_d0a16 (rt this 2) 30 (0 : Int64) h2) (fun (r3 : Unit) (h4 : PH) => some ((), h4))))
set_option maxRecDepth 100000 in
set_option maxHeartbeats 4000000 in
theorem ct_X10_lay (l : Launch) (this : Nat) (a1 : Int32) (a2 : Int32) (h0 : PH) (hk : (kd this).1 = 10) : CT mkV l yX10_lay cX10_lay 3 none (rmd 1) [.ref this, .int a1, .int a2] h0 (f_X10_lay this a1 a2 h0) := by
  refine ct_of (by decide) (Nat.le_of_ble_eq_true rfl) ?_
  intro p e s m args below meth c D cA ad A X hr hlk
  have X : Cx p s m args c RX10 cX10_lay 3 D cA ad A := X
  unfold f_X10_lay
  refine so_pick (L' := [(0, .ref this), (1, .int a1), (2, .int a2)]) X [0, 1, 2] rfl ?_
  refine so_aload_n (i := 0) X 0 (dkX10_lay (0, .aload_n 0, 1) (pgm 0 rfl)) rfl rfl ?_
  refine so_iload_n (i := 1) X 1 (dkX10_lay (1, .iload_n 1, 1) (pgm 1 rfl)) rfl rfl ?_
  refine sf_putI X ff_10_0 ft_10 rfl lk_545 hk rfl rfl (dkX10_lay (2, .putfield 19, 3) (pgm 2 rfl)) (fun h1 => ?_)
  refine so_aload_n (i := 0) X 0 (dkX10_lay (5, .aload_n 0, 1) (pgm 3 rfl)) rfl rfl ?_
  refine so_iload_n (i := 2) X 2 (dkX10_lay (6, .iload_n 2, 1) (pgm 4 rfl)) rfl rfl ?_
  refine sf_putI X ff_10_1 ft_10 rfl lk_546 hk rfl rfl (dkX10_lay (7, .putfield 9, 3) (pgm 5 rfl)) (fun h2 => ?_)
  refine so_aload_n (i := 0) X 0 (dkX10_lay (10, .aload_n 0, 1) (pgm 6 rfl)) rfl rfl ?_
  refine sf_getR X ff_10_2 lk_551 hk (dkX10_lay (11, .getfield 15, 3) (pgm 7 rfl)) ?_
  refine so_lconst (v := (0 : Int64)) X (dkX10_lay (14, .lconst 0, 1) (pgm 8 rfl)) lc_0 ?_
  refine so_callS (n := 2) (As := [.ref (rt this 2), .long (0 : Int64)]) X (ct_J7_fill_d0a16 l (rt this 2) 30 (0 : Int64) h2 (rk_10_2 this hk)) lk_1590 lk_1591 lk_127 lk_1592 (by decide +kernel) rfl rfl rfl (rm_ok (by omega) (by decide)) ⟨Nat.zero_le _, Nat.zero_le _⟩ (Nat.le_of_ble_eq_true rfl) (dkX10_lay (15, .invokestatic 22, 3) (pgm 9 rfl)) (fun r3 h4 => ?_) rfl
  exact so_vret X hr hlk (dkX10_lay (18, .return_, 1) (pgm 10 rfl))
def pgX11_feed : List (Nat × Instr × Nat) := [(0, .aload_n 0, 1), (1, .getfield 108, 3), (4, .bipush 20, 2), (6, .iadd, 1), (7, .sipush 900, 3), (10, .if_icmp .le 5, 3), (13, .iconst (-1), 1), (14, .ireturn, 1), (15, .aload_n 0, 1), (16, .iload_n 1, 1), (17, .invokevirtual 112, 3), (20, .aload_n 0, 1), (21, .iload_n 2, 1), (22, .invokevirtual 112, 3), (25, .aload_n 0, 1), (26, .iload_n 3, 1), (27, .invokevirtual 112, 3), (30, .aload_n 0, 1), (31, .iload 4, 2), (33, .invokevirtual 112, 3), (36, .aload_n 0, 1), (37, .iload 5, 2), (39, .invokevirtual 112, 3), (42, .aload_n 0, 1), (43, .getfield 108, 3), (46, .ireturn, 1)]
theorem dkX11_feed : ∀ q ∈ pgX11_feed, decode cX11_feed q.1 = .ok q.2 := by decide +kernel
def f_X11_feed (this : Nat) (a1 : Int32) (a2 : Int32) (a3 : Int32) (a4 : Int32) (a5 : Int32) (h0 : PH) : Option (Int32 × PH) :=
  if ((h0.1 this 1) + (20 : Int32)) ≤ (900 : Int32) then (cb (f_X11_lay this a1 h0) (fun (r1 : Unit) (h2 : PH) => cb (f_X11_lay this a2 h2) (fun (r3 : Unit) (h4 : PH) => cb (f_X11_lay this a3 h4) (fun (r5 : Unit) (h6 : PH) => cb (f_X11_lay this a4 h6) (fun (r7 : Unit) (h8 : PH) => cb (f_X11_lay this a5 h8) (fun (r9 : Unit) (h10 : PH) => some ((h10.1 this 1), h10))))))) else (some ((-1 : Int32), h0))
set_option maxRecDepth 100000 in
set_option maxHeartbeats 4000000 in
theorem ct_X11_feed (l : Launch) (this : Nat) (a1 : Int32) (a2 : Int32) (a3 : Int32) (a4 : Int32) (a5 : Int32) (h0 : PH) (hk : (kd this).1 = 11) : CT mkI l yX11_feed cX11_feed 6 (some .int) (rmd 1) [.ref this, .int a1, .int a2, .int a3, .int a4, .int a5] h0 (f_X11_feed this a1 a2 a3 a4 a5 h0) := by
  refine ct_of (by decide) (Nat.le_of_ble_eq_true rfl) ?_
  intro p e s m args below meth c D cA ad A X hr hlk
  have X : Cx p s m args c RX11 cX11_feed 6 D cA ad A := X
  unfold f_X11_feed
  refine so_pick (L' := [(0, .ref this), (1, .int a1), (2, .int a2), (3, .int a3), (4, .int a4), (5, .int a5)]) X [0, 1, 2, 3, 4, 5] rfl ?_
  refine so_aload_n (i := 0) X 0 (dkX11_feed (0, .aload_n 0, 1) (pgm 0 rfl)) rfl rfl ?_
  refine sf_getI X ff_11_1 lk_566 hk (dkX11_feed (1, .getfield 108, 3) (pgm 1 rfl)) ?_
  refine so_bipush (v := (20 : Int32)) X (dkX11_feed (4, .bipush 20, 2) (pgm 2 rfl)) bp_20 ?_
  refine so_iadd X (dkX11_feed (6, .iadd, 1) (pgm 3 rfl)) ?_
  refine so_sipush (v := (900 : Int32)) X (dkX11_feed (7, .sipush 900, 3) (pgm 4 rfl)) sp_900 ?_
  refine so_icmp_le (tgt := 15) X (dkX11_feed (10, .if_icmp .le 5, 3) (pgm 5 rfl)) rfl (fun _ => ?_) (fun _ => ?_)
  · refine so_aload_n (i := 0) X 0 (dkX11_feed (15, .aload_n 0, 1) (pgm 8 rfl)) rfl rfl ?_
    refine so_iload_n (i := 1) X 1 (dkX11_feed (16, .iload_n 1, 1) (pgm 9 rfl)) rfl rfl ?_
    refine so_callV (n := 1) (As := [.int a1]) X (ct_X11_lay l this a1 h0 hk) hk (by decide) rfl lk_618 lk_620 lk_0 lk_121 lk_621 (by decide +kernel) rfl rfl rfl (rm_ok (by omega) (by decide)) ⟨Nat.zero_le _, Nat.zero_le _⟩ (Nat.le_of_ble_eq_true rfl) (dkX11_feed (17, .invokevirtual 112, 3) (pgm 10 rfl)) (fun r1 h2 => ?_) rfl
    refine so_aload_n (i := 0) X 0 (dkX11_feed (20, .aload_n 0, 1) (pgm 11 rfl)) rfl rfl ?_
    refine so_iload_n (i := 2) X 2 (dkX11_feed (21, .iload_n 2, 1) (pgm 12 rfl)) rfl rfl ?_
    refine so_callV (n := 1) (As := [.int a2]) X (ct_X11_lay l this a2 h2 hk) hk (by decide) rfl lk_618 lk_620 lk_0 lk_121 lk_621 (by decide +kernel) rfl rfl rfl (rm_ok (by omega) (by decide)) ⟨Nat.zero_le _, Nat.zero_le _⟩ (Nat.le_of_ble_eq_true rfl) (dkX11_feed (22, .invokevirtual 112, 3) (pgm 13 rfl)) (fun r3 h4 => ?_) rfl
    refine so_aload_n (i := 0) X 0 (dkX11_feed (25, .aload_n 0, 1) (pgm 14 rfl)) rfl rfl ?_
    refine so_iload_n (i := 3) X 3 (dkX11_feed (26, .iload_n 3, 1) (pgm 15 rfl)) rfl rfl ?_
    refine so_callV (n := 1) (As := [.int a3]) X (ct_X11_lay l this a3 h4 hk) hk (by decide) rfl lk_618 lk_620 lk_0 lk_121 lk_621 (by decide +kernel) rfl rfl rfl (rm_ok (by omega) (by decide)) ⟨Nat.zero_le _, Nat.zero_le _⟩ (Nat.le_of_ble_eq_true rfl) (dkX11_feed (27, .invokevirtual 112, 3) (pgm 16 rfl)) (fun r5 h6 => ?_) rfl
    refine so_aload_n (i := 0) X 0 (dkX11_feed (30, .aload_n 0, 1) (pgm 17 rfl)) rfl rfl ?_
    refine so_iload (i := 4) X 4 (dkX11_feed (31, .iload 4, 2) (pgm 18 rfl)) rfl ?_
    refine so_callV (n := 1) (As := [.int a4]) X (ct_X11_lay l this a4 h6 hk) hk (by decide) rfl lk_618 lk_620 lk_0 lk_121 lk_621 (by decide +kernel) rfl rfl rfl (rm_ok (by omega) (by decide)) ⟨Nat.zero_le _, Nat.zero_le _⟩ (Nat.le_of_ble_eq_true rfl) (dkX11_feed (33, .invokevirtual 112, 3) (pgm 19 rfl)) (fun r7 h8 => ?_) rfl
    refine so_aload_n (i := 0) X 0 (dkX11_feed (36, .aload_n 0, 1) (pgm 20 rfl)) rfl rfl ?_
    refine so_iload (i := 5) X 5 (dkX11_feed (37, .iload 5, 2) (pgm 21 rfl)) rfl ?_
    refine so_callV (n := 1) (As := [.int a5]) X (ct_X11_lay l this a5 h8 hk) hk (by decide) rfl lk_618 lk_620 lk_0 lk_121 lk_621 (by decide +kernel) rfl rfl rfl (rm_ok (by omega) (by decide)) ⟨Nat.zero_le _, Nat.zero_le _⟩ (Nat.le_of_ble_eq_true rfl) (dkX11_feed (39, .invokevirtual 112, 3) (pgm 22 rfl)) (fun r9 h10 => ?_) rfl
    refine so_aload_n (i := 0) X 0 (dkX11_feed (42, .aload_n 0, 1) (pgm 23 rfl)) rfl rfl ?_
    refine sf_getI X ff_11_1 lk_566 hk (dkX11_feed (43, .getfield 108, 3) (pgm 24 rfl)) ?_
    exact so_iret X hr hlk (dkX11_feed (46, .ireturn, 1) (pgm 25 rfl))
  · refine so_iconst (v := (-1 : Int32)) X (dkX11_feed (13, .iconst (-1), 1) (pgm 6 rfl)) ic_m1 ?_
    exact so_iret X hr hlk (dkX11_feed (14, .ireturn, 1) (pgm 7 rfl))
def pgX11_forgetWhatWasFound : List (Nat × Instr × Nat) := [(0, .aload_n 0, 1), (1, .getfield 48, 3), (4, .invokevirtual 145, 3), (7, .aload_n 0, 1), (8, .getfield 57, 3), (11, .invokevirtual 148, 3), (14, .return_, 1)]
theorem dkX11_forgetWhatWasFound : ∀ q ∈ pgX11_forgetWhatWasFound, decode cX11_forgetWhatWasFound q.1 = .ok q.2 := by decide +kernel
def f_X11_forgetWhatWasFound (this : Nat) (h0 : PH) : Option (Unit × PH) :=
  cb (f_X3_forget (rt this 6) h0) (fun (r1 : Unit) (h2 : PH) => cb (f_X2_forget (rt this 7) h2) (fun (r3 : Unit) (h4 : PH) => some ((), h4)))
set_option maxRecDepth 100000 in
set_option maxHeartbeats 4000000 in
theorem ct_X11_forgetWhatWasFound (l : Launch) (this : Nat) (h0 : PH) (hk : (kd this).1 = 11) : CT mkV l yX11_forgetWhatWasFound cX11_forgetWhatWasFound 1 none (rmd 2) [.ref this] h0 (f_X11_forgetWhatWasFound this h0) := by
  refine ct_of (by decide) (Nat.le_of_ble_eq_true rfl) ?_
  intro p e s m args below meth c D cA ad A X hr hlk
  have X : Cx p s m args c RX11 cX11_forgetWhatWasFound 1 D cA ad A := X
  unfold f_X11_forgetWhatWasFound
  refine so_pick (L' := [(0, .ref this)]) X [0] rfl ?_
  refine so_aload_n (i := 0) X 0 (dkX11_forgetWhatWasFound (0, .aload_n 0, 1) (pgm 0 rfl)) rfl rfl ?_
  refine sf_getR X ff_11_6 lk_571 hk (dkX11_forgetWhatWasFound (1, .getfield 48, 3) (pgm 1 rfl)) ?_
  refine so_callV (n := 0) (As := []) X (ct_X3_forget l (rt this 6) h0 (fo (rk_11_6 this hk))) (fo (rk_11_6 this hk)) (by decide) rfl lk_1116 lk_1117 lk_1118 lk_126 lk_1119 (by decide +kernel) rfl rfl rfl (rm_ok (by omega) (by decide)) ⟨Nat.zero_le _, Nat.zero_le _⟩ (Nat.le_of_ble_eq_true rfl) (dkX11_forgetWhatWasFound (4, .invokevirtual 145, 3) (pgm 2 rfl)) (fun r1 h2 => ?_) rfl
  refine so_aload_n (i := 0) X 0 (dkX11_forgetWhatWasFound (7, .aload_n 0, 1) (pgm 3 rfl)) rfl rfl ?_
  refine sf_getR X ff_11_7 lk_572 hk (dkX11_forgetWhatWasFound (8, .getfield 57, 3) (pgm 4 rfl)) ?_
  refine so_callV (n := 0) (As := []) X (ct_X2_forget l (rt this 7) h2 (fo (rk_11_7 this hk))) (fo (rk_11_7 this hk)) (by decide) rfl lk_1120 lk_1121 lk_1122 lk_128 lk_1123 (by decide +kernel) rfl rfl rfl (rm_ok (by omega) (by decide)) ⟨Nat.zero_le _, Nat.zero_le _⟩ (Nat.le_of_ble_eq_true rfl) (dkX11_forgetWhatWasFound (11, .invokevirtual 148, 3) (pgm 5 rfl)) (fun r3 h4 => ?_) rfl
  exact so_vret X hr hlk (dkX11_forgetWhatWasFound (14, .return_, 1) (pgm 6 rfl))
def pgX11_count : List (Nat × Instr × Nat) := [(0, .iload_n 1, 1), (1, .tableswitch 135 0 9 #[55, 63, 71, 79, 87, 95, 103, 114, 122, 130], 55), (56, .aload_n 0, 1), (57, .getfield 20, 3), (60, .getfield 142, 3), (63, .ireturn, 1), (64, .aload_n 0, 1), (65, .getfield 20, 3), (68, .getfield 312, 3), (71, .ireturn, 1), (72, .aload_n 0, 1), (73, .getfield 20, 3), (76, .getfield 439, 3), (79, .ireturn, 1), (80, .aload_n 0, 1), (81, .getfield 20, 3), (84, .getfield 386, 3), (87, .ireturn, 1), (88, .aload_n 0, 1), (89, .getfield 20, 3), (92, .getfield 442, 3), (95, .ireturn, 1), (96, .aload_n 0, 1), (97, .getfield 20, 3), (100, .getfield 133, 3), (103, .ireturn, 1), (104, .aload_n 0, 1), (105, .getfield 39, 3), (108, .getfield 165, 3), (111, .invokestatic 263, 3), (114, .ireturn, 1), (115, .aload_n 0, 1), (116, .getfield 39, 3), (119, .invokevirtual 445, 3), (122, .ireturn, 1), (123, .aload_n 0, 1), (124, .getfield 39, 3), (127, .getfield 368, 3), (130, .ireturn, 1), (131, .aload_n 0, 1), (132, .getfield 108, 3), (135, .ireturn, 1), (136, .iconst (-1), 1), (137, .ireturn, 1)]
theorem dkX11_count : ∀ q ∈ pgX11_count, decode cX11_count q.1 = .ok q.2 := by decide +kernel
def f_X11_count (this : Nat) (a1 : Int32) (h0 : PH) : Option (Int32 × PH) :=
  if a1.toInt < 0 ∨ 9 < a1.toInt then (some ((-1 : Int32), h0)) else ([some ((h0.1 (rt this 2) 0), h0), some ((h0.1 (rt this 2) 1), h0), some ((h0.1 (rt this 2) 2), h0), some ((h0.1 (rt this 2) 3), h0), some ((h0.1 (rt this 2) 4), h0), some ((h0.1 (rt this 2) 5), h0), cb (f_J6_bitCount_0f7a4 (h0.1 (rt this 5) 0) h0) (fun (r1 : Int32) (h2 : PH) => some (r1, h2)), cb (f_X0_allDues (rt this 5) h0) (fun (r3 : Int32) (h4 : PH) => some (r3, h4)), some ((h0.1 (rt this 5) 3), h0), some ((h0.1 this 1), h0)] : List (Option (Int32 × PH))).getD (a1.toInt - 0).toNat none
set_option maxRecDepth 100000 in
set_option maxHeartbeats 4000000 in
theorem ct_X11_count (l : Launch) (this : Nat) (a1 : Int32) (h0 : PH) (hk : (kd this).1 = 11) : CT mkI l yX11_count cX11_count 2 (some .int) (rmd 1) [.ref this, .int a1] h0 (f_X11_count this a1 h0) := by
  refine ct_of (by decide) (Nat.le_of_ble_eq_true rfl) ?_
  intro p e s m args below meth c D cA ad A X hr hlk
  have X : Cx p s m args c RX11 cX11_count 2 D cA ad A := X
  unfold f_X11_count
  refine so_pick (L' := [(0, .ref this), (1, .int a1)]) X [0, 1] rfl ?_
  refine so_iload_n (i := 1) X 1 (dkX11_count (0, .iload_n 1, 1) (pgm 0 rfl)) rfl rfl ?_
  refine so_tsw (tgt := 136) (os := [some ((h0.1 (rt this 2) 0), h0), some ((h0.1 (rt this 2) 1), h0), some ((h0.1 (rt this 2) 2), h0), some ((h0.1 (rt this 2) 3), h0), some ((h0.1 (rt this 2) 4), h0), some ((h0.1 (rt this 2) 5), h0), cb (f_J6_bitCount_0f7a4 (h0.1 (rt this 5) 0) h0) (fun (r1 : Int32) (h2 : PH) => some (r1, h2)), cb (f_X0_allDues (rt this 5) h0) (fun (r3 : Int32) (h4 : PH) => some (r3, h4)), some ((h0.1 (rt this 5) 3), h0), some ((h0.1 this 1), h0)]) X (dkX11_count (1, .tableswitch 135 0 9 #[55, 63, 71, 79, 87, 95, 103, 114, 122, 130], 55) (pgm 1 rfl)) rfl ?_ ?_ rfl
  · refine so_iconst (v := (-1 : Int32)) X (dkX11_count (136, .iconst (-1), 1) (pgm 42 rfl)) ic_m1 ?_
    exact so_iret X hr hlk (dkX11_count (137, .ireturn, 1) (pgm 43 rfl))
  · intro kq ok hkq
    match kq, hkq with
    | 0, hkq =>
      obtain rfl := Option.some.inj hkq
      refine ⟨55, 56, rfl, rfl, ?_⟩
      refine so_aload_n (i := 0) X 0 (dkX11_count (56, .aload_n 0, 1) (pgm 2 rfl)) rfl rfl ?_
      refine sf_getR X ff_11_2 lk_567 hk (dkX11_count (57, .getfield 20, 3) (pgm 3 rfl)) ?_
      refine sf_getI X ff_8_0 lk_165 (fo (rk_11_2 this hk)) (dkX11_count (60, .getfield 142, 3) (pgm 4 rfl)) ?_
      exact so_iret X hr hlk (dkX11_count (63, .ireturn, 1) (pgm 5 rfl))
    | 1, hkq =>
      obtain rfl := Option.some.inj hkq
      refine ⟨63, 64, rfl, rfl, ?_⟩
      refine so_aload_n (i := 0) X 0 (dkX11_count (64, .aload_n 0, 1) (pgm 6 rfl)) rfl rfl ?_
      refine sf_getR X ff_11_2 lk_567 hk (dkX11_count (65, .getfield 20, 3) (pgm 7 rfl)) ?_
      refine sf_getI X ff_8_1 lk_169 (fo (rk_11_2 this hk)) (dkX11_count (68, .getfield 312, 3) (pgm 8 rfl)) ?_
      exact so_iret X hr hlk (dkX11_count (71, .ireturn, 1) (pgm 9 rfl))
    | 2, hkq =>
      obtain rfl := Option.some.inj hkq
      refine ⟨71, 72, rfl, rfl, ?_⟩
      refine so_aload_n (i := 0) X 0 (dkX11_count (72, .aload_n 0, 1) (pgm 10 rfl)) rfl rfl ?_
      refine sf_getR X ff_11_2 lk_567 hk (dkX11_count (73, .getfield 20, 3) (pgm 11 rfl)) ?_
      refine sf_getI X ff_8_2 lk_172 (fo (rk_11_2 this hk)) (dkX11_count (76, .getfield 439, 3) (pgm 12 rfl)) ?_
      exact so_iret X hr hlk (dkX11_count (79, .ireturn, 1) (pgm 13 rfl))
    | 3, hkq =>
      obtain rfl := Option.some.inj hkq
      refine ⟨79, 80, rfl, rfl, ?_⟩
      refine so_aload_n (i := 0) X 0 (dkX11_count (80, .aload_n 0, 1) (pgm 14 rfl)) rfl rfl ?_
      refine sf_getR X ff_11_2 lk_567 hk (dkX11_count (81, .getfield 20, 3) (pgm 15 rfl)) ?_
      refine sf_getI X ff_8_3 lk_176 (fo (rk_11_2 this hk)) (dkX11_count (84, .getfield 386, 3) (pgm 16 rfl)) ?_
      exact so_iret X hr hlk (dkX11_count (87, .ireturn, 1) (pgm 17 rfl))
    | 4, hkq =>
      obtain rfl := Option.some.inj hkq
      refine ⟨87, 88, rfl, rfl, ?_⟩
      refine so_aload_n (i := 0) X 0 (dkX11_count (88, .aload_n 0, 1) (pgm 18 rfl)) rfl rfl ?_
      refine sf_getR X ff_11_2 lk_567 hk (dkX11_count (89, .getfield 20, 3) (pgm 19 rfl)) ?_
      refine sf_getI X ff_8_4 lk_179 (fo (rk_11_2 this hk)) (dkX11_count (92, .getfield 442, 3) (pgm 20 rfl)) ?_
      exact so_iret X hr hlk (dkX11_count (95, .ireturn, 1) (pgm 21 rfl))
    | 5, hkq =>
      obtain rfl := Option.some.inj hkq
      refine ⟨95, 96, rfl, rfl, ?_⟩
      refine so_aload_n (i := 0) X 0 (dkX11_count (96, .aload_n 0, 1) (pgm 22 rfl)) rfl rfl ?_
      refine sf_getR X ff_11_2 lk_567 hk (dkX11_count (97, .getfield 20, 3) (pgm 23 rfl)) ?_
      refine sf_getI X ff_8_5 lk_183 (fo (rk_11_2 this hk)) (dkX11_count (100, .getfield 133, 3) (pgm 24 rfl)) ?_
      exact so_iret X hr hlk (dkX11_count (103, .ireturn, 1) (pgm 25 rfl))
    | 6, hkq =>
      obtain rfl := Option.some.inj hkq
      refine ⟨103, 104, rfl, rfl, ?_⟩
      refine so_aload_n (i := 0) X 0 (dkX11_count (104, .aload_n 0, 1) (pgm 26 rfl)) rfl rfl ?_
      refine sf_getR X ff_11_5 lk_570 hk (dkX11_count (105, .getfield 39, 3) (pgm 27 rfl)) ?_
      refine sf_getI X ff_0_0 lk_338 (fo (rk_11_5 this hk)) (dkX11_count (108, .getfield 165, 3) (pgm 28 rfl)) ?_
      refine so_callS (n := 1) (As := [.int (h0.1 (rt this 5) 0)]) X (ct_J6_bitCount_0f7a4 l (h0.1 (rt this 5) 0) h0 ) lk_766 lk_635 lk_147 lk_636 (by decide +kernel) rfl rfl rfl (rm_ok (by omega) (by decide)) ⟨Nat.zero_le _, Nat.zero_le _⟩ (Nat.le_of_ble_eq_true rfl) (dkX11_count (111, .invokestatic 263, 3) (pgm 29 rfl)) (fun r1 h2 => ?_) rfl
      exact so_iret X hr hlk (dkX11_count (114, .ireturn, 1) (pgm 30 rfl))
    | 7, hkq =>
      obtain rfl := Option.some.inj hkq
      refine ⟨114, 115, rfl, rfl, ?_⟩
      refine so_aload_n (i := 0) X 0 (dkX11_count (115, .aload_n 0, 1) (pgm 31 rfl)) rfl rfl ?_
      refine sf_getR X ff_11_5 lk_570 hk (dkX11_count (116, .getfield 39, 3) (pgm 32 rfl)) ?_
      refine so_callV (n := 0) (As := []) X (ct_X0_allDues l (rt this 5) h0 (fo (rk_11_5 this hk))) (fo (rk_11_5 this hk)) (by decide) rfl lk_767 lk_768 lk_769 lk_125 lk_770 (by decide +kernel) rfl rfl rfl (rm_ok (by omega) (by decide)) ⟨Nat.zero_le _, Nat.zero_le _⟩ (Nat.le_of_ble_eq_true rfl) (dkX11_count (119, .invokevirtual 445, 3) (pgm 33 rfl)) (fun r3 h4 => ?_) rfl
      exact so_iret X hr hlk (dkX11_count (122, .ireturn, 1) (pgm 34 rfl))
    | 8, hkq =>
      obtain rfl := Option.some.inj hkq
      refine ⟨122, 123, rfl, rfl, ?_⟩
      refine so_aload_n (i := 0) X 0 (dkX11_count (123, .aload_n 0, 1) (pgm 35 rfl)) rfl rfl ?_
      refine sf_getR X ff_11_5 lk_570 hk (dkX11_count (124, .getfield 39, 3) (pgm 36 rfl)) ?_
      refine sf_getI X ff_0_3 lk_345 (fo (rk_11_5 this hk)) (dkX11_count (127, .getfield 368, 3) (pgm 37 rfl)) ?_
      exact so_iret X hr hlk (dkX11_count (130, .ireturn, 1) (pgm 38 rfl))
    | 9, hkq =>
      obtain rfl := Option.some.inj hkq
      refine ⟨130, 131, rfl, rfl, ?_⟩
      refine so_aload_n (i := 0) X 0 (dkX11_count (131, .aload_n 0, 1) (pgm 39 rfl)) rfl rfl ?_
      refine sf_getI X ff_11_1 lk_566 hk (dkX11_count (132, .getfield 108, 3) (pgm 40 rfl)) ?_
      exact so_iret X hr hlk (dkX11_count (135, .ireturn, 1) (pgm 41 rfl))
    | kq + 10, hkq => simp at hkq
def pgX12_trayFault : List (Nat × Instr × Nat) := [(0, .iload_n 1, 1), (1, .invokestatic 369, 3), (4, .ifCond .ne 7, 3), (7, .iconst 1, 1), (8, .goto 18, 3), (11, .aload_n 0, 1), (12, .getfield 80, 3), (15, .iload_n 1, 1), (16, .iaload, 1), (17, .iconst (-1), 1), (18, .if_icmp .ne 7, 3), (21, .iconst 2, 1), (22, .goto 4, 3), (25, .iconst 0, 1), (26, .ireturn, 1)]
theorem dkX12_trayFault : ∀ q ∈ pgX12_trayFault, decode cX12_trayFault q.1 = .ok q.2 := by decide +kernel
def f_X12_trayFault (this : Nat) (a1 : Int32) (h0 : PH) : Option (Int32 × PH) :=
  cb (f_X12_isTray a1 h0) (fun (r1 : Int32) (h2 : PH) => lt (fun (t3 : Int32) (h4 : PH) => some (t3, h4)) (fun (j26 : Int32 → PH → Option (Int32 × PH)) => if r1 = 0 then (j26 (1 : Int32) h2) else (ldI h2 (rt this 36) 4 a1 (fun (x5 : Int32) => if x5 = (-1 : Int32) then (j26 (2 : Int32) h2) else (j26 (0 : Int32) h2)))))
set_option maxRecDepth 100000 in
set_option maxHeartbeats 4000000 in
theorem ct_X12_trayFault (l : Launch) (this : Nat) (a1 : Int32) (h0 : PH) (hk : (kd this).1 = 12) : CT mkI l yX12_trayFault cX12_trayFault 2 (some .int) (rmd 2) [.ref this, .int a1] h0 (f_X12_trayFault this a1 h0) := by
  refine ct_of (by decide) (Nat.le_of_ble_eq_true rfl) ?_
  intro p e s m args below meth c D cA ad A X hr hlk
  have X : Cx p s m args c RX12 cX12_trayFault 2 D cA ad A := X
  unfold f_X12_trayFault
  refine so_pick (L' := [(0, .ref this), (1, .int a1)]) X [0, 1] rfl ?_
  refine so_iload_n (i := 1) X 1 (dkX12_trayFault (0, .iload_n 1, 1) (pgm 0 rfl)) rfl rfl ?_
  refine so_callS (n := 1) (As := [.int a1]) X (ct_X12_isTray l a1 h0 ) lk_2134 lk_2135 lk_134 lk_2136 (by decide +kernel) rfl rfl rfl (rm_ok (by omega) (by decide)) ⟨Nat.zero_le _, Nat.zero_le _⟩ (Nat.le_of_ble_eq_true rfl) (dkX12_trayFault (1, .invokestatic 369, 3) (pgm 1 rfl)) (fun r1 h2 => ?_) rfl
  refine so_join (jf := fun (t3 : Int32) (h4 : PH) => some (t3, h4)) (fun (j : Int32 → PH → Option (Int32 × PH)) => ∀ (t3 : Int32) (h4 : PH), SWo (QM mkI below args s D cA ad A) p l e (rmd 2) s m args below meth c 0 0 2 D cA ad A 26 [] [.int t3] h4 (j t3 h4)) ?_ (fun j26 hj26 => ?_)
  · intro t3 h4
    exact so_iret X hr hlk (dkX12_trayFault (26, .ireturn, 1) (pgm 14 rfl))
  refine so_if_ne (tgt := 11) X (dkX12_trayFault (4, .ifCond .ne 7, 3) (pgm 2 rfl)) rfl (fun _ => ?_) (fun _ => ?_)
  · refine so_aload_n (i := 0) X 0 (dkX12_trayFault (11, .aload_n 0, 1) (pgm 5 rfl)) rfl rfl ?_
    refine sf_getR X ff_12_36 lk_1738 hk (dkX12_trayFault (12, .getfield 80, 3) (pgm 6 rfl)) ?_
    refine so_iload_n (i := 1) X 1 (dkX12_trayFault (15, .iload_n 1, 1) (pgm 7 rfl)) rfl rfl ?_
    refine so_iald X (rk_12_36 this hk) (dkX12_trayFault (16, .iaload, 1) (pgm 8 rfl)) (fun x5 => ?_)
    refine so_iconst (v := (-1 : Int32)) X (dkX12_trayFault (17, .iconst (-1), 1) (pgm 9 rfl)) ic_m1 ?_
    refine so_icmp_ne (tgt := 25) X (dkX12_trayFault (18, .if_icmp .ne 7, 3) (pgm 10 rfl)) rfl (fun _ => ?_) (fun _ => ?_)
    · refine so_iconst (v := (0 : Int32)) X (dkX12_trayFault (25, .iconst 0, 1) (pgm 13 rfl)) ic_0 ?_
      exact so_pick X [] rfl (hj26 (0 : Int32) h2)
    · refine so_iconst (v := (2 : Int32)) X (dkX12_trayFault (21, .iconst 2, 1) (pgm 11 rfl)) ic_2 ?_
      refine so_goto (tgt := 26) X (dkX12_trayFault (22, .goto 4, 3) (pgm 12 rfl)) rfl ?_
      exact so_pick X [] rfl (hj26 (2 : Int32) h2)
  · refine so_iconst (v := (1 : Int32)) X (dkX12_trayFault (7, .iconst 1, 1) (pgm 3 rfl)) ic_1 ?_
    refine so_goto (tgt := 26) X (dkX12_trayFault (8, .goto 18, 3) (pgm 4 rfl)) rfl ?_
    exact so_pick X [] rfl (hj26 (1 : Int32) h2)
def pgX12_wantsFault : List (Nat × Instr × Nat) := [(0, .aload_n 0, 1), (1, .iload_n 1, 1), (2, .invokevirtual 385, 3), (5, .istore_n 3, 1), (6, .iload_n 3, 1), (7, .ifCond .eq 5, 3), (10, .iload_n 3, 1), (11, .ireturn, 1), (12, .aload_n 0, 1), (13, .getfield 9, 3), (16, .iconst 1, 1), (17, .iaload, 1), (18, .ifCond .ne 5, 3), (21, .iconst 2, 1), (22, .ireturn, 1), (23, .iload_n 2, 1), (24, .i2l, 1), (25, .lconst 0, 1), (26, .lconst 1, 1), (27, .invokestatic 156, 3), (30, .ifCond .ne 17, 3), (33, .iload_n 2, 1), (34, .i2l, 1), (35, .ldc2_w 388, 3), (38, .ldc2_w 390, 3), (41, .invokestatic 156, 3), (44, .ifCond .eq 20, 3), (47, .aload_n 0, 1), (48, .getfield 83, 3), (51, .iload_n 1, 1), (52, .iaload, 1), (53, .i2l, 1), (54, .lconst 1, 1), (55, .ldc2_w 390, 3), (58, .invokestatic 156, 3), (61, .ifCond .ne 5, 3), (64, .iconst 3, 1), (65, .ireturn, 1), (66, .iconst 0, 1), (67, .istore 4, 2), (69, .iload 4, 2), (71, .aload_n 0, 1), (72, .getfield 83, 3), (75, .iload_n 1, 1), (76, .iaload, 1), (77, .if_icmp .ge 41, 3), (80, .aload_n 0, 1), (81, .getfield 86, 3), (84, .bipush 30, 2), (86, .iload_n 1, 1), (87, .imul, 1), (88, .iload 4, 2), (90, .iadd, 1), (91, .laload, 1), (92, .lconst 0, 1), (93, .ldc2_w 325, 3), (96, .aload_n 0, 1), (97, .invokevirtual 252, 3), (100, .i2l, 1), (101, .lmul, 1), (102, .lconst 1, 1), (103, .ladd, 1), (104, .invokestatic 156, 3), (107, .ifCond .ne 5, 3), (110, .iconst 3, 1), (111, .ireturn, 1), (112, .iinc 4 1, 3), (115, .goto (-46), 3), (118, .iconst 0, 1), (119, .ireturn, 1)]
theorem dkX12_wantsFault : ∀ q ∈ pgX12_wantsFault, decode cX12_wantsFault q.1 = .ok q.2 := by decide +kernel
def b_X12_wantsFault_69 (this : Nat) (a1 : Int32) (rec69 : (Int32) → PH → Option (Int32 × PH)) (s69 : Int32) (hh69 : PH) : Option (Int32 × PH) :=
  ldI hh69 (rt this 37) 4 a1 (fun (x13 : Int32) => if x13 ≤ s69 then (some ((0 : Int32), hh69)) else (ldL hh69 (rt this 38) 120 (((30 : Int32) * a1) + s69) (fun (x14 : Int64) => cb (f_X12_everywhere this hh69) (fun (r15 : Int32) (h16 : PH) => cb (f_X12_within x14 (0 : Int64) (((2 : Int64) * r15.toInt64) + (1 : Int64)) h16) (fun (r17 : Int32) (h18 : PH) => if r17 = 0 then (some ((3 : Int32), h18)) else (lt (s69 + Int32.ofInt 1) (fun (x19 : Int32) => rec69 x19 h18)))))))
def f_X12_wantsFault (this : Nat) (a1 : Int32) (a2 : Int32) (h0 : PH) : Option (Int32 × PH) :=
  cb (f_X12_trayFault this a1 h0) (fun (r1 : Int32) (h2 : PH) => lt r1 (fun (x3 : Int32) => if x3 = 0 then (ldI h2 (rt this 0) 1200 (1 : Int32) (fun (x4 : Int32) => if x4 = 0 then (some ((2 : Int32), h2)) else (cb (f_X12_within a2.toInt64 (0 : Int64) (1 : Int64) h2) (fun (r5 : Int32) (h6 : PH) => lt (fun (h7 : PH) => some ((3 : Int32), h7)) (fun (j64 : PH → Option (Int32 × PH)) => lt (fun (h8 : PH) => ldI h8 (rt this 37) 4 a1 (fun (x9 : Int32) => cb (f_X12_within x9.toInt64 (1 : Int64) (12 : Int64) h8) (fun (r10 : Int32) (h11 : PH) => if r10 = 0 then (j64 h11) else (lt (0 : Int32) (fun (x12 : Int32) => lp (b_X12_wantsFault_69 this a1) FU x12 h11))))) (fun (j47 : PH → Option (Int32 × PH)) => if r5 = 0 then (cb (f_X12_within a2.toInt64 (10 : Int64) (12 : Int64) h6) (fun (r20 : Int32) (h21 : PH) => if r20 = 0 then (j64 h21) else (j47 h21))) else (j47 h6))))))) else (some (x3, h2))))
set_option maxRecDepth 100000 in
set_option maxHeartbeats 4000000 in
theorem ct_X12_wantsFault (l : Launch) (this : Nat) (a1 : Int32) (a2 : Int32) (h0 : PH) (hk : (kd this).1 = 12) : CT mkI l yX12_wantsFault cX12_wantsFault 5 (some .int) (rmd 3) [.ref this, .int a1, .int a2] h0 (f_X12_wantsFault this a1 a2 h0) := by
  refine ct_of (by decide) (Nat.le_of_ble_eq_true rfl) ?_
  intro p e s m args below meth c D cA ad A X hr hlk
  have X : Cx p s m args c RX12 cX12_wantsFault 5 D cA ad A := X
  unfold f_X12_wantsFault
  refine so_pick (L' := [(0, .ref this), (1, .int a1), (2, .int a2)]) X [0, 1, 2] rfl ?_
  refine so_aload_n (i := 0) X 0 (dkX12_wantsFault (0, .aload_n 0, 1) (pgm 0 rfl)) rfl rfl ?_
  refine so_iload_n (i := 1) X 1 (dkX12_wantsFault (1, .iload_n 1, 1) (pgm 1 rfl)) rfl rfl ?_
  refine so_callV (n := 1) (As := [.int a1]) X (ct_X12_trayFault l this a1 h0 hk) hk (by decide) rfl lk_2130 lk_2132 lk_103 lk_134 lk_2133 (by decide +kernel) rfl rfl rfl (rm_ok (by omega) (by decide)) ⟨Nat.zero_le _, Nat.zero_le _⟩ (Nat.le_of_ble_eq_true rfl) (dkX12_wantsFault (2, .invokevirtual 385, 3) (pgm 2 rfl)) (fun r1 h2 => ?_) rfl
  refine so_istore_n (i := 3) X (dkX12_wantsFault (5, .istore_n 3, 1) (pgm 3 rfl)) rfl (by decide) (Lf := fun x3 => [(3, .int x3), (0, .ref this), (1, .int a1), (2, .int a2)]) (fun _ => rfl) (fun x3 => ?_)
  refine so_iload_n (i := 3) X 0 (dkX12_wantsFault (6, .iload_n 3, 1) (pgm 4 rfl)) rfl rfl ?_
  refine so_if_eq (tgt := 12) X (dkX12_wantsFault (7, .ifCond .eq 5, 3) (pgm 5 rfl)) rfl (fun _ => ?_) (fun _ => ?_)
  · refine so_aload_n (i := 0) X 1 (dkX12_wantsFault (12, .aload_n 0, 1) (pgm 8 rfl)) rfl rfl ?_
    refine sf_getR X ff_12_0 lk_1702 hk (dkX12_wantsFault (13, .getfield 9, 3) (pgm 9 rfl)) ?_
    refine so_iconst (v := (1 : Int32)) X (dkX12_wantsFault (16, .iconst 1, 1) (pgm 10 rfl)) ic_1 ?_
    refine so_iald X (rk_12_0 this hk) (dkX12_wantsFault (17, .iaload, 1) (pgm 11 rfl)) (fun x4 => ?_)
    refine so_if_ne (tgt := 23) X (dkX12_wantsFault (18, .ifCond .ne 5, 3) (pgm 12 rfl)) rfl (fun _ => ?_) (fun _ => ?_)
    · refine so_iload_n (i := 2) X 3 (dkX12_wantsFault (23, .iload_n 2, 1) (pgm 15 rfl)) rfl rfl ?_
      refine so_i2l X (dkX12_wantsFault (24, .i2l, 1) (pgm 16 rfl)) ?_
      refine so_lconst (v := (0 : Int64)) X (dkX12_wantsFault (25, .lconst 0, 1) (pgm 17 rfl)) lc_0 ?_
      refine so_lconst (v := (1 : Int64)) X (dkX12_wantsFault (26, .lconst 1, 1) (pgm 18 rfl)) lc_1 ?_
      refine so_callS (n := 3) (As := [.long a2.toInt64, .long (0 : Int64), .long (1 : Int64)]) X (ct_X12_within l a2.toInt64 (0 : Int64) (1 : Int64) h2 ) lk_1832 lk_1833 lk_134 lk_1834 (by decide +kernel) rfl rfl rfl (rm_ok (by omega) (by decide)) ⟨Nat.zero_le _, Nat.zero_le _⟩ (Nat.le_of_ble_eq_true rfl) (dkX12_wantsFault (27, .invokestatic 156, 3) (pgm 19 rfl)) (fun r5 h6 => ?_) rfl
      refine so_join (jf := fun (h7 : PH) => some ((3 : Int32), h7)) (fun (j : PH → Option (Int32 × PH)) => ∀  (h7 : PH), SWo (QM mkI below args s D cA ad A) p l e (rmd 3) s m args below meth c 0 0 5 D cA ad A 64 [] [] h7 (j h7)) ?_ (fun j64 hj64 => ?_)
      · intro h7
        refine so_iconst (v := (3 : Int32)) X (dkX12_wantsFault (64, .iconst 3, 1) (pgm 36 rfl)) ic_3 ?_
        exact so_iret X hr hlk (dkX12_wantsFault (65, .ireturn, 1) (pgm 37 rfl))
      refine so_join (jf := fun (h8 : PH) => ldI h8 (rt this 37) 4 a1 (fun (x9 : Int32) => cb (f_X12_within x9.toInt64 (1 : Int64) (12 : Int64) h8) (fun (r10 : Int32) (h11 : PH) => if r10 = 0 then (j64 h11) else (lt (0 : Int32) (fun (x12 : Int32) => lp (b_X12_wantsFault_69 this a1) FU x12 h11))))) (fun (j : PH → Option (Int32 × PH)) => ∀  (h8 : PH), SWo (QM mkI below args s D cA ad A) p l e (rmd 3) s m args below meth c 0 0 5 D cA ad A 47 [(0, .ref this), (1, .int a1)] [] h8 (j h8)) ?_ (fun j47 hj47 => ?_)
      · intro h8
        refine so_aload_n (i := 0) X 0 (dkX12_wantsFault (47, .aload_n 0, 1) (pgm 27 rfl)) rfl rfl ?_
        refine sf_getR X ff_12_37 lk_1739 hk (dkX12_wantsFault (48, .getfield 83, 3) (pgm 28 rfl)) ?_
        refine so_iload_n (i := 1) X 1 (dkX12_wantsFault (51, .iload_n 1, 1) (pgm 29 rfl)) rfl rfl ?_
        refine so_iald X (rk_12_37 this hk) (dkX12_wantsFault (52, .iaload, 1) (pgm 30 rfl)) (fun x9 => ?_)
        refine so_i2l X (dkX12_wantsFault (53, .i2l, 1) (pgm 31 rfl)) ?_
        refine so_lconst (v := (1 : Int64)) X (dkX12_wantsFault (54, .lconst 1, 1) (pgm 32 rfl)) lc_1 ?_
        refine so_ldc2 X lk_2138 (dkX12_wantsFault (55, .ldc2_w 390, 3) (pgm 33 rfl)) ?_
        refine so_callS (n := 3) (As := [.long x9.toInt64, .long (1 : Int64), .long (12 : Int64)]) X (ct_X12_within l x9.toInt64 (1 : Int64) (12 : Int64) h8 ) lk_1832 lk_1833 lk_134 lk_1834 (by decide +kernel) rfl rfl rfl (rm_ok (by omega) (by decide)) ⟨Nat.zero_le _, Nat.zero_le _⟩ (Nat.le_of_ble_eq_true rfl) (dkX12_wantsFault (58, .invokestatic 156, 3) (pgm 34 rfl)) (fun r10 h11 => ?_) rfl
        refine so_if_ne (tgt := 66) X (dkX12_wantsFault (61, .ifCond .ne 5, 3) (pgm 35 rfl)) rfl (fun _ => ?_) (fun _ => ?_)
        · refine so_iconst (v := (0 : Int32)) X (dkX12_wantsFault (66, .iconst 0, 1) (pgm 38 rfl)) ic_0 ?_
          refine so_istore (i := 4) X (dkX12_wantsFault (67, .istore 4, 2) (pgm 39 rfl)) (by decide) (Lf := fun x12 => [(4, .int x12), (0, .ref this), (1, .int a1)]) (fun _ => rfl) (fun x12 => ?_)
          refine so_pick (L' := [(0, .ref this), (1, .int a1), (4, .int x12)]) X [1, 2, 0] rfl ?_
          refine so_loop (body := b_X12_wantsFault_69 this a1) (fun (s69 : Int32) => [(0, .ref this), (1, .int a1), (4, .int s69)]) (fun rec69 hrec69 s69 hh69 => ?_) FU x12 h11
          unfold b_X12_wantsFault_69
          refine so_iload (i := 4) X 2 (dkX12_wantsFault (69, .iload 4, 2) (pgm 40 rfl)) rfl ?_
          refine so_aload_n (i := 0) X 0 (dkX12_wantsFault (71, .aload_n 0, 1) (pgm 41 rfl)) rfl rfl ?_
          refine sf_getR X ff_12_37 lk_1739 hk (dkX12_wantsFault (72, .getfield 83, 3) (pgm 42 rfl)) ?_
          refine so_iload_n (i := 1) X 1 (dkX12_wantsFault (75, .iload_n 1, 1) (pgm 43 rfl)) rfl rfl ?_
          refine so_iald X (rk_12_37 this hk) (dkX12_wantsFault (76, .iaload, 1) (pgm 44 rfl)) (fun x13 => ?_)
          refine so_icmp_ge (tgt := 118) X (dkX12_wantsFault (77, .if_icmp .ge 41, 3) (pgm 45 rfl)) rfl (fun _ => ?_) (fun _ => ?_)
          · refine so_iconst (v := (0 : Int32)) X (dkX12_wantsFault (118, .iconst 0, 1) (pgm 68 rfl)) ic_0 ?_
            exact so_iret X hr hlk (dkX12_wantsFault (119, .ireturn, 1) (pgm 69 rfl))
          · refine so_aload_n (i := 0) X 0 (dkX12_wantsFault (80, .aload_n 0, 1) (pgm 46 rfl)) rfl rfl ?_
            refine sf_getR X ff_12_38 lk_1740 hk (dkX12_wantsFault (81, .getfield 86, 3) (pgm 47 rfl)) ?_
            refine so_bipush (v := (30 : Int32)) X (dkX12_wantsFault (84, .bipush 30, 2) (pgm 48 rfl)) bp_30 ?_
            refine so_iload_n (i := 1) X 1 (dkX12_wantsFault (86, .iload_n 1, 1) (pgm 49 rfl)) rfl rfl ?_
            refine so_imul X (dkX12_wantsFault (87, .imul, 1) (pgm 50 rfl)) ?_
            refine so_iload (i := 4) X 2 (dkX12_wantsFault (88, .iload 4, 2) (pgm 51 rfl)) rfl ?_
            refine so_iadd X (dkX12_wantsFault (90, .iadd, 1) (pgm 52 rfl)) ?_
            refine so_lald X (rk_12_38 this hk) (dkX12_wantsFault (91, .laload, 1) (pgm 53 rfl)) (fun x14 => ?_)
            refine so_lconst (v := (0 : Int64)) X (dkX12_wantsFault (92, .lconst 0, 1) (pgm 54 rfl)) lc_0 ?_
            refine so_ldc2 X lk_2034 (dkX12_wantsFault (93, .ldc2_w 325, 3) (pgm 55 rfl)) ?_
            refine so_aload_n (i := 0) X 0 (dkX12_wantsFault (96, .aload_n 0, 1) (pgm 56 rfl)) rfl rfl ?_
            refine so_callV (n := 0) (As := []) X (ct_X12_everywhere l this hh69 hk) hk (by decide) rfl lk_1664 lk_1666 lk_56 lk_134 lk_1667 (by decide +kernel) rfl rfl rfl (rm_ok (by omega) (by decide)) ⟨Nat.zero_le _, Nat.zero_le _⟩ (Nat.le_of_ble_eq_true rfl) (dkX12_wantsFault (97, .invokevirtual 252, 3) (pgm 57 rfl)) (fun r15 h16 => ?_) rfl
            refine so_i2l X (dkX12_wantsFault (100, .i2l, 1) (pgm 58 rfl)) ?_
            refine so_lmul X (dkX12_wantsFault (101, .lmul, 1) (pgm 59 rfl)) ?_
            refine so_lconst (v := (1 : Int64)) X (dkX12_wantsFault (102, .lconst 1, 1) (pgm 60 rfl)) lc_1 ?_
            refine so_ladd X (dkX12_wantsFault (103, .ladd, 1) (pgm 61 rfl)) ?_
            refine so_callS (n := 3) (As := [.long x14, .long (0 : Int64), .long (((2 : Int64) * r15.toInt64) + (1 : Int64))]) X (ct_X12_within l x14 (0 : Int64) (((2 : Int64) * r15.toInt64) + (1 : Int64)) h16 ) lk_1832 lk_1833 lk_134 lk_1834 (by decide +kernel) rfl rfl rfl (rm_ok (by omega) (by decide)) ⟨Nat.zero_le _, Nat.zero_le _⟩ (Nat.le_of_ble_eq_true rfl) (dkX12_wantsFault (104, .invokestatic 156, 3) (pgm 62 rfl)) (fun r17 h18 => ?_) rfl
            refine so_if_ne (tgt := 112) X (dkX12_wantsFault (107, .ifCond .ne 5, 3) (pgm 63 rfl)) rfl (fun _ => ?_) (fun _ => ?_)
            · refine so_iinc (i := 4) X 2 (dkX12_wantsFault (112, .iinc 4 1, 3) (pgm 66 rfl)) rfl rfl (by decide) (Lf := fun x19 => [(4, .int x19), (0, .ref this), (1, .int a1)]) (fun _ => rfl) (fun x19 => ?_)
              refine so_goto (tgt := 69) X (dkX12_wantsFault (115, .goto (-46), 3) (pgm 67 rfl)) rfl ?_
              exact so_pick X [1, 2, 0] rfl (hrec69 x19 h18)
            · refine so_iconst (v := (3 : Int32)) X (dkX12_wantsFault (110, .iconst 3, 1) (pgm 64 rfl)) ic_3 ?_
              exact so_iret X hr hlk (dkX12_wantsFault (111, .ireturn, 1) (pgm 65 rfl))
        · exact so_pick X [] rfl (hj64 h11)
      refine so_if_ne (tgt := 47) X (dkX12_wantsFault (30, .ifCond .ne 17, 3) (pgm 20 rfl)) rfl (fun _ => ?_) (fun _ => ?_)
      · exact so_pick X [1, 2] rfl (hj47 h6)
      · refine so_iload_n (i := 2) X 3 (dkX12_wantsFault (33, .iload_n 2, 1) (pgm 21 rfl)) rfl rfl ?_
        refine so_i2l X (dkX12_wantsFault (34, .i2l, 1) (pgm 22 rfl)) ?_
        refine so_ldc2 X lk_2137 (dkX12_wantsFault (35, .ldc2_w 388, 3) (pgm 23 rfl)) ?_
        refine so_ldc2 X lk_2138 (dkX12_wantsFault (38, .ldc2_w 390, 3) (pgm 24 rfl)) ?_
        refine so_callS (n := 3) (As := [.long a2.toInt64, .long (10 : Int64), .long (12 : Int64)]) X (ct_X12_within l a2.toInt64 (10 : Int64) (12 : Int64) h6 ) lk_1832 lk_1833 lk_134 lk_1834 (by decide +kernel) rfl rfl rfl (rm_ok (by omega) (by decide)) ⟨Nat.zero_le _, Nat.zero_le _⟩ (Nat.le_of_ble_eq_true rfl) (dkX12_wantsFault (41, .invokestatic 156, 3) (pgm 25 rfl)) (fun r20 h21 => ?_) rfl
        refine so_if_eq (tgt := 64) X (dkX12_wantsFault (44, .ifCond .eq 20, 3) (pgm 26 rfl)) rfl (fun _ => ?_) (fun _ => ?_)
        · exact so_pick X [] rfl (hj64 h21)
        · exact so_pick X [1, 2] rfl (hj47 h21)
    · refine so_iconst (v := (2 : Int32)) X (dkX12_wantsFault (21, .iconst 2, 1) (pgm 13 rfl)) ic_2 ?_
      exact so_iret X hr hlk (dkX12_wantsFault (22, .ireturn, 1) (pgm 14 rfl))
  · refine so_iload_n (i := 3) X 0 (dkX12_wantsFault (10, .iload_n 3, 1) (pgm 6 rfl)) rfl rfl ?_
    exact so_iret X hr hlk (dkX12_wantsFault (11, .ireturn, 1) (pgm 7 rfl))
def pgX12_wants : List (Nat × Instr × Nat) := [(0, .aload_n 0, 1), (1, .aload_n 0, 1), (2, .iload_n 1, 1), (3, .iload_n 2, 1), (4, .invokevirtual 392, 3), (7, .putfield 92, 3), (10, .aload_n 0, 1), (11, .getfield 92, 3), (14, .ifCond .le 5, 3), (17, .iconst 0, 1), (18, .ireturn, 1), (19, .aload_n 0, 1), (20, .iconst 0, 1), (21, .putfield 378, 3), (24, .iconst 0, 1), (25, .istore_n 3, 1), (26, .iload_n 3, 1), (27, .iconst 3, 1), (28, .if_icmp .gt 66, 3), (31, .aload_n 0, 1), (32, .iload_n 1, 1), (33, .iconst 0, 1), (34, .iload_n 3, 1), (35, .iconst 0, 1), (36, .invokevirtual 381, 3), (39, .aload_n 0, 1), (40, .getfield 378, 3), (43, .ifCond .le 45, 3), (46, .iload_n 2, 1), (47, .ifCond .ne 7, 3), (50, .iload_n 3, 1), (51, .goto 36, 3), (54, .iload_n 2, 1), (55, .iconst 1, 1), (56, .if_icmp .ne 10, 3), (59, .aload_n 0, 1), (60, .getfield 378, 3), (63, .goto 24, 3), (66, .iload_n 2, 1), (67, .bipush 10, 2), (69, .isub, 1), (70, .iload_n 3, 1), (71, .if_icmp .ge 15, 3), (74, .aload_n 0, 1), (75, .getfield 64, 3), (78, .iload_n 2, 1), (79, .bipush 10, 2), (81, .isub, 1), (82, .iaload, 1), (83, .goto 4, 3), (86, .iconst (-1), 1), (87, .ireturn, 1), (88, .iinc 3 1, 3), (91, .goto (-65), 3), (94, .iconst (-1), 1), (95, .ireturn, 1)]
theorem dkX12_wants : ∀ q ∈ pgX12_wants, decode cX12_wants q.1 = .ok q.2 := by decide +kernel
def b_X12_wants_26 (this : Nat) (a1 : Int32) (j46 : Int32 → PH → Option (Int32 × PH)) (rec26 : (Int32) → PH → Option (Int32 × PH)) (s26 : Int32) (hh26 : PH) : Option (Int32 × PH) :=
  if (3 : Int32) < s26 then (some ((-1 : Int32), hh26)) else (cb (f_X12_goesWants 8 this a1 (0 : Int32) s26 (0 : Int32) hh26) (fun (r11 : Unit) (h12 : PH) => if (h12.1 this 29) ≤ 0 then (lt (s26 + Int32.ofInt 1) (fun (x13 : Int32) => rec26 x13 h12)) else (j46 s26 h12)))
def f_X12_wants (this : Nat) (a1 : Int32) (a2 : Int32) (h0 : PH) : Option (Int32 × PH) :=
  cb (f_X12_wantsFault this a1 a2 h0) (fun (r1 : Int32) (h2 : PH) => lt (pI h2 this 5 r1) (fun (h3 : PH) => if (h3.1 this 5) ≤ 0 then (lt (pI h3 this 29 (0 : Int32)) (fun (h4 : PH) => lt (0 : Int32) (fun (x5 : Int32) => lt (fun (y6 : Int32) (h7 : PH) => lt (fun (t8 : Int32) (h9 : PH) => some (t8, h9)) (fun (j87 : Int32 → PH → Option (Int32 × PH)) => if a2 = 0 then (j87 y6 h7) else (if a2 = (1 : Int32) then (j87 (h7.1 this 29) h7) else (if y6 ≤ (a2 - (10 : Int32)) then (j87 (-1 : Int32) h7) else (ldI h7 (rt this 28) 3 (a2 - (10 : Int32)) (fun (x10 : Int32) => j87 x10 h7)))))) (fun (j46 : Int32 → PH → Option (Int32 × PH)) => lp (b_X12_wants_26 this a1 j46) FU x5 h4)))) else (some ((0 : Int32), h3))))
set_option maxRecDepth 100000 in
set_option maxHeartbeats 4000000 in
theorem ct_X12_wants (l : Launch) (this : Nat) (a1 : Int32) (a2 : Int32) (h0 : PH) (hk : (kd this).1 = 12) : CT mkI l yX12_wants cX12_wants 4 (some .int) (rmd 10) [.ref this, .int a1, .int a2] h0 (f_X12_wants this a1 a2 h0) := by
  refine ct_of (by decide) (Nat.le_of_ble_eq_true rfl) ?_
  intro p e s m args below meth c D cA ad A X hr hlk
  have X : Cx p s m args c RX12 cX12_wants 4 D cA ad A := X
  unfold f_X12_wants
  refine so_pick (L' := [(0, .ref this), (1, .int a1), (2, .int a2)]) X [0, 1, 2] rfl ?_
  refine so_aload_n (i := 0) X 0 (dkX12_wants (0, .aload_n 0, 1) (pgm 0 rfl)) rfl rfl ?_
  refine so_aload_n (i := 0) X 0 (dkX12_wants (1, .aload_n 0, 1) (pgm 1 rfl)) rfl rfl ?_
  refine so_iload_n (i := 1) X 1 (dkX12_wants (2, .iload_n 1, 1) (pgm 2 rfl)) rfl rfl ?_
  refine so_iload_n (i := 2) X 2 (dkX12_wants (3, .iload_n 2, 1) (pgm 3 rfl)) rfl rfl ?_
  refine so_callV (n := 2) (As := [.int a1, .int a2]) X (ct_X12_wantsFault l this a1 a2 h0 hk) hk (by decide) rfl lk_2126 lk_2128 lk_102 lk_134 lk_2129 (by decide +kernel) rfl rfl rfl (rm_ok (by omega) (by decide)) ⟨Nat.zero_le _, Nat.zero_le _⟩ (Nat.le_of_ble_eq_true rfl) (dkX12_wants (4, .invokevirtual 392, 3) (pgm 4 rfl)) (fun r1 h2 => ?_) rfl
  refine sf_putI X ff_12_5 ft_12 rfl lk_1707 hk rfl rfl (dkX12_wants (7, .putfield 92, 3) (pgm 5 rfl)) (fun h3 => ?_)
  refine so_aload_n (i := 0) X 0 (dkX12_wants (10, .aload_n 0, 1) (pgm 6 rfl)) rfl rfl ?_
  refine sf_getI X ff_12_5 lk_1707 hk (dkX12_wants (11, .getfield 92, 3) (pgm 7 rfl)) ?_
  refine so_if_le (tgt := 19) X (dkX12_wants (14, .ifCond .le 5, 3) (pgm 8 rfl)) rfl (fun _ => ?_) (fun _ => ?_)
  · refine so_aload_n (i := 0) X 0 (dkX12_wants (19, .aload_n 0, 1) (pgm 11 rfl)) rfl rfl ?_
    refine so_iconst (v := (0 : Int32)) X (dkX12_wants (20, .iconst 0, 1) (pgm 12 rfl)) ic_0 ?_
    refine sf_putI X ff_12_29 ft_12 rfl lk_1731 hk rfl rfl (dkX12_wants (21, .putfield 378, 3) (pgm 13 rfl)) (fun h4 => ?_)
    refine so_iconst (v := (0 : Int32)) X (dkX12_wants (24, .iconst 0, 1) (pgm 14 rfl)) ic_0 ?_
    refine so_istore_n (i := 3) X (dkX12_wants (25, .istore_n 3, 1) (pgm 15 rfl)) rfl (by decide) (Lf := fun x5 => [(3, .int x5), (0, .ref this), (1, .int a1), (2, .int a2)]) (fun _ => rfl) (fun x5 => ?_)
    refine so_join (jf := fun (y6 : Int32) (h7 : PH) => lt (fun (t8 : Int32) (h9 : PH) => some (t8, h9)) (fun (j87 : Int32 → PH → Option (Int32 × PH)) => if a2 = 0 then (j87 y6 h7) else (if a2 = (1 : Int32) then (j87 (h7.1 this 29) h7) else (if y6 ≤ (a2 - (10 : Int32)) then (j87 (-1 : Int32) h7) else (ldI h7 (rt this 28) 3 (a2 - (10 : Int32)) (fun (x10 : Int32) => j87 x10 h7)))))) (fun (j : Int32 → PH → Option (Int32 × PH)) => ∀ (y6 : Int32) (h7 : PH), SWo (QM mkI below args s D cA ad A) p l e (rmd 10) s m args below meth c 0 0 4 D cA ad A 46 [(0, .ref this), (2, .int a2), (3, .int y6)] [] h7 (j y6 h7)) ?_ (fun j46 hj46 => ?_)
    · intro y6 h7
      refine so_iload_n (i := 2) X 1 (dkX12_wants (46, .iload_n 2, 1) (pgm 28 rfl)) rfl rfl ?_
      refine so_join (jf := fun (t8 : Int32) (h9 : PH) => some (t8, h9)) (fun (j : Int32 → PH → Option (Int32 × PH)) => ∀ (t8 : Int32) (h9 : PH), SWo (QM mkI below args s D cA ad A) p l e (rmd 10) s m args below meth c 0 0 4 D cA ad A 87 [] [.int t8] h9 (j t8 h9)) ?_ (fun j87 hj87 => ?_)
      · intro t8 h9
        exact so_iret X hr hlk (dkX12_wants (87, .ireturn, 1) (pgm 51 rfl))
      refine so_if_ne (tgt := 54) X (dkX12_wants (47, .ifCond .ne 7, 3) (pgm 29 rfl)) rfl (fun _ => ?_) (fun _ => ?_)
      · refine so_iload_n (i := 2) X 1 (dkX12_wants (54, .iload_n 2, 1) (pgm 32 rfl)) rfl rfl ?_
        refine so_iconst (v := (1 : Int32)) X (dkX12_wants (55, .iconst 1, 1) (pgm 33 rfl)) ic_1 ?_
        refine so_icmp_ne (tgt := 66) X (dkX12_wants (56, .if_icmp .ne 10, 3) (pgm 34 rfl)) rfl (fun _ => ?_) (fun _ => ?_)
        · refine so_iload_n (i := 2) X 1 (dkX12_wants (66, .iload_n 2, 1) (pgm 38 rfl)) rfl rfl ?_
          refine so_bipush (v := (10 : Int32)) X (dkX12_wants (67, .bipush 10, 2) (pgm 39 rfl)) bp_10 ?_
          refine so_isub X (dkX12_wants (69, .isub, 1) (pgm 40 rfl)) ?_
          refine so_iload_n (i := 3) X 2 (dkX12_wants (70, .iload_n 3, 1) (pgm 41 rfl)) rfl rfl ?_
          refine so_icmp_ge (tgt := 86) X (dkX12_wants (71, .if_icmp .ge 15, 3) (pgm 42 rfl)) rfl (fun _ => ?_) (fun _ => ?_)
          · refine so_iconst (v := (-1 : Int32)) X (dkX12_wants (86, .iconst (-1), 1) (pgm 50 rfl)) ic_m1 ?_
            exact so_pick X [] rfl (hj87 (-1 : Int32) h7)
          · refine so_aload_n (i := 0) X 0 (dkX12_wants (74, .aload_n 0, 1) (pgm 43 rfl)) rfl rfl ?_
            refine sf_getR X ff_12_28 lk_1730 hk (dkX12_wants (75, .getfield 64, 3) (pgm 44 rfl)) ?_
            refine so_iload_n (i := 2) X 1 (dkX12_wants (78, .iload_n 2, 1) (pgm 45 rfl)) rfl rfl ?_
            refine so_bipush (v := (10 : Int32)) X (dkX12_wants (79, .bipush 10, 2) (pgm 46 rfl)) bp_10 ?_
            refine so_isub X (dkX12_wants (81, .isub, 1) (pgm 47 rfl)) ?_
            refine so_iald X (rk_12_28 this hk) (dkX12_wants (82, .iaload, 1) (pgm 48 rfl)) (fun x10 => ?_)
            refine so_goto (tgt := 87) X (dkX12_wants (83, .goto 4, 3) (pgm 49 rfl)) rfl ?_
            exact so_pick X [] rfl (hj87 x10 h7)
        · refine so_aload_n (i := 0) X 0 (dkX12_wants (59, .aload_n 0, 1) (pgm 35 rfl)) rfl rfl ?_
          refine sf_getI X ff_12_29 lk_1731 hk (dkX12_wants (60, .getfield 378, 3) (pgm 36 rfl)) ?_
          refine so_goto (tgt := 87) X (dkX12_wants (63, .goto 24, 3) (pgm 37 rfl)) rfl ?_
          exact so_pick X [] rfl (hj87 (h7.1 this 29) h7)
      · refine so_iload_n (i := 3) X 2 (dkX12_wants (50, .iload_n 3, 1) (pgm 30 rfl)) rfl rfl ?_
        refine so_goto (tgt := 87) X (dkX12_wants (51, .goto 36, 3) (pgm 31 rfl)) rfl ?_
        exact so_pick X [] rfl (hj87 y6 h7)
    refine so_pick (L' := [(0, .ref this), (1, .int a1), (2, .int a2), (3, .int x5)]) X [1, 2, 3, 0] rfl ?_
    refine so_loop (body := b_X12_wants_26 this a1 j46) (fun (s26 : Int32) => [(0, .ref this), (1, .int a1), (2, .int a2), (3, .int s26)]) (fun rec26 hrec26 s26 hh26 => ?_) FU x5 h4
    unfold b_X12_wants_26
    refine so_iload_n (i := 3) X 3 (dkX12_wants (26, .iload_n 3, 1) (pgm 16 rfl)) rfl rfl ?_
    refine so_iconst (v := (3 : Int32)) X (dkX12_wants (27, .iconst 3, 1) (pgm 17 rfl)) ic_3 ?_
    refine so_icmp_gt (tgt := 94) X (dkX12_wants (28, .if_icmp .gt 66, 3) (pgm 18 rfl)) rfl (fun _ => ?_) (fun _ => ?_)
    · refine so_iconst (v := (-1 : Int32)) X (dkX12_wants (94, .iconst (-1), 1) (pgm 54 rfl)) ic_m1 ?_
      exact so_iret X hr hlk (dkX12_wants (95, .ireturn, 1) (pgm 55 rfl))
    · refine so_aload_n (i := 0) X 0 (dkX12_wants (31, .aload_n 0, 1) (pgm 19 rfl)) rfl rfl ?_
      refine so_iload_n (i := 1) X 1 (dkX12_wants (32, .iload_n 1, 1) (pgm 20 rfl)) rfl rfl ?_
      refine so_iconst (v := (0 : Int32)) X (dkX12_wants (33, .iconst 0, 1) (pgm 21 rfl)) ic_0 ?_
      refine so_iload_n (i := 3) X 3 (dkX12_wants (34, .iload_n 3, 1) (pgm 22 rfl)) rfl rfl ?_
      refine so_iconst (v := (0 : Int32)) X (dkX12_wants (35, .iconst 0, 1) (pgm 23 rfl)) ic_0 ?_
      refine so_callV (n := 4) (As := [.int a1, .int (0 : Int32), .int s26, .int (0 : Int32)]) X (ct_X12_goesWants l 8 this a1 (0 : Int32) s26 (0 : Int32) hh26 hk) hk (by decide) rfl lk_2139 lk_2141 lk_104 lk_134 lk_2142 (by decide +kernel) rfl rfl rfl (rm_ok (by omega) (by decide)) ⟨Nat.zero_le _, Nat.zero_le _⟩ (Nat.le_of_ble_eq_true rfl) (dkX12_wants (36, .invokevirtual 381, 3) (pgm 24 rfl)) (fun r11 h12 => ?_) rfl
      refine so_aload_n (i := 0) X 0 (dkX12_wants (39, .aload_n 0, 1) (pgm 25 rfl)) rfl rfl ?_
      refine sf_getI X ff_12_29 lk_1731 hk (dkX12_wants (40, .getfield 378, 3) (pgm 26 rfl)) ?_
      refine so_if_le (tgt := 88) X (dkX12_wants (43, .ifCond .le 45, 3) (pgm 27 rfl)) rfl (fun _ => ?_) (fun _ => ?_)
      · refine so_iinc (i := 3) X 3 (dkX12_wants (88, .iinc 3 1, 3) (pgm 52 rfl)) rfl rfl (by decide) (Lf := fun x13 => [(3, .int x13), (0, .ref this), (1, .int a1), (2, .int a2)]) (fun _ => rfl) (fun x13 => ?_)
        refine so_goto (tgt := 26) X (dkX12_wants (91, .goto (-65), 3) (pgm 53 rfl)) rfl ?_
        exact so_pick X [1, 2, 3, 0] rfl (hrec26 x13 h12)
      · exact so_pick X [0, 2, 3] rfl (hj46 s26 h12)
  · refine so_iconst (v := (0 : Int32)) X (dkX12_wants (17, .iconst 0, 1) (pgm 9 rfl)) ic_0 ?_
    exact so_iret X hr hlk (dkX12_wants (18, .ireturn, 1) (pgm 10 rfl))
def pgX12_sayFault : List (Nat × Instr × Nat) := [(0, .aload_n 0, 1), (1, .iload_n 1, 1), (2, .invokevirtual 385, 3), (5, .istore_n 3, 1), (6, .iload_n 3, 1), (7, .ifCond .eq 5, 3), (10, .iload_n 3, 1), (11, .ireturn, 1), (12, .aload_n 0, 1), (13, .getfield 83, 3), (16, .iload_n 1, 1), (17, .iaload, 1), (18, .istore 4, 2), (20, .iload_n 2, 1), (21, .i2l, 1), (22, .lconst 0, 1), (23, .ldc2_w 349, 3), (26, .invokestatic 156, 3), (29, .ifCond .eq 17, 3), (32, .iload 4, 2), (34, .iconst 2, 1), (35, .irem, 1), (36, .ifCond .eq 10, 3), (39, .iload 4, 2), (41, .bipush 9, 2), (43, .if_icmp .le 5, 3), (46, .iconst 3, 1), (47, .ireturn, 1), (48, .iconst 0, 1), (49, .istore 5, 2), (51, .iload 5, 2), (53, .iload 4, 2), (55, .if_icmp .ge 52, 3), (58, .aload_n 0, 1), (59, .getfield 86, 3), (62, .bipush 30, 2), (64, .iload_n 1, 1), (65, .imul, 1), (66, .iload 5, 2), (68, .iadd, 1), (69, .laload, 1), (70, .lconst 0, 1), (71, .iload 5, 2), (73, .iconst 2, 1), (74, .irem, 1), (75, .ifCond .ne 17, 3), (78, .ldc2_w 325, 3), (81, .aload_n 0, 1), (82, .invokevirtual 249, 3), (85, .i2l, 1), (86, .lmul, 1), (87, .lconst 1, 1), (88, .lsub, 1), (89, .goto 4, 3), (92, .lconst 1, 1), (93, .invokestatic 156, 3), (96, .ifCond .ne 5, 3), (99, .iconst 3, 1), (100, .ireturn, 1), (101, .iinc 5 1, 3), (104, .goto (-53), 3), (107, .iconst 0, 1), (108, .ireturn, 1)]
theorem dkX12_sayFault : ∀ q ∈ pgX12_sayFault, decode cX12_sayFault q.1 = .ok q.2 := by decide +kernel
def b_X12_sayFault_51 (this : Nat) (a1 : Int32) (x5 : Int32) (rec51 : (Int32) → PH → Option (Int32 × PH)) (s51 : Int32) (hh51 : PH) : Option (Int32 × PH) :=
  if x5 ≤ s51 then (some ((0 : Int32), hh51)) else (ldL hh51 (rt this 38) 120 (((30 : Int32) * a1) + s51) (fun (x10 : Int64) => nz (2 : Int32) (lt (fun (t11 : Int64) (h12 : PH) => cb (f_X12_within x10 (0 : Int64) t11 h12) (fun (r13 : Int32) (h14 : PH) => if r13 = 0 then (some ((3 : Int32), h14)) else (lt (s51 + Int32.ofInt 1) (fun (x15 : Int32) => rec51 x15 h14)))) (fun (j93 : Int64 → PH → Option (Int32 × PH)) => if (s51 - s51 / (2 : Int32) * (2 : Int32)) = 0 then (cb (f_X12_cells this hh51) (fun (r16 : Int32) (h17 : PH) => j93 (((2 : Int64) * r16.toInt64) - (1 : Int64)) h17)) else (j93 (1 : Int64) hh51)))))
def f_X12_sayFault (this : Nat) (a1 : Int32) (a2 : Int32) (h0 : PH) : Option (Int32 × PH) :=
  cb (f_X12_trayFault this a1 h0) (fun (r1 : Int32) (h2 : PH) => lt r1 (fun (x3 : Int32) => if x3 = 0 then (ldI h2 (rt this 37) 4 a1 (fun (x4 : Int32) => lt x4 (fun (x5 : Int32) => cb (f_X12_within a2.toInt64 (0 : Int64) (3 : Int64) h2) (fun (r6 : Int32) (h7 : PH) => lt (fun (h8 : PH) => some ((3 : Int32), h8)) (fun (j46 : PH → Option (Int32 × PH)) => if r6 = 0 then (j46 h7) else (nz (2 : Int32) (if (x5 - x5 / (2 : Int32) * (2 : Int32)) = 0 then (j46 h7) else (if x5 ≤ (9 : Int32) then (lt (0 : Int32) (fun (x9 : Int32) => lp (b_X12_sayFault_51 this a1 x5) FU x9 h7)) else (j46 h7))))))))) else (some (x3, h2))))
set_option maxRecDepth 100000 in
set_option maxHeartbeats 4000000 in
theorem ct_X12_sayFault (l : Launch) (this : Nat) (a1 : Int32) (a2 : Int32) (h0 : PH) (hk : (kd this).1 = 12) : CT mkI l yX12_sayFault cX12_sayFault 6 (some .int) (rmd 3) [.ref this, .int a1, .int a2] h0 (f_X12_sayFault this a1 a2 h0) := by
  refine ct_of (by decide) (Nat.le_of_ble_eq_true rfl) ?_
  intro p e s m args below meth c D cA ad A X hr hlk
  have X : Cx p s m args c RX12 cX12_sayFault 6 D cA ad A := X
  unfold f_X12_sayFault
  refine so_pick (L' := [(0, .ref this), (1, .int a1), (2, .int a2)]) X [0, 1, 2] rfl ?_
  refine so_aload_n (i := 0) X 0 (dkX12_sayFault (0, .aload_n 0, 1) (pgm 0 rfl)) rfl rfl ?_
  refine so_iload_n (i := 1) X 1 (dkX12_sayFault (1, .iload_n 1, 1) (pgm 1 rfl)) rfl rfl ?_
  refine so_callV (n := 1) (As := [.int a1]) X (ct_X12_trayFault l this a1 h0 hk) hk (by decide) rfl lk_2130 lk_2132 lk_103 lk_134 lk_2133 (by decide +kernel) rfl rfl rfl (rm_ok (by omega) (by decide)) ⟨Nat.zero_le _, Nat.zero_le _⟩ (Nat.le_of_ble_eq_true rfl) (dkX12_sayFault (2, .invokevirtual 385, 3) (pgm 2 rfl)) (fun r1 h2 => ?_) rfl
  refine so_istore_n (i := 3) X (dkX12_sayFault (5, .istore_n 3, 1) (pgm 3 rfl)) rfl (by decide) (Lf := fun x3 => [(3, .int x3), (0, .ref this), (1, .int a1), (2, .int a2)]) (fun _ => rfl) (fun x3 => ?_)
  refine so_iload_n (i := 3) X 0 (dkX12_sayFault (6, .iload_n 3, 1) (pgm 4 rfl)) rfl rfl ?_
  refine so_if_eq (tgt := 12) X (dkX12_sayFault (7, .ifCond .eq 5, 3) (pgm 5 rfl)) rfl (fun _ => ?_) (fun _ => ?_)
  · refine so_aload_n (i := 0) X 1 (dkX12_sayFault (12, .aload_n 0, 1) (pgm 8 rfl)) rfl rfl ?_
    refine sf_getR X ff_12_37 lk_1739 hk (dkX12_sayFault (13, .getfield 83, 3) (pgm 9 rfl)) ?_
    refine so_iload_n (i := 1) X 2 (dkX12_sayFault (16, .iload_n 1, 1) (pgm 10 rfl)) rfl rfl ?_
    refine so_iald X (rk_12_37 this hk) (dkX12_sayFault (17, .iaload, 1) (pgm 11 rfl)) (fun x4 => ?_)
    refine so_istore (i := 4) X (dkX12_sayFault (18, .istore 4, 2) (pgm 12 rfl)) (by decide) (Lf := fun x5 => [(4, .int x5), (3, .int x3), (0, .ref this), (1, .int a1), (2, .int a2)]) (fun _ => rfl) (fun x5 => ?_)
    refine so_iload_n (i := 2) X 4 (dkX12_sayFault (20, .iload_n 2, 1) (pgm 13 rfl)) rfl rfl ?_
    refine so_i2l X (dkX12_sayFault (21, .i2l, 1) (pgm 14 rfl)) ?_
    refine so_lconst (v := (0 : Int64)) X (dkX12_sayFault (22, .lconst 0, 1) (pgm 15 rfl)) lc_0 ?_
    refine so_ldc2 X lk_2082 (dkX12_sayFault (23, .ldc2_w 349, 3) (pgm 16 rfl)) ?_
    refine so_callS (n := 3) (As := [.long a2.toInt64, .long (0 : Int64), .long (3 : Int64)]) X (ct_X12_within l a2.toInt64 (0 : Int64) (3 : Int64) h2 ) lk_1832 lk_1833 lk_134 lk_1834 (by decide +kernel) rfl rfl rfl (rm_ok (by omega) (by decide)) ⟨Nat.zero_le _, Nat.zero_le _⟩ (Nat.le_of_ble_eq_true rfl) (dkX12_sayFault (26, .invokestatic 156, 3) (pgm 17 rfl)) (fun r6 h7 => ?_) rfl
    refine so_join (jf := fun (h8 : PH) => some ((3 : Int32), h8)) (fun (j : PH → Option (Int32 × PH)) => ∀  (h8 : PH), SWo (QM mkI below args s D cA ad A) p l e (rmd 3) s m args below meth c 0 0 6 D cA ad A 46 [] [] h8 (j h8)) ?_ (fun j46 hj46 => ?_)
    · intro h8
      refine so_iconst (v := (3 : Int32)) X (dkX12_sayFault (46, .iconst 3, 1) (pgm 26 rfl)) ic_3 ?_
      exact so_iret X hr hlk (dkX12_sayFault (47, .ireturn, 1) (pgm 27 rfl))
    refine so_if_eq (tgt := 46) X (dkX12_sayFault (29, .ifCond .eq 17, 3) (pgm 18 rfl)) rfl (fun _ => ?_) (fun _ => ?_)
    · exact so_pick X [] rfl (hj46 h7)
    · refine so_iload (i := 4) X 0 (dkX12_sayFault (32, .iload 4, 2) (pgm 19 rfl)) rfl ?_
      refine so_iconst (v := (2 : Int32)) X (dkX12_sayFault (34, .iconst 2, 1) (pgm 20 rfl)) ic_2 ?_
      refine so_irem X (dkX12_sayFault (35, .irem, 1) (pgm 21 rfl)) (fun _ => ?_)
      refine so_if_eq (tgt := 46) X (dkX12_sayFault (36, .ifCond .eq 10, 3) (pgm 22 rfl)) rfl (fun _ => ?_) (fun _ => ?_)
      · exact so_pick X [] rfl (hj46 h7)
      · refine so_iload (i := 4) X 0 (dkX12_sayFault (39, .iload 4, 2) (pgm 23 rfl)) rfl ?_
        refine so_bipush (v := (9 : Int32)) X (dkX12_sayFault (41, .bipush 9, 2) (pgm 24 rfl)) bp_9 ?_
        refine so_icmp_le (tgt := 48) X (dkX12_sayFault (43, .if_icmp .le 5, 3) (pgm 25 rfl)) rfl (fun _ => ?_) (fun _ => ?_)
        · refine so_iconst (v := (0 : Int32)) X (dkX12_sayFault (48, .iconst 0, 1) (pgm 28 rfl)) ic_0 ?_
          refine so_istore (i := 5) X (dkX12_sayFault (49, .istore 5, 2) (pgm 29 rfl)) (by decide) (Lf := fun x9 => [(5, .int x9), (4, .int x5), (3, .int x3), (0, .ref this), (1, .int a1), (2, .int a2)]) (fun _ => rfl) (fun x9 => ?_)
          refine so_pick (L' := [(0, .ref this), (1, .int a1), (4, .int x5), (5, .int x9)]) X [3, 4, 1, 0] rfl ?_
          refine so_loop (body := b_X12_sayFault_51 this a1 x5) (fun (s51 : Int32) => [(0, .ref this), (1, .int a1), (4, .int x5), (5, .int s51)]) (fun rec51 hrec51 s51 hh51 => ?_) FU x9 h7
          unfold b_X12_sayFault_51
          refine so_iload (i := 5) X 3 (dkX12_sayFault (51, .iload 5, 2) (pgm 30 rfl)) rfl ?_
          refine so_iload (i := 4) X 2 (dkX12_sayFault (53, .iload 4, 2) (pgm 31 rfl)) rfl ?_
          refine so_icmp_ge (tgt := 107) X (dkX12_sayFault (55, .if_icmp .ge 52, 3) (pgm 32 rfl)) rfl (fun _ => ?_) (fun _ => ?_)
          · refine so_iconst (v := (0 : Int32)) X (dkX12_sayFault (107, .iconst 0, 1) (pgm 61 rfl)) ic_0 ?_
            exact so_iret X hr hlk (dkX12_sayFault (108, .ireturn, 1) (pgm 62 rfl))
          · refine so_aload_n (i := 0) X 0 (dkX12_sayFault (58, .aload_n 0, 1) (pgm 33 rfl)) rfl rfl ?_
            refine sf_getR X ff_12_38 lk_1740 hk (dkX12_sayFault (59, .getfield 86, 3) (pgm 34 rfl)) ?_
            refine so_bipush (v := (30 : Int32)) X (dkX12_sayFault (62, .bipush 30, 2) (pgm 35 rfl)) bp_30 ?_
            refine so_iload_n (i := 1) X 1 (dkX12_sayFault (64, .iload_n 1, 1) (pgm 36 rfl)) rfl rfl ?_
            refine so_imul X (dkX12_sayFault (65, .imul, 1) (pgm 37 rfl)) ?_
            refine so_iload (i := 5) X 3 (dkX12_sayFault (66, .iload 5, 2) (pgm 38 rfl)) rfl ?_
            refine so_iadd X (dkX12_sayFault (68, .iadd, 1) (pgm 39 rfl)) ?_
            refine so_lald X (rk_12_38 this hk) (dkX12_sayFault (69, .laload, 1) (pgm 40 rfl)) (fun x10 => ?_)
            refine so_lconst (v := (0 : Int64)) X (dkX12_sayFault (70, .lconst 0, 1) (pgm 41 rfl)) lc_0 ?_
            refine so_iload (i := 5) X 3 (dkX12_sayFault (71, .iload 5, 2) (pgm 42 rfl)) rfl ?_
            refine so_iconst (v := (2 : Int32)) X (dkX12_sayFault (73, .iconst 2, 1) (pgm 43 rfl)) ic_2 ?_
            refine so_irem X (dkX12_sayFault (74, .irem, 1) (pgm 44 rfl)) (fun _ => ?_)
            refine so_join (jf := fun (t11 : Int64) (h12 : PH) => cb (f_X12_within x10 (0 : Int64) t11 h12) (fun (r13 : Int32) (h14 : PH) => if r13 = 0 then (some ((3 : Int32), h14)) else (lt (s51 + Int32.ofInt 1) (fun (x15 : Int32) => rec51 x15 h14)))) (fun (j : Int64 → PH → Option (Int32 × PH)) => ∀ (t11 : Int64) (h12 : PH), SWo (QM mkI below args s D cA ad A) p l e (rmd 3) s m args below meth c 0 0 6 D cA ad A 93 [(0, .ref this), (1, .int a1), (4, .int x5), (5, .int s51)] [.long t11, .long (0 : Int64), .long x10] h12 (j t11 h12)) ?_ (fun j93 hj93 => ?_)
            · intro t11 h12
              refine so_callS (n := 3) (As := [.long x10, .long (0 : Int64), .long t11]) X (ct_X12_within l x10 (0 : Int64) t11 h12 ) lk_1832 lk_1833 lk_134 lk_1834 (by decide +kernel) rfl rfl rfl (rm_ok (by omega) (by decide)) ⟨Nat.zero_le _, Nat.zero_le _⟩ (Nat.le_of_ble_eq_true rfl) (dkX12_sayFault (93, .invokestatic 156, 3) (pgm 55 rfl)) (fun r13 h14 => ?_) rfl
              refine so_if_ne (tgt := 101) X (dkX12_sayFault (96, .ifCond .ne 5, 3) (pgm 56 rfl)) rfl (fun _ => ?_) (fun _ => ?_)
              · refine so_iinc (i := 5) X 3 (dkX12_sayFault (101, .iinc 5 1, 3) (pgm 59 rfl)) rfl rfl (by decide) (Lf := fun x15 => [(5, .int x15), (0, .ref this), (1, .int a1), (4, .int x5)]) (fun _ => rfl) (fun x15 => ?_)
                refine so_goto (tgt := 51) X (dkX12_sayFault (104, .goto (-53), 3) (pgm 60 rfl)) rfl ?_
                exact so_pick X [1, 2, 3, 0] rfl (hrec51 x15 h14)
              · refine so_iconst (v := (3 : Int32)) X (dkX12_sayFault (99, .iconst 3, 1) (pgm 57 rfl)) ic_3 ?_
                exact so_iret X hr hlk (dkX12_sayFault (100, .ireturn, 1) (pgm 58 rfl))
            refine so_if_ne (tgt := 92) X (dkX12_sayFault (75, .ifCond .ne 17, 3) (pgm 45 rfl)) rfl (fun _ => ?_) (fun _ => ?_)
            · refine so_lconst (v := (1 : Int64)) X (dkX12_sayFault (92, .lconst 1, 1) (pgm 54 rfl)) lc_1 ?_
              exact so_pick X [0, 1, 2, 3] rfl (hj93 (1 : Int64) hh51)
            · refine so_ldc2 X lk_2034 (dkX12_sayFault (78, .ldc2_w 325, 3) (pgm 46 rfl)) ?_
              refine so_aload_n (i := 0) X 0 (dkX12_sayFault (81, .aload_n 0, 1) (pgm 47 rfl)) rfl rfl ?_
              refine so_callV (n := 0) (As := []) X (ct_X12_cells l this hh51 hk) hk (by decide) rfl lk_1668 lk_1670 lk_57 lk_134 lk_1671 (by decide +kernel) rfl rfl rfl (rm_ok (by omega) (by decide)) ⟨Nat.zero_le _, Nat.zero_le _⟩ (Nat.le_of_ble_eq_true rfl) (dkX12_sayFault (82, .invokevirtual 249, 3) (pgm 48 rfl)) (fun r16 h17 => ?_) rfl
              refine so_i2l X (dkX12_sayFault (85, .i2l, 1) (pgm 49 rfl)) ?_
              refine so_lmul X (dkX12_sayFault (86, .lmul, 1) (pgm 50 rfl)) ?_
              refine so_lconst (v := (1 : Int64)) X (dkX12_sayFault (87, .lconst 1, 1) (pgm 51 rfl)) lc_1 ?_
              refine so_lsub X (dkX12_sayFault (88, .lsub, 1) (pgm 52 rfl)) ?_
              refine so_goto (tgt := 93) X (dkX12_sayFault (89, .goto 4, 3) (pgm 53 rfl)) rfl ?_
              exact so_pick X [0, 1, 2, 3] rfl (hj93 (((2 : Int64) * r16.toInt64) - (1 : Int64)) h17)
        · exact so_pick X [] rfl (hj46 h7)
  · refine so_iload_n (i := 3) X 0 (dkX12_sayFault (10, .iload_n 3, 1) (pgm 6 rfl)) rfl rfl ?_
    exact so_iret X hr hlk (dkX12_sayFault (11, .ireturn, 1) (pgm 7 rfl))
def pgX12_readings : List (Nat × Instr × Nat) := [(0, .aload_n 0, 1), (1, .aload_n 0, 1), (2, .iload_n 1, 1), (3, .iload_n 2, 1), (4, .invokevirtual 408, 3), (7, .putfield 92, 3), (10, .aload_n 0, 1), (11, .getfield 92, 3), (14, .ifCond .le 5, 3), (17, .iconst 0, 1), (18, .ireturn, 1), (19, .aload_n 0, 1), (20, .getfield 83, 3), (23, .iload_n 1, 1), (24, .iaload, 1), (25, .iconst 1, 1), (26, .iadd, 1), (27, .iconst 2, 1), (28, .idiv, 1), (29, .istore_n 3, 1), (30, .aload_n 0, 1), (31, .iconst 0, 1), (32, .putfield 395, 3), (35, .iconst 0, 1), (36, .istore 4, 2), (38, .iload 4, 2), (40, .iload_n 3, 1), (41, .if_icmp .ge 39, 3), (44, .iconst 0, 1), (45, .istore 5, 2), (47, .iload 5, 2), (49, .iload 4, 2), (51, .iadd, 1), (52, .iload_n 3, 1), (53, .if_icmp .ge 21, 3), (56, .aload_n 0, 1), (57, .iload_n 1, 1), (58, .iload 5, 2), (60, .iload 5, 2), (62, .iload 4, 2), (64, .iadd, 1), (65, .invokevirtual 411, 3), (68, .iinc 5 1, 3), (71, .goto (-24), 3), (74, .iinc 4 1, 3), (77, .goto (-39), 3), (80, .aload_n 0, 1), (81, .getfield 71, 3), (84, .iload_n 3, 1), (85, .iconst 1, 1), (86, .isub, 1), (87, .iaload, 1), (88, .istore 4, 2), (90, .aload_n 0, 1), (91, .getfield 74, 3), (94, .iload_n 3, 1), (95, .iconst 1, 1), (96, .isub, 1), (97, .iaload, 1), (98, .istore 5, 2), (100, .iload_n 2, 1), (101, .ifCond .ne 6, 3), (104, .iload 5, 2), (106, .ireturn, 1), (107, .iload_n 2, 1), (108, .iconst 1, 1), (109, .if_icmp .ne 12, 3), (112, .aload_n 0, 1), (113, .iload 4, 2), (115, .iload 5, 2), (117, .invokevirtual 415, 3), (120, .ireturn, 1), (121, .aload_n 0, 1), (122, .iload 4, 2), (124, .invokevirtual 418, 3), (127, .istore 6, 2), (129, .iconst 1, 1), (130, .istore 7, 2), (132, .iload 7, 2), (134, .iload 5, 2), (136, .if_icmp .ge 44, 3), (139, .aload_n 0, 1), (140, .iload 4, 2), (142, .iload 7, 2), (144, .iadd, 1), (145, .invokevirtual 418, 3), (148, .istore 8, 2), (150, .iload_n 2, 1), (151, .iconst 2, 1), (152, .if_icmp .ne 13, 3), (155, .iload 6, 2), (157, .iload 8, 2), (159, .invokestatic 421, 3), (162, .goto 10, 3), (165, .iload 6, 2), (167, .iload 8, 2), (169, .invokestatic 238, 3), (172, .istore 6, 2), (174, .iinc 7 1, 3), (177, .goto (-45), 3), (180, .iload 6, 2), (182, .ireturn, 1)]
theorem dkX12_readings : ∀ q ∈ pgX12_readings, decode cX12_readings q.1 = .ok q.2 := by decide +kernel
def b_X12_readings_132 (this : Nat) (a2 : Int32) (x10 : Int32) (x12 : Int32) (rec132 : (Int32 × Int32) → PH → Option (Int32 × PH)) (s132 : Int32 × Int32) (hh132 : PH) : Option (Int32 × PH) :=
  if x12 ≤ s132.2 then (some (s132.1, hh132)) else (cb (f_X12_holdsIn this (x10 + s132.2) hh132) (fun (r17 : Int32) (h18 : PH) => lt r17 (fun (x19 : Int32) => lt (fun (t20 : Int32) (h21 : PH) => lt t20 (fun (x22 : Int32) => lt (s132.2 + Int32.ofInt 1) (fun (x23 : Int32) => rec132 (x22, x23) h21))) (fun (j172 : Int32 → PH → Option (Int32 × PH)) => if a2 = (2 : Int32) then (j172 (if s132.1 < x19 then x19 else s132.1) h18) else (j172 (if x19 < s132.1 then x19 else s132.1) h18)))))
def b_X12_readings_47 (this : Nat) (a1 : Int32) (x5 : Int32) (s38 : Int32) (j74 : PH → Option (Int32 × PH)) (rec47 : (Int32) → PH → Option (Int32 × PH)) (s47 : Int32) (hh47 : PH) : Option (Int32 × PH) :=
  if x5 ≤ (s47 + s38) then (j74 hh47) else (cb (f_X12_reads this a1 s47 (s47 + s38) hh47) (fun (r29 : Unit) (h30 : PH) => lt (s47 + Int32.ofInt 1) (fun (x31 : Int32) => rec47 x31 h30)))
def b_X12_readings_38 (this : Nat) (a1 : Int32) (x5 : Int32) (j80 : PH → Option (Int32 × PH)) (rec38 : (Int32) → PH → Option (Int32 × PH)) (s38 : Int32) (hh38 : PH) : Option (Int32 × PH) :=
  if x5 ≤ s38 then (j80 hh38) else (lt (0 : Int32) (fun (x26 : Int32) => lt (fun (h27 : PH) => lt (s38 + Int32.ofInt 1) (fun (x28 : Int32) => rec38 x28 h27)) (fun (j74 : PH → Option (Int32 × PH)) => lp (b_X12_readings_47 this a1 x5 s38 j74) FU x26 hh38)))
def f_X12_readings (this : Nat) (a1 : Int32) (a2 : Int32) (h0 : PH) : Option (Int32 × PH) :=
  cb (f_X12_sayFault this a1 a2 h0) (fun (r1 : Int32) (h2 : PH) => lt (pI h2 this 5 r1) (fun (h3 : PH) => if (h3.1 this 5) ≤ 0 then (ldI h3 (rt this 37) 4 a1 (fun (x4 : Int32) => nz (2 : Int32) (lt ((x4 + (1 : Int32)) / (2 : Int32)) (fun (x5 : Int32) => lt (pI h3 this 33 (0 : Int32)) (fun (h6 : PH) => lt (0 : Int32) (fun (x7 : Int32) => lt (fun (h8 : PH) => ldI h8 (rt this 31) 25 (x5 - (1 : Int32)) (fun (x9 : Int32) => lt x9 (fun (x10 : Int32) => ldI h8 (rt this 32) 25 (x5 - (1 : Int32)) (fun (x11 : Int32) => lt x11 (fun (x12 : Int32) => if a2 = 0 then (some (x12, h8)) else (if a2 = (1 : Int32) then (cb (f_X12_unlike this x10 x12 h8) (fun (r24 : Int32) (h25 : PH) => some (r24, h25))) else (cb (f_X12_holdsIn this x10 h8) (fun (r13 : Int32) (h14 : PH) => lt r13 (fun (x15 : Int32) => lt (1 : Int32) (fun (x16 : Int32) => lp (b_X12_readings_132 this a2 x10 x12) FU (x15, x16) h14)))))))))) (fun (j80 : PH → Option (Int32 × PH)) => lp (b_X12_readings_38 this a1 x5 j80) FU x7 h6))))))) else (some ((0 : Int32), h3))))
set_option maxRecDepth 100000 in
set_option maxHeartbeats 4000000 in
theorem ct_X12_readings (l : Launch) (this : Nat) (a1 : Int32) (a2 : Int32) (h0 : PH) (hk : (kd this).1 = 12) : CT mkI l yX12_readings cX12_readings 9 (some .int) (rmd 5) [.ref this, .int a1, .int a2] h0 (f_X12_readings this a1 a2 h0) := by
  refine ct_of (by decide) (Nat.le_of_ble_eq_true rfl) ?_
  intro p e s m args below meth c D cA ad A X hr hlk
  have X : Cx p s m args c RX12 cX12_readings 9 D cA ad A := X
  unfold f_X12_readings
  refine so_pick (L' := [(0, .ref this), (1, .int a1), (2, .int a2)]) X [0, 1, 2] rfl ?_
  refine so_aload_n (i := 0) X 0 (dkX12_readings (0, .aload_n 0, 1) (pgm 0 rfl)) rfl rfl ?_
  refine so_aload_n (i := 0) X 0 (dkX12_readings (1, .aload_n 0, 1) (pgm 1 rfl)) rfl rfl ?_
  refine so_iload_n (i := 1) X 1 (dkX12_readings (2, .iload_n 1, 1) (pgm 2 rfl)) rfl rfl ?_
  refine so_iload_n (i := 2) X 2 (dkX12_readings (3, .iload_n 2, 1) (pgm 3 rfl)) rfl rfl ?_
  refine so_callV (n := 2) (As := [.int a1, .int a2]) X (ct_X12_sayFault l this a1 a2 h0 hk) hk (by decide) rfl lk_2154 lk_2156 lk_106 lk_134 lk_2157 (by decide +kernel) rfl rfl rfl (rm_ok (by omega) (by decide)) ⟨Nat.zero_le _, Nat.zero_le _⟩ (Nat.le_of_ble_eq_true rfl) (dkX12_readings (4, .invokevirtual 408, 3) (pgm 4 rfl)) (fun r1 h2 => ?_) rfl
  refine sf_putI X ff_12_5 ft_12 rfl lk_1707 hk rfl rfl (dkX12_readings (7, .putfield 92, 3) (pgm 5 rfl)) (fun h3 => ?_)
  refine so_aload_n (i := 0) X 0 (dkX12_readings (10, .aload_n 0, 1) (pgm 6 rfl)) rfl rfl ?_
  refine sf_getI X ff_12_5 lk_1707 hk (dkX12_readings (11, .getfield 92, 3) (pgm 7 rfl)) ?_
  refine so_if_le (tgt := 19) X (dkX12_readings (14, .ifCond .le 5, 3) (pgm 8 rfl)) rfl (fun _ => ?_) (fun _ => ?_)
  · refine so_aload_n (i := 0) X 0 (dkX12_readings (19, .aload_n 0, 1) (pgm 11 rfl)) rfl rfl ?_
    refine sf_getR X ff_12_37 lk_1739 hk (dkX12_readings (20, .getfield 83, 3) (pgm 12 rfl)) ?_
    refine so_iload_n (i := 1) X 1 (dkX12_readings (23, .iload_n 1, 1) (pgm 13 rfl)) rfl rfl ?_
    refine so_iald X (rk_12_37 this hk) (dkX12_readings (24, .iaload, 1) (pgm 14 rfl)) (fun x4 => ?_)
    refine so_iconst (v := (1 : Int32)) X (dkX12_readings (25, .iconst 1, 1) (pgm 15 rfl)) ic_1 ?_
    refine so_iadd X (dkX12_readings (26, .iadd, 1) (pgm 16 rfl)) ?_
    refine so_iconst (v := (2 : Int32)) X (dkX12_readings (27, .iconst 2, 1) (pgm 17 rfl)) ic_2 ?_
    refine so_idiv X (dkX12_readings (28, .idiv, 1) (pgm 18 rfl)) (fun _ => ?_)
    refine so_istore_n (i := 3) X (dkX12_readings (29, .istore_n 3, 1) (pgm 19 rfl)) rfl (by decide) (Lf := fun x5 => [(3, .int x5), (0, .ref this), (1, .int a1), (2, .int a2)]) (fun _ => rfl) (fun x5 => ?_)
    refine so_aload_n (i := 0) X 1 (dkX12_readings (30, .aload_n 0, 1) (pgm 20 rfl)) rfl rfl ?_
    refine so_iconst (v := (0 : Int32)) X (dkX12_readings (31, .iconst 0, 1) (pgm 21 rfl)) ic_0 ?_
    refine sf_putI X ff_12_33 ft_12 rfl lk_1735 hk rfl rfl (dkX12_readings (32, .putfield 395, 3) (pgm 22 rfl)) (fun h6 => ?_)
    refine so_iconst (v := (0 : Int32)) X (dkX12_readings (35, .iconst 0, 1) (pgm 23 rfl)) ic_0 ?_
    refine so_istore (i := 4) X (dkX12_readings (36, .istore 4, 2) (pgm 24 rfl)) (by decide) (Lf := fun x7 => [(4, .int x7), (3, .int x5), (0, .ref this), (1, .int a1), (2, .int a2)]) (fun _ => rfl) (fun x7 => ?_)
    refine so_join (jf := fun (h8 : PH) => ldI h8 (rt this 31) 25 (x5 - (1 : Int32)) (fun (x9 : Int32) => lt x9 (fun (x10 : Int32) => ldI h8 (rt this 32) 25 (x5 - (1 : Int32)) (fun (x11 : Int32) => lt x11 (fun (x12 : Int32) => if a2 = 0 then (some (x12, h8)) else (if a2 = (1 : Int32) then (cb (f_X12_unlike this x10 x12 h8) (fun (r24 : Int32) (h25 : PH) => some (r24, h25))) else (cb (f_X12_holdsIn this x10 h8) (fun (r13 : Int32) (h14 : PH) => lt r13 (fun (x15 : Int32) => lt (1 : Int32) (fun (x16 : Int32) => lp (b_X12_readings_132 this a2 x10 x12) FU (x15, x16) h14)))))))))) (fun (j : PH → Option (Int32 × PH)) => ∀  (h8 : PH), SWo (QM mkI below args s D cA ad A) p l e (rmd 5) s m args below meth c 0 0 9 D cA ad A 80 [(0, .ref this), (2, .int a2), (3, .int x5)] [] h8 (j h8)) ?_ (fun j80 hj80 => ?_)
    · intro h8
      refine so_aload_n (i := 0) X 0 (dkX12_readings (80, .aload_n 0, 1) (pgm 46 rfl)) rfl rfl ?_
      refine sf_getR X ff_12_31 lk_1733 hk (dkX12_readings (81, .getfield 71, 3) (pgm 47 rfl)) ?_
      refine so_iload_n (i := 3) X 2 (dkX12_readings (84, .iload_n 3, 1) (pgm 48 rfl)) rfl rfl ?_
      refine so_iconst (v := (1 : Int32)) X (dkX12_readings (85, .iconst 1, 1) (pgm 49 rfl)) ic_1 ?_
      refine so_isub X (dkX12_readings (86, .isub, 1) (pgm 50 rfl)) ?_
      refine so_iald X (rk_12_31 this hk) (dkX12_readings (87, .iaload, 1) (pgm 51 rfl)) (fun x9 => ?_)
      refine so_istore (i := 4) X (dkX12_readings (88, .istore 4, 2) (pgm 52 rfl)) (by decide) (Lf := fun x10 => [(4, .int x10), (0, .ref this), (2, .int a2), (3, .int x5)]) (fun _ => rfl) (fun x10 => ?_)
      refine so_aload_n (i := 0) X 1 (dkX12_readings (90, .aload_n 0, 1) (pgm 53 rfl)) rfl rfl ?_
      refine sf_getR X ff_12_32 lk_1734 hk (dkX12_readings (91, .getfield 74, 3) (pgm 54 rfl)) ?_
      refine so_iload_n (i := 3) X 3 (dkX12_readings (94, .iload_n 3, 1) (pgm 55 rfl)) rfl rfl ?_
      refine so_iconst (v := (1 : Int32)) X (dkX12_readings (95, .iconst 1, 1) (pgm 56 rfl)) ic_1 ?_
      refine so_isub X (dkX12_readings (96, .isub, 1) (pgm 57 rfl)) ?_
      refine so_iald X (rk_12_32 this hk) (dkX12_readings (97, .iaload, 1) (pgm 58 rfl)) (fun x11 => ?_)
      refine so_istore (i := 5) X (dkX12_readings (98, .istore 5, 2) (pgm 59 rfl)) (by decide) (Lf := fun x12 => [(5, .int x12), (4, .int x10), (0, .ref this), (2, .int a2), (3, .int x5)]) (fun _ => rfl) (fun x12 => ?_)
      refine so_iload_n (i := 2) X 3 (dkX12_readings (100, .iload_n 2, 1) (pgm 60 rfl)) rfl rfl ?_
      refine so_if_ne (tgt := 107) X (dkX12_readings (101, .ifCond .ne 6, 3) (pgm 61 rfl)) rfl (fun _ => ?_) (fun _ => ?_)
      · refine so_iload_n (i := 2) X 3 (dkX12_readings (107, .iload_n 2, 1) (pgm 64 rfl)) rfl rfl ?_
        refine so_iconst (v := (1 : Int32)) X (dkX12_readings (108, .iconst 1, 1) (pgm 65 rfl)) ic_1 ?_
        refine so_icmp_ne (tgt := 121) X (dkX12_readings (109, .if_icmp .ne 12, 3) (pgm 66 rfl)) rfl (fun _ => ?_) (fun _ => ?_)
        · refine so_aload_n (i := 0) X 2 (dkX12_readings (121, .aload_n 0, 1) (pgm 72 rfl)) rfl rfl ?_
          refine so_iload (i := 4) X 1 (dkX12_readings (122, .iload 4, 2) (pgm 73 rfl)) rfl ?_
          refine so_callV (n := 1) (As := [.int x10]) X (ct_X12_holdsIn l this x10 h8 hk) hk (by decide) rfl lk_2178 lk_2180 lk_112 lk_134 lk_2181 (by decide +kernel) rfl rfl rfl (rm_ok (by omega) (by decide)) ⟨Nat.zero_le _, Nat.zero_le _⟩ (Nat.le_of_ble_eq_true rfl) (dkX12_readings (124, .invokevirtual 418, 3) (pgm 74 rfl)) (fun r13 h14 => ?_) rfl
          refine so_istore (i := 6) X (dkX12_readings (127, .istore 6, 2) (pgm 75 rfl)) (by decide) (Lf := fun x15 => [(6, .int x15), (5, .int x12), (4, .int x10), (0, .ref this), (2, .int a2), (3, .int x5)]) (fun _ => rfl) (fun x15 => ?_)
          refine so_iconst (v := (1 : Int32)) X (dkX12_readings (129, .iconst 1, 1) (pgm 76 rfl)) ic_1 ?_
          refine so_istore (i := 7) X (dkX12_readings (130, .istore 7, 2) (pgm 77 rfl)) (by decide) (Lf := fun x16 => [(7, .int x16), (6, .int x15), (5, .int x12), (4, .int x10), (0, .ref this), (2, .int a2), (3, .int x5)]) (fun _ => rfl) (fun x16 => ?_)
          refine so_pick (L' := [(0, .ref this), (2, .int a2), (4, .int x10), (5, .int x12), (6, .int x15), (7, .int x16)]) X [4, 5, 3, 2, 1, 0] rfl ?_
          refine so_loop (body := b_X12_readings_132 this a2 x10 x12) (fun (s132 : Int32 × Int32) => [(0, .ref this), (2, .int a2), (4, .int x10), (5, .int x12), (6, .int s132.1), (7, .int s132.2)]) (fun rec132 hrec132 s132 hh132 => ?_) FU (x15, x16) h14
          unfold b_X12_readings_132
          refine so_iload (i := 7) X 5 (dkX12_readings (132, .iload 7, 2) (pgm 78 rfl)) rfl ?_
          refine so_iload (i := 5) X 3 (dkX12_readings (134, .iload 5, 2) (pgm 79 rfl)) rfl ?_
          refine so_icmp_ge (tgt := 180) X (dkX12_readings (136, .if_icmp .ge 44, 3) (pgm 80 rfl)) rfl (fun _ => ?_) (fun _ => ?_)
          · refine so_iload (i := 6) X 4 (dkX12_readings (180, .iload 6, 2) (pgm 100 rfl)) rfl ?_
            exact so_iret X hr hlk (dkX12_readings (182, .ireturn, 1) (pgm 101 rfl))
          · refine so_aload_n (i := 0) X 0 (dkX12_readings (139, .aload_n 0, 1) (pgm 81 rfl)) rfl rfl ?_
            refine so_iload (i := 4) X 2 (dkX12_readings (140, .iload 4, 2) (pgm 82 rfl)) rfl ?_
            refine so_iload (i := 7) X 5 (dkX12_readings (142, .iload 7, 2) (pgm 83 rfl)) rfl ?_
            refine so_iadd X (dkX12_readings (144, .iadd, 1) (pgm 84 rfl)) ?_
            refine so_callV (n := 1) (As := [.int (x10 + s132.2)]) X (ct_X12_holdsIn l this (x10 + s132.2) hh132 hk) hk (by decide) rfl lk_2178 lk_2180 lk_112 lk_134 lk_2181 (by decide +kernel) rfl rfl rfl (rm_ok (by omega) (by decide)) ⟨Nat.zero_le _, Nat.zero_le _⟩ (Nat.le_of_ble_eq_true rfl) (dkX12_readings (145, .invokevirtual 418, 3) (pgm 85 rfl)) (fun r17 h18 => ?_) rfl
            refine so_istore (i := 8) X (dkX12_readings (148, .istore 8, 2) (pgm 86 rfl)) (by decide) (Lf := fun x19 => [(8, .int x19), (0, .ref this), (2, .int a2), (4, .int x10), (5, .int x12), (6, .int s132.1), (7, .int s132.2)]) (fun _ => rfl) (fun x19 => ?_)
            refine so_iload_n (i := 2) X 2 (dkX12_readings (150, .iload_n 2, 1) (pgm 87 rfl)) rfl rfl ?_
            refine so_iconst (v := (2 : Int32)) X (dkX12_readings (151, .iconst 2, 1) (pgm 88 rfl)) ic_2 ?_
            refine so_join (jf := fun (t20 : Int32) (h21 : PH) => lt t20 (fun (x22 : Int32) => lt (s132.2 + Int32.ofInt 1) (fun (x23 : Int32) => rec132 (x22, x23) h21))) (fun (j : Int32 → PH → Option (Int32 × PH)) => ∀ (t20 : Int32) (h21 : PH), SWo (QM mkI below args s D cA ad A) p l e (rmd 5) s m args below meth c 0 0 9 D cA ad A 172 [(0, .ref this), (2, .int a2), (4, .int x10), (5, .int x12), (7, .int s132.2)] [.int t20] h21 (j t20 h21)) ?_ (fun j172 hj172 => ?_)
            · intro t20 h21
              refine so_istore (i := 6) X (dkX12_readings (172, .istore 6, 2) (pgm 97 rfl)) (by decide) (Lf := fun x22 => [(6, .int x22), (0, .ref this), (2, .int a2), (4, .int x10), (5, .int x12), (7, .int s132.2)]) (fun _ => rfl) (fun x22 => ?_)
              refine so_iinc (i := 7) X 5 (dkX12_readings (174, .iinc 7 1, 3) (pgm 98 rfl)) rfl rfl (by decide) (Lf := fun x23 => [(7, .int x23), (6, .int x22), (0, .ref this), (2, .int a2), (4, .int x10), (5, .int x12)]) (fun _ => rfl) (fun x23 => ?_)
              refine so_goto (tgt := 132) X (dkX12_readings (177, .goto (-45), 3) (pgm 99 rfl)) rfl ?_
              exact so_pick X [2, 3, 4, 5, 1, 0] rfl (hrec132 (x22, x23) h21)
            refine so_icmp_ne (tgt := 165) X (dkX12_readings (152, .if_icmp .ne 13, 3) (pgm 89 rfl)) rfl (fun _ => ?_) (fun _ => ?_)
            · refine so_iload (i := 6) X 5 (dkX12_readings (165, .iload 6, 2) (pgm 94 rfl)) rfl ?_
              refine so_iload (i := 8) X 0 (dkX12_readings (167, .iload 8, 2) (pgm 95 rfl)) rfl ?_
              refine so_mmin X lk_1879 lk_904 lk_135 lk_905 (Nat.le_of_ble_eq_true rfl) (Nat.le_of_ble_eq_true rfl) ⟨Nat.zero_le _, Nat.zero_le _⟩ (dkX12_readings (169, .invokestatic 238, 3) (pgm 96 rfl)) ?_
              exact so_pick X [1, 2, 3, 4, 6] rfl (hj172 (if x19 < s132.1 then x19 else s132.1) h18)
            · refine so_iload (i := 6) X 5 (dkX12_readings (155, .iload 6, 2) (pgm 90 rfl)) rfl ?_
              refine so_iload (i := 8) X 0 (dkX12_readings (157, .iload 8, 2) (pgm 91 rfl)) rfl ?_
              refine so_mmax X lk_2182 lk_901 lk_135 lk_902 (Nat.le_of_ble_eq_true rfl) (Nat.le_of_ble_eq_true rfl) ⟨Nat.zero_le _, Nat.zero_le _⟩ (dkX12_readings (159, .invokestatic 421, 3) (pgm 92 rfl)) ?_
              refine so_goto (tgt := 172) X (dkX12_readings (162, .goto 10, 3) (pgm 93 rfl)) rfl ?_
              exact so_pick X [1, 2, 3, 4, 6] rfl (hj172 (if s132.1 < x19 then x19 else s132.1) h18)
        · refine so_aload_n (i := 0) X 2 (dkX12_readings (112, .aload_n 0, 1) (pgm 67 rfl)) rfl rfl ?_
          refine so_iload (i := 4) X 1 (dkX12_readings (113, .iload 4, 2) (pgm 68 rfl)) rfl ?_
          refine so_iload (i := 5) X 0 (dkX12_readings (115, .iload 5, 2) (pgm 69 rfl)) rfl ?_
          refine so_callV (n := 2) (As := [.int x10, .int x12]) X (ct_X12_unlike l this x10 x12 h8 hk) hk (by decide) rfl lk_2170 lk_2172 lk_110 lk_134 lk_2173 (by decide +kernel) rfl rfl rfl (rm_ok (by omega) (by decide)) ⟨Nat.zero_le _, Nat.zero_le _⟩ (Nat.le_of_ble_eq_true rfl) (dkX12_readings (117, .invokevirtual 415, 3) (pgm 70 rfl)) (fun r24 h25 => ?_) rfl
          exact so_iret X hr hlk (dkX12_readings (120, .ireturn, 1) (pgm 71 rfl))
      · refine so_iload (i := 5) X 0 (dkX12_readings (104, .iload 5, 2) (pgm 62 rfl)) rfl ?_
        exact so_iret X hr hlk (dkX12_readings (106, .ireturn, 1) (pgm 63 rfl))
    refine so_pick (L' := [(0, .ref this), (1, .int a1), (2, .int a2), (3, .int x5), (4, .int x7)]) X [2, 3, 4, 1, 0] rfl ?_
    refine so_loop (body := b_X12_readings_38 this a1 x5 j80) (fun (s38 : Int32) => [(0, .ref this), (1, .int a1), (2, .int a2), (3, .int x5), (4, .int s38)]) (fun rec38 hrec38 s38 hh38 => ?_) FU x7 h6
    unfold b_X12_readings_38
    refine so_iload (i := 4) X 4 (dkX12_readings (38, .iload 4, 2) (pgm 25 rfl)) rfl ?_
    refine so_iload_n (i := 3) X 3 (dkX12_readings (40, .iload_n 3, 1) (pgm 26 rfl)) rfl rfl ?_
    refine so_icmp_ge (tgt := 80) X (dkX12_readings (41, .if_icmp .ge 39, 3) (pgm 27 rfl)) rfl (fun _ => ?_) (fun _ => ?_)
    · exact so_pick X [0, 2, 3] rfl (hj80 hh38)
    · refine so_iconst (v := (0 : Int32)) X (dkX12_readings (44, .iconst 0, 1) (pgm 28 rfl)) ic_0 ?_
      refine so_istore (i := 5) X (dkX12_readings (45, .istore 5, 2) (pgm 29 rfl)) (by decide) (Lf := fun x26 => [(5, .int x26), (0, .ref this), (1, .int a1), (2, .int a2), (3, .int x5), (4, .int s38)]) (fun _ => rfl) (fun x26 => ?_)
      refine so_join (jf := fun (h27 : PH) => lt (s38 + Int32.ofInt 1) (fun (x28 : Int32) => rec38 x28 h27)) (fun (j : PH → Option (Int32 × PH)) => ∀  (h27 : PH), SWo (QM mkI below args s D cA ad A) p l e (rmd 5) s m args below meth c 0 0 9 D cA ad A 74 [(0, .ref this), (1, .int a1), (2, .int a2), (3, .int x5), (4, .int s38)] [] h27 (j h27)) ?_ (fun j74 hj74 => ?_)
      · intro h27
        refine so_iinc (i := 4) X 4 (dkX12_readings (74, .iinc 4 1, 3) (pgm 44 rfl)) rfl rfl (by decide) (Lf := fun x28 => [(4, .int x28), (0, .ref this), (1, .int a1), (2, .int a2), (3, .int x5)]) (fun _ => rfl) (fun x28 => ?_)
        refine so_goto (tgt := 38) X (dkX12_readings (77, .goto (-39), 3) (pgm 45 rfl)) rfl ?_
        exact so_pick X [1, 2, 3, 4, 0] rfl (hrec38 x28 h27)
      refine so_pick (L' := [(0, .ref this), (1, .int a1), (2, .int a2), (3, .int x5), (4, .int s38), (5, .int x26)]) X [1, 2, 3, 4, 5, 0] rfl ?_
      refine so_loop (body := b_X12_readings_47 this a1 x5 s38 j74) (fun (s47 : Int32) => [(0, .ref this), (1, .int a1), (2, .int a2), (3, .int x5), (4, .int s38), (5, .int s47)]) (fun rec47 hrec47 s47 hh47 => ?_) FU x26 hh38
      unfold b_X12_readings_47
      refine so_iload (i := 5) X 5 (dkX12_readings (47, .iload 5, 2) (pgm 30 rfl)) rfl ?_
      refine so_iload (i := 4) X 4 (dkX12_readings (49, .iload 4, 2) (pgm 31 rfl)) rfl ?_
      refine so_iadd X (dkX12_readings (51, .iadd, 1) (pgm 32 rfl)) ?_
      refine so_iload_n (i := 3) X 3 (dkX12_readings (52, .iload_n 3, 1) (pgm 33 rfl)) rfl rfl ?_
      refine so_icmp_ge (tgt := 74) X (dkX12_readings (53, .if_icmp .ge 21, 3) (pgm 34 rfl)) rfl (fun _ => ?_) (fun _ => ?_)
      · exact so_pick X [0, 1, 2, 3, 4] rfl (hj74 hh47)
      · refine so_aload_n (i := 0) X 0 (dkX12_readings (56, .aload_n 0, 1) (pgm 35 rfl)) rfl rfl ?_
        refine so_iload_n (i := 1) X 1 (dkX12_readings (57, .iload_n 1, 1) (pgm 36 rfl)) rfl rfl ?_
        refine so_iload (i := 5) X 5 (dkX12_readings (58, .iload 5, 2) (pgm 37 rfl)) rfl ?_
        refine so_iload (i := 5) X 5 (dkX12_readings (60, .iload 5, 2) (pgm 38 rfl)) rfl ?_
        refine so_iload (i := 4) X 4 (dkX12_readings (62, .iload 4, 2) (pgm 39 rfl)) rfl ?_
        refine so_iadd X (dkX12_readings (64, .iadd, 1) (pgm 40 rfl)) ?_
        refine so_callV (n := 3) (As := [.int a1, .int s47, .int (s47 + s38)]) X (ct_X12_reads l this a1 s47 (s47 + s38) hh47 hk) hk (by decide) rfl lk_2158 lk_2160 lk_107 lk_134 lk_2161 (by decide +kernel) rfl rfl rfl (rm_ok (by omega) (by decide)) ⟨Nat.zero_le _, Nat.zero_le _⟩ (Nat.le_of_ble_eq_true rfl) (dkX12_readings (65, .invokevirtual 411, 3) (pgm 41 rfl)) (fun r29 h30 => ?_) rfl
        refine so_iinc (i := 5) X 5 (dkX12_readings (68, .iinc 5 1, 3) (pgm 42 rfl)) rfl rfl (by decide) (Lf := fun x31 => [(5, .int x31), (0, .ref this), (1, .int a1), (2, .int a2), (3, .int x5), (4, .int s38)]) (fun _ => rfl) (fun x31 => ?_)
        refine so_goto (tgt := 47) X (dkX12_readings (71, .goto (-24), 3) (pgm 43 rfl)) rfl ?_
        exact so_pick X [1, 2, 3, 4, 5, 0] rfl (hrec47 x31 h30)
  · refine so_iconst (v := (0 : Int32)) X (dkX12_readings (17, .iconst 0, 1) (pgm 9 rfl)) ic_0 ?_
    exact so_iret X hr hlk (dkX12_readings (18, .ireturn, 1) (pgm 10 rfl))
def pgX12_judge : List (Nat × Instr × Nat) := [(0, .aload_n 0, 1), (1, .aload_n 0, 1), (2, .iload_n 1, 1), (3, .invokevirtual 385, 3), (6, .putfield 92, 3), (9, .aload_n 0, 1), (10, .getfield 92, 3), (13, .ifCond .ne 20, 3), (16, .iload_n 2, 1), (17, .i2l, 1), (18, .lconst 0, 1), (19, .ldc2_w 349, 3), (22, .invokestatic 156, 3), (25, .ifCond .ne 8, 3), (28, .aload_n 0, 1), (29, .iconst 3, 1), (30, .putfield 92, 3), (33, .aload_n 0, 1), (34, .getfield 92, 3), (37, .ifCond .le 5, 3), (40, .iconst 0, 1), (41, .ireturn, 1), (42, .iconst 0, 1), (43, .istore_n 3, 1), (44, .iload_n 3, 1), (45, .bipush 17, 2), (47, .if_icmp .ge 24, 3), (50, .aload_n 0, 1), (51, .getfield 19, 3), (54, .iload_n 3, 1), (55, .aload_n 0, 1), (56, .getfield 9, 3), (59, .bipush 7, 2), (61, .iload_n 3, 1), (62, .iadd, 1), (63, .iaload, 1), (64, .iastore, 1), (65, .iinc 3 1, 3), (68, .goto (-24), 3), (71, .iconst (-1), 1), (72, .istore_n 3, 1), (73, .iconst 0, 1), (74, .istore 4, 2), (76, .iconst 0, 1), (77, .istore 5, 2), (79, .iconst 0, 1), (80, .istore 6, 2), (82, .iload 6, 2), (84, .aload_n 0, 1), (85, .getfield 83, 3), (88, .iload_n 1, 1), (89, .iaload, 1), (90, .if_icmp .ge 65, 3), (93, .iload_n 3, 1), (94, .iconst (-1), 1), (95, .if_icmp .ne 60, 3), (98, .aload_n 0, 1), (99, .aload_n 0, 1), (100, .getfield 86, 3), (103, .bipush 30, 2), (105, .iload_n 1, 1), (106, .imul, 1), (107, .iload 6, 2), (109, .iadd, 1), (110, .laload, 1), (111, .invokevirtual 310, 3), (114, .istore 4, 2), (116, .iload 4, 2), (118, .ifCond .ne 28, 3), (121, .iload 5, 2), (123, .aload_n 0, 1), (124, .aload_n 0, 1), (125, .getfield 86, 3), (128, .bipush 30, 2), (130, .iload_n 1, 1), (131, .imul, 1), (132, .iload 6, 2), (134, .iadd, 1), (135, .laload, 1), (136, .l2i, 1), (137, .invokevirtual 426, 3), (140, .iadd, 1), (141, .istore 5, 2), (143, .goto 6, 3), (146, .iload 6, 2), (148, .istore_n 3, 1), (149, .iinc 6 1, 3), (152, .goto (-70), 3), (155, .aload_n 0, 1), (156, .getfield 9, 3), (159, .bipush 7, 2), (161, .iaload, 1), (162, .invokestatic 269, 3), (165, .istore 6, 2), (167, .iconst 0, 1), (168, .istore 7, 2), (170, .iload 7, 2), (172, .bipush 17, 2), (174, .if_icmp .ge 26, 3), (177, .aload_n 0, 1), (178, .getfield 9, 3), (181, .bipush 7, 2), (183, .iload 7, 2), (185, .iadd, 1), (186, .aload_n 0, 1), (187, .getfield 19, 3), (190, .iload 7, 2), (192, .iaload, 1), (193, .iastore, 1), (194, .iinc 7 1, 3), (197, .goto (-27), 3), (200, .iload_n 2, 1), (201, .ifCond .ne 7, 3), (204, .iload_n 3, 1), (205, .goto 25, 3), (208, .iload_n 2, 1), (209, .iconst 1, 1), (210, .if_icmp .ne 8, 3), (213, .iload 4, 2), (215, .goto 15, 3), (218, .iload_n 2, 1), (219, .iconst 2, 1), (220, .if_icmp .ne 8, 3), (223, .iload 5, 2), (225, .goto 5, 3), (228, .iload 6, 2), (230, .ireturn, 1)]
theorem dkX12_judge : ∀ q ∈ pgX12_judge, decode cX12_judge q.1 = .ok q.2 := by decide +kernel
def b_X12_judge_170 (this : Nat) (j200 : PH → Option (Int32 × PH)) (rec170 : (Int32) → PH → Option (Int32 × PH)) (s170 : Int32) (hh170 : PH) : Option (Int32 × PH) :=
  if (17 : Int32) ≤ s170 then (j200 hh170) else (ldI hh170 (rt this 3) 17 s170 (fun (x23 : Int32) => stI hh170 (rt this 0) 1200 ((7 : Int32) + s170) x23 (fun (h24 : PH) => lt (s170 + Int32.ofInt 1) (fun (x25 : Int32) => rec170 x25 h24))))
def b_X12_judge_82 (this : Nat) (a1 : Int32) (j155 : Int32 → Int32 → Int32 → PH → Option (Int32 × PH)) (rec82 : (Int32 × Int32 × Int32 × Int32) → PH → Option (Int32 × PH)) (s82 : Int32 × Int32 × Int32 × Int32) (hh82 : PH) : Option (Int32 × PH) :=
  ldI hh82 (rt this 37) 4 a1 (fun (x26 : Int32) => if x26 ≤ s82.2.2.2 then (j155 s82.1 s82.2.1 s82.2.2.1 hh82) else (if s82.1 = (-1 : Int32) then (ldL hh82 (rt this 38) 120 (((30 : Int32) * a1) + s82.2.2.2) (fun (x27 : Int64) => cb (f_X12_whyNot this x27 hh82) (fun (r28 : Int32) (h29 : PH) => lt r28 (fun (x30 : Int32) => lt (fun (y31 : Int32) (y32 : Int32) (h33 : PH) => lt (s82.2.2.2 + Int32.ofInt 1) (fun (x34 : Int32) => rec82 (y31, x30, y32, x34) h33)) (fun (j149 : Int32 → Int32 → PH → Option (Int32 × PH)) => if x30 = 0 then (ldL h29 (rt this 38) 120 (((30 : Int32) * a1) + s82.2.2.2) (fun (x36 : Int64) => cb (f_X12_goesBy this x36.toInt32 h29) (fun (r37 : Int32) (h38 : PH) => lt (s82.2.2.1 + r37) (fun (x39 : Int32) => j149 s82.1 x39 h38)))) else (lt s82.2.2.2 (fun (x35 : Int32) => j149 x35 s82.2.2.1 h29))))))) else (j155 s82.1 s82.2.1 s82.2.2.1 hh82)))
def b_X12_judge_44 (this : Nat) (j71 : PH → Option (Int32 × PH)) (rec44 : (Int32) → PH → Option (Int32 × PH)) (s44 : Int32) (hh44 : PH) : Option (Int32 × PH) :=
  if (17 : Int32) ≤ s44 then (j71 hh44) else (ldI hh44 (rt this 0) 1200 ((7 : Int32) + s44) (fun (x40 : Int32) => stI hh44 (rt this 3) 17 s44 x40 (fun (h41 : PH) => lt (s44 + Int32.ofInt 1) (fun (x42 : Int32) => rec44 x42 h41))))
def f_X12_judge (this : Nat) (a1 : Int32) (a2 : Int32) (h0 : PH) : Option (Int32 × PH) :=
  cb (f_X12_trayFault this a1 h0) (fun (r1 : Int32) (h2 : PH) => lt (pI h2 this 5 r1) (fun (h3 : PH) => lt (fun (h4 : PH) => if (h4.1 this 5) ≤ 0 then (lt (0 : Int32) (fun (x5 : Int32) => lt (fun (h6 : PH) => lt (-1 : Int32) (fun (x7 : Int32) => lt (0 : Int32) (fun (x8 : Int32) => lt (0 : Int32) (fun (x9 : Int32) => lt (0 : Int32) (fun (x10 : Int32) => lt (fun (y11 : Int32) (y12 : Int32) (y13 : Int32) (h14 : PH) => ldI h14 (rt this 0) 1200 (7 : Int32) (fun (x15 : Int32) => cb (f_X12_size x15 h14) (fun (r16 : Int32) (h17 : PH) => lt r16 (fun (x18 : Int32) => lt (0 : Int32) (fun (x19 : Int32) => lt (fun (h20 : PH) => lt (fun (t21 : Int32) (h22 : PH) => some (t21, h22)) (fun (j230 : Int32 → PH → Option (Int32 × PH)) => if a2 = 0 then (j230 y11 h20) else (if a2 = (1 : Int32) then (j230 y12 h20) else (if a2 = (2 : Int32) then (j230 y13 h20) else (j230 x18 h20))))) (fun (j200 : PH → Option (Int32 × PH)) => lp (b_X12_judge_170 this j200) FU x19 h17)))))) (fun (j155 : Int32 → Int32 → Int32 → PH → Option (Int32 × PH)) => lp (b_X12_judge_82 this a1 j155) FU (x7, x8, x9, x10) h6)))))) (fun (j71 : PH → Option (Int32 × PH)) => lp (b_X12_judge_44 this j71) FU x5 h4))) else (some ((0 : Int32), h4))) (fun (j33 : PH → Option (Int32 × PH)) => if (h3.1 this 5) = 0 then (cb (f_X12_within a2.toInt64 (0 : Int64) (3 : Int64) h3) (fun (r43 : Int32) (h44 : PH) => if r43 = 0 then (lt (pI h44 this 5 (3 : Int32)) (fun (h45 : PH) => j33 h45)) else (j33 h44))) else (j33 h3))))
set_option maxRecDepth 100000 in
set_option maxHeartbeats 4000000 in
theorem ct_X12_judge (l : Launch) (this : Nat) (a1 : Int32) (a2 : Int32) (h0 : PH) (hk : (kd this).1 = 12) : CT mkI l yX12_judge cX12_judge 8 (some .int) (rmd 4) [.ref this, .int a1, .int a2] h0 (f_X12_judge this a1 a2 h0) := by
  refine ct_of (by decide) (Nat.le_of_ble_eq_true rfl) ?_
  intro p e s m args below meth c D cA ad A X hr hlk
  have X : Cx p s m args c RX12 cX12_judge 8 D cA ad A := X
  unfold f_X12_judge
  refine so_pick (L' := [(0, .ref this), (1, .int a1), (2, .int a2)]) X [0, 1, 2] rfl ?_
  refine so_aload_n (i := 0) X 0 (dkX12_judge (0, .aload_n 0, 1) (pgm 0 rfl)) rfl rfl ?_
  refine so_aload_n (i := 0) X 0 (dkX12_judge (1, .aload_n 0, 1) (pgm 1 rfl)) rfl rfl ?_
  refine so_iload_n (i := 1) X 1 (dkX12_judge (2, .iload_n 1, 1) (pgm 2 rfl)) rfl rfl ?_
  refine so_callV (n := 1) (As := [.int a1]) X (ct_X12_trayFault l this a1 h0 hk) hk (by decide) rfl lk_2130 lk_2132 lk_103 lk_134 lk_2133 (by decide +kernel) rfl rfl rfl (rm_ok (by omega) (by decide)) ⟨Nat.zero_le _, Nat.zero_le _⟩ (Nat.le_of_ble_eq_true rfl) (dkX12_judge (3, .invokevirtual 385, 3) (pgm 3 rfl)) (fun r1 h2 => ?_) rfl
  refine sf_putI X ff_12_5 ft_12 rfl lk_1707 hk rfl rfl (dkX12_judge (6, .putfield 92, 3) (pgm 4 rfl)) (fun h3 => ?_)
  refine so_aload_n (i := 0) X 0 (dkX12_judge (9, .aload_n 0, 1) (pgm 5 rfl)) rfl rfl ?_
  refine sf_getI X ff_12_5 lk_1707 hk (dkX12_judge (10, .getfield 92, 3) (pgm 6 rfl)) ?_
  refine so_join (jf := fun (h4 : PH) => if (h4.1 this 5) ≤ 0 then (lt (0 : Int32) (fun (x5 : Int32) => lt (fun (h6 : PH) => lt (-1 : Int32) (fun (x7 : Int32) => lt (0 : Int32) (fun (x8 : Int32) => lt (0 : Int32) (fun (x9 : Int32) => lt (0 : Int32) (fun (x10 : Int32) => lt (fun (y11 : Int32) (y12 : Int32) (y13 : Int32) (h14 : PH) => ldI h14 (rt this 0) 1200 (7 : Int32) (fun (x15 : Int32) => cb (f_X12_size x15 h14) (fun (r16 : Int32) (h17 : PH) => lt r16 (fun (x18 : Int32) => lt (0 : Int32) (fun (x19 : Int32) => lt (fun (h20 : PH) => lt (fun (t21 : Int32) (h22 : PH) => some (t21, h22)) (fun (j230 : Int32 → PH → Option (Int32 × PH)) => if a2 = 0 then (j230 y11 h20) else (if a2 = (1 : Int32) then (j230 y12 h20) else (if a2 = (2 : Int32) then (j230 y13 h20) else (j230 x18 h20))))) (fun (j200 : PH → Option (Int32 × PH)) => lp (b_X12_judge_170 this j200) FU x19 h17)))))) (fun (j155 : Int32 → Int32 → Int32 → PH → Option (Int32 × PH)) => lp (b_X12_judge_82 this a1 j155) FU (x7, x8, x9, x10) h6)))))) (fun (j71 : PH → Option (Int32 × PH)) => lp (b_X12_judge_44 this j71) FU x5 h4))) else (some ((0 : Int32), h4))) (fun (j : PH → Option (Int32 × PH)) => ∀  (h4 : PH), SWo (QM mkI below args s D cA ad A) p l e (rmd 4) s m args below meth c 0 0 8 D cA ad A 33 [(0, .ref this), (1, .int a1), (2, .int a2)] [] h4 (j h4)) ?_ (fun j33 hj33 => ?_)
  · intro h4
    refine so_aload_n (i := 0) X 0 (dkX12_judge (33, .aload_n 0, 1) (pgm 17 rfl)) rfl rfl ?_
    refine sf_getI X ff_12_5 lk_1707 hk (dkX12_judge (34, .getfield 92, 3) (pgm 18 rfl)) ?_
    refine so_if_le (tgt := 42) X (dkX12_judge (37, .ifCond .le 5, 3) (pgm 19 rfl)) rfl (fun _ => ?_) (fun _ => ?_)
    · refine so_iconst (v := (0 : Int32)) X (dkX12_judge (42, .iconst 0, 1) (pgm 22 rfl)) ic_0 ?_
      refine so_istore_n (i := 3) X (dkX12_judge (43, .istore_n 3, 1) (pgm 23 rfl)) rfl (by decide) (Lf := fun x5 => [(3, .int x5), (0, .ref this), (1, .int a1), (2, .int a2)]) (fun _ => rfl) (fun x5 => ?_)
      refine so_join (jf := fun (h6 : PH) => lt (-1 : Int32) (fun (x7 : Int32) => lt (0 : Int32) (fun (x8 : Int32) => lt (0 : Int32) (fun (x9 : Int32) => lt (0 : Int32) (fun (x10 : Int32) => lt (fun (y11 : Int32) (y12 : Int32) (y13 : Int32) (h14 : PH) => ldI h14 (rt this 0) 1200 (7 : Int32) (fun (x15 : Int32) => cb (f_X12_size x15 h14) (fun (r16 : Int32) (h17 : PH) => lt r16 (fun (x18 : Int32) => lt (0 : Int32) (fun (x19 : Int32) => lt (fun (h20 : PH) => lt (fun (t21 : Int32) (h22 : PH) => some (t21, h22)) (fun (j230 : Int32 → PH → Option (Int32 × PH)) => if a2 = 0 then (j230 y11 h20) else (if a2 = (1 : Int32) then (j230 y12 h20) else (if a2 = (2 : Int32) then (j230 y13 h20) else (j230 x18 h20))))) (fun (j200 : PH → Option (Int32 × PH)) => lp (b_X12_judge_170 this j200) FU x19 h17)))))) (fun (j155 : Int32 → Int32 → Int32 → PH → Option (Int32 × PH)) => lp (b_X12_judge_82 this a1 j155) FU (x7, x8, x9, x10) h6)))))) (fun (j : PH → Option (Int32 × PH)) => ∀  (h6 : PH), SWo (QM mkI below args s D cA ad A) p l e (rmd 4) s m args below meth c 0 0 8 D cA ad A 71 [(0, .ref this), (1, .int a1), (2, .int a2)] [] h6 (j h6)) ?_ (fun j71 hj71 => ?_)
      · intro h6
        refine so_iconst (v := (-1 : Int32)) X (dkX12_judge (71, .iconst (-1), 1) (pgm 39 rfl)) ic_m1 ?_
        refine so_istore_n (i := 3) X (dkX12_judge (72, .istore_n 3, 1) (pgm 40 rfl)) rfl (by decide) (Lf := fun x7 => [(3, .int x7), (0, .ref this), (1, .int a1), (2, .int a2)]) (fun _ => rfl) (fun x7 => ?_)
        refine so_iconst (v := (0 : Int32)) X (dkX12_judge (73, .iconst 0, 1) (pgm 41 rfl)) ic_0 ?_
        refine so_istore (i := 4) X (dkX12_judge (74, .istore 4, 2) (pgm 42 rfl)) (by decide) (Lf := fun x8 => [(4, .int x8), (3, .int x7), (0, .ref this), (1, .int a1), (2, .int a2)]) (fun _ => rfl) (fun x8 => ?_)
        refine so_iconst (v := (0 : Int32)) X (dkX12_judge (76, .iconst 0, 1) (pgm 43 rfl)) ic_0 ?_
        refine so_istore (i := 5) X (dkX12_judge (77, .istore 5, 2) (pgm 44 rfl)) (by decide) (Lf := fun x9 => [(5, .int x9), (4, .int x8), (3, .int x7), (0, .ref this), (1, .int a1), (2, .int a2)]) (fun _ => rfl) (fun x9 => ?_)
        refine so_iconst (v := (0 : Int32)) X (dkX12_judge (79, .iconst 0, 1) (pgm 45 rfl)) ic_0 ?_
        refine so_istore (i := 6) X (dkX12_judge (80, .istore 6, 2) (pgm 46 rfl)) (by decide) (Lf := fun x10 => [(6, .int x10), (5, .int x9), (4, .int x8), (3, .int x7), (0, .ref this), (1, .int a1), (2, .int a2)]) (fun _ => rfl) (fun x10 => ?_)
        refine so_join (jf := fun (y11 : Int32) (y12 : Int32) (y13 : Int32) (h14 : PH) => ldI h14 (rt this 0) 1200 (7 : Int32) (fun (x15 : Int32) => cb (f_X12_size x15 h14) (fun (r16 : Int32) (h17 : PH) => lt r16 (fun (x18 : Int32) => lt (0 : Int32) (fun (x19 : Int32) => lt (fun (h20 : PH) => lt (fun (t21 : Int32) (h22 : PH) => some (t21, h22)) (fun (j230 : Int32 → PH → Option (Int32 × PH)) => if a2 = 0 then (j230 y11 h20) else (if a2 = (1 : Int32) then (j230 y12 h20) else (if a2 = (2 : Int32) then (j230 y13 h20) else (j230 x18 h20))))) (fun (j200 : PH → Option (Int32 × PH)) => lp (b_X12_judge_170 this j200) FU x19 h17)))))) (fun (j : Int32 → Int32 → Int32 → PH → Option (Int32 × PH)) => ∀ (y11 : Int32) (y12 : Int32) (y13 : Int32) (h14 : PH), SWo (QM mkI below args s D cA ad A) p l e (rmd 4) s m args below meth c 0 0 8 D cA ad A 155 [(0, .ref this), (2, .int a2), (3, .int y11), (4, .int y12), (5, .int y13)] [] h14 (j y11 y12 y13 h14)) ?_ (fun j155 hj155 => ?_)
        · intro y11 y12 y13 h14
          refine so_aload_n (i := 0) X 0 (dkX12_judge (155, .aload_n 0, 1) (pgm 88 rfl)) rfl rfl ?_
          refine sf_getR X ff_12_0 lk_1702 hk (dkX12_judge (156, .getfield 9, 3) (pgm 89 rfl)) ?_
          refine so_bipush (v := (7 : Int32)) X (dkX12_judge (159, .bipush 7, 2) (pgm 90 rfl)) bp_7 ?_
          refine so_iald X (rk_12_0 this hk) (dkX12_judge (161, .iaload, 1) (pgm 91 rfl)) (fun x15 => ?_)
          refine so_callS (n := 1) (As := [.int x15]) X (ct_X12_size l x15 h14 ) lk_1687 lk_1688 lk_134 lk_1689 (by decide +kernel) rfl rfl rfl (rm_ok (by omega) (by decide)) ⟨Nat.zero_le _, Nat.zero_le _⟩ (Nat.le_of_ble_eq_true rfl) (dkX12_judge (162, .invokestatic 269, 3) (pgm 92 rfl)) (fun r16 h17 => ?_) rfl
          refine so_istore (i := 6) X (dkX12_judge (165, .istore 6, 2) (pgm 93 rfl)) (by decide) (Lf := fun x18 => [(6, .int x18), (0, .ref this), (2, .int a2), (3, .int y11), (4, .int y12), (5, .int y13)]) (fun _ => rfl) (fun x18 => ?_)
          refine so_iconst (v := (0 : Int32)) X (dkX12_judge (167, .iconst 0, 1) (pgm 94 rfl)) ic_0 ?_
          refine so_istore (i := 7) X (dkX12_judge (168, .istore 7, 2) (pgm 95 rfl)) (by decide) (Lf := fun x19 => [(7, .int x19), (6, .int x18), (0, .ref this), (2, .int a2), (3, .int y11), (4, .int y12), (5, .int y13)]) (fun _ => rfl) (fun x19 => ?_)
          refine so_join (jf := fun (h20 : PH) => lt (fun (t21 : Int32) (h22 : PH) => some (t21, h22)) (fun (j230 : Int32 → PH → Option (Int32 × PH)) => if a2 = 0 then (j230 y11 h20) else (if a2 = (1 : Int32) then (j230 y12 h20) else (if a2 = (2 : Int32) then (j230 y13 h20) else (j230 x18 h20))))) (fun (j : PH → Option (Int32 × PH)) => ∀  (h20 : PH), SWo (QM mkI below args s D cA ad A) p l e (rmd 4) s m args below meth c 0 0 8 D cA ad A 200 [(2, .int a2), (3, .int y11), (4, .int y12), (5, .int y13), (6, .int x18)] [] h20 (j h20)) ?_ (fun j200 hj200 => ?_)
          · intro h20
            refine so_iload_n (i := 2) X 0 (dkX12_judge (200, .iload_n 2, 1) (pgm 111 rfl)) rfl rfl ?_
            refine so_join (jf := fun (t21 : Int32) (h22 : PH) => some (t21, h22)) (fun (j : Int32 → PH → Option (Int32 × PH)) => ∀ (t21 : Int32) (h22 : PH), SWo (QM mkI below args s D cA ad A) p l e (rmd 4) s m args below meth c 0 0 8 D cA ad A 230 [] [.int t21] h22 (j t21 h22)) ?_ (fun j230 hj230 => ?_)
            · intro t21 h22
              exact so_iret X hr hlk (dkX12_judge (230, .ireturn, 1) (pgm 126 rfl))
            refine so_if_ne (tgt := 208) X (dkX12_judge (201, .ifCond .ne 7, 3) (pgm 112 rfl)) rfl (fun _ => ?_) (fun _ => ?_)
            · refine so_iload_n (i := 2) X 0 (dkX12_judge (208, .iload_n 2, 1) (pgm 115 rfl)) rfl rfl ?_
              refine so_iconst (v := (1 : Int32)) X (dkX12_judge (209, .iconst 1, 1) (pgm 116 rfl)) ic_1 ?_
              refine so_icmp_ne (tgt := 218) X (dkX12_judge (210, .if_icmp .ne 8, 3) (pgm 117 rfl)) rfl (fun _ => ?_) (fun _ => ?_)
              · refine so_iload_n (i := 2) X 0 (dkX12_judge (218, .iload_n 2, 1) (pgm 120 rfl)) rfl rfl ?_
                refine so_iconst (v := (2 : Int32)) X (dkX12_judge (219, .iconst 2, 1) (pgm 121 rfl)) ic_2 ?_
                refine so_icmp_ne (tgt := 228) X (dkX12_judge (220, .if_icmp .ne 8, 3) (pgm 122 rfl)) rfl (fun _ => ?_) (fun _ => ?_)
                · refine so_iload (i := 6) X 4 (dkX12_judge (228, .iload 6, 2) (pgm 125 rfl)) rfl ?_
                  exact so_pick X [] rfl (hj230 x18 h20)
                · refine so_iload (i := 5) X 3 (dkX12_judge (223, .iload 5, 2) (pgm 123 rfl)) rfl ?_
                  refine so_goto (tgt := 230) X (dkX12_judge (225, .goto 5, 3) (pgm 124 rfl)) rfl ?_
                  exact so_pick X [] rfl (hj230 y13 h20)
              · refine so_iload (i := 4) X 2 (dkX12_judge (213, .iload 4, 2) (pgm 118 rfl)) rfl ?_
                refine so_goto (tgt := 230) X (dkX12_judge (215, .goto 15, 3) (pgm 119 rfl)) rfl ?_
                exact so_pick X [] rfl (hj230 y12 h20)
            · refine so_iload_n (i := 3) X 1 (dkX12_judge (204, .iload_n 3, 1) (pgm 113 rfl)) rfl rfl ?_
              refine so_goto (tgt := 230) X (dkX12_judge (205, .goto 25, 3) (pgm 114 rfl)) rfl ?_
              exact so_pick X [] rfl (hj230 y11 h20)
          refine so_pick (L' := [(0, .ref this), (2, .int a2), (3, .int y11), (4, .int y12), (5, .int y13), (6, .int x18), (7, .int x19)]) X [2, 3, 4, 5, 6, 1, 0] rfl ?_
          refine so_loop (body := b_X12_judge_170 this j200) (fun (s170 : Int32) => [(0, .ref this), (2, .int a2), (3, .int y11), (4, .int y12), (5, .int y13), (6, .int x18), (7, .int s170)]) (fun rec170 hrec170 s170 hh170 => ?_) FU x19 h17
          unfold b_X12_judge_170
          refine so_iload (i := 7) X 6 (dkX12_judge (170, .iload 7, 2) (pgm 96 rfl)) rfl ?_
          refine so_bipush (v := (17 : Int32)) X (dkX12_judge (172, .bipush 17, 2) (pgm 97 rfl)) bp_17 ?_
          refine so_icmp_ge (tgt := 200) X (dkX12_judge (174, .if_icmp .ge 26, 3) (pgm 98 rfl)) rfl (fun _ => ?_) (fun _ => ?_)
          · exact so_pick X [1, 2, 3, 4, 5] rfl (hj200 hh170)
          · refine so_aload_n (i := 0) X 0 (dkX12_judge (177, .aload_n 0, 1) (pgm 99 rfl)) rfl rfl ?_
            refine sf_getR X ff_12_0 lk_1702 hk (dkX12_judge (178, .getfield 9, 3) (pgm 100 rfl)) ?_
            refine so_bipush (v := (7 : Int32)) X (dkX12_judge (181, .bipush 7, 2) (pgm 101 rfl)) bp_7 ?_
            refine so_iload (i := 7) X 6 (dkX12_judge (183, .iload 7, 2) (pgm 102 rfl)) rfl ?_
            refine so_iadd X (dkX12_judge (185, .iadd, 1) (pgm 103 rfl)) ?_
            refine so_aload_n (i := 0) X 0 (dkX12_judge (186, .aload_n 0, 1) (pgm 104 rfl)) rfl rfl ?_
            refine sf_getR X ff_12_3 lk_1705 hk (dkX12_judge (187, .getfield 19, 3) (pgm 105 rfl)) ?_
            refine so_iload (i := 7) X 6 (dkX12_judge (190, .iload 7, 2) (pgm 106 rfl)) rfl ?_
            refine so_iald X (rk_12_3 this hk) (dkX12_judge (192, .iaload, 1) (pgm 107 rfl)) (fun x23 => ?_)
            refine so_iast X (rk_12_0 this hk) (dkX12_judge (193, .iastore, 1) (pgm 108 rfl)) (fun h24 => ?_)
            refine so_iinc (i := 7) X 6 (dkX12_judge (194, .iinc 7 1, 3) (pgm 109 rfl)) rfl rfl (by decide) (Lf := fun x25 => [(7, .int x25), (0, .ref this), (2, .int a2), (3, .int y11), (4, .int y12), (5, .int y13), (6, .int x18)]) (fun _ => rfl) (fun x25 => ?_)
            refine so_goto (tgt := 170) X (dkX12_judge (197, .goto (-27), 3) (pgm 110 rfl)) rfl ?_
            exact so_pick X [1, 2, 3, 4, 5, 6, 0] rfl (hrec170 x25 h24)
        refine so_pick (L' := [(0, .ref this), (1, .int a1), (2, .int a2), (3, .int x7), (4, .int x8), (5, .int x9), (6, .int x10)]) X [4, 5, 6, 3, 2, 1, 0] rfl ?_
        refine so_loop (body := b_X12_judge_82 this a1 j155) (fun (s82 : Int32 × Int32 × Int32 × Int32) => [(0, .ref this), (1, .int a1), (2, .int a2), (3, .int s82.1), (4, .int s82.2.1), (5, .int s82.2.2.1), (6, .int s82.2.2.2)]) (fun rec82 hrec82 s82 hh82 => ?_) FU (x7, x8, x9, x10) h6
        unfold b_X12_judge_82
        refine so_iload (i := 6) X 6 (dkX12_judge (82, .iload 6, 2) (pgm 47 rfl)) rfl ?_
        refine so_aload_n (i := 0) X 0 (dkX12_judge (84, .aload_n 0, 1) (pgm 48 rfl)) rfl rfl ?_
        refine sf_getR X ff_12_37 lk_1739 hk (dkX12_judge (85, .getfield 83, 3) (pgm 49 rfl)) ?_
        refine so_iload_n (i := 1) X 1 (dkX12_judge (88, .iload_n 1, 1) (pgm 50 rfl)) rfl rfl ?_
        refine so_iald X (rk_12_37 this hk) (dkX12_judge (89, .iaload, 1) (pgm 51 rfl)) (fun x26 => ?_)
        refine so_icmp_ge (tgt := 155) X (dkX12_judge (90, .if_icmp .ge 65, 3) (pgm 52 rfl)) rfl (fun _ => ?_) (fun _ => ?_)
        · exact so_pick X [0, 2, 3, 4, 5] rfl (hj155 s82.1 s82.2.1 s82.2.2.1 hh82)
        · refine so_iload_n (i := 3) X 3 (dkX12_judge (93, .iload_n 3, 1) (pgm 53 rfl)) rfl rfl ?_
          refine so_iconst (v := (-1 : Int32)) X (dkX12_judge (94, .iconst (-1), 1) (pgm 54 rfl)) ic_m1 ?_
          refine so_icmp_ne (tgt := 155) X (dkX12_judge (95, .if_icmp .ne 60, 3) (pgm 55 rfl)) rfl (fun _ => ?_) (fun _ => ?_)
          · exact so_pick X [0, 2, 3, 4, 5] rfl (hj155 s82.1 s82.2.1 s82.2.2.1 hh82)
          · refine so_aload_n (i := 0) X 0 (dkX12_judge (98, .aload_n 0, 1) (pgm 56 rfl)) rfl rfl ?_
            refine so_aload_n (i := 0) X 0 (dkX12_judge (99, .aload_n 0, 1) (pgm 57 rfl)) rfl rfl ?_
            refine sf_getR X ff_12_38 lk_1740 hk (dkX12_judge (100, .getfield 86, 3) (pgm 58 rfl)) ?_
            refine so_bipush (v := (30 : Int32)) X (dkX12_judge (103, .bipush 30, 2) (pgm 59 rfl)) bp_30 ?_
            refine so_iload_n (i := 1) X 1 (dkX12_judge (105, .iload_n 1, 1) (pgm 60 rfl)) rfl rfl ?_
            refine so_imul X (dkX12_judge (106, .imul, 1) (pgm 61 rfl)) ?_
            refine so_iload (i := 6) X 6 (dkX12_judge (107, .iload 6, 2) (pgm 62 rfl)) rfl ?_
            refine so_iadd X (dkX12_judge (109, .iadd, 1) (pgm 63 rfl)) ?_
            refine so_lald X (rk_12_38 this hk) (dkX12_judge (110, .laload, 1) (pgm 64 rfl)) (fun x27 => ?_)
            refine so_callV (n := 1) (As := [.long x27]) X (ct_X12_whyNot l this x27 hh82 hk) hk (by decide) rfl lk_1982 lk_1984 lk_86 lk_134 lk_1985 (by decide +kernel) rfl rfl rfl (rm_ok (by omega) (by decide)) ⟨Nat.zero_le _, Nat.zero_le _⟩ (Nat.le_of_ble_eq_true rfl) (dkX12_judge (111, .invokevirtual 310, 3) (pgm 65 rfl)) (fun r28 h29 => ?_) rfl
            refine so_istore (i := 4) X (dkX12_judge (114, .istore 4, 2) (pgm 66 rfl)) (by decide) (Lf := fun x30 => [(4, .int x30), (0, .ref this), (1, .int a1), (2, .int a2), (3, .int s82.1), (5, .int s82.2.2.1), (6, .int s82.2.2.2)]) (fun _ => rfl) (fun x30 => ?_)
            refine so_iload (i := 4) X 0 (dkX12_judge (116, .iload 4, 2) (pgm 67 rfl)) rfl ?_
            refine so_join (jf := fun (y31 : Int32) (y32 : Int32) (h33 : PH) => lt (s82.2.2.2 + Int32.ofInt 1) (fun (x34 : Int32) => rec82 (y31, x30, y32, x34) h33)) (fun (j : Int32 → Int32 → PH → Option (Int32 × PH)) => ∀ (y31 : Int32) (y32 : Int32) (h33 : PH), SWo (QM mkI below args s D cA ad A) p l e (rmd 4) s m args below meth c 0 0 8 D cA ad A 149 [(0, .ref this), (1, .int a1), (2, .int a2), (3, .int y31), (4, .int x30), (5, .int y32), (6, .int s82.2.2.2)] [] h33 (j y31 y32 h33)) ?_ (fun j149 hj149 => ?_)
            · intro y31 y32 h33
              refine so_iinc (i := 6) X 6 (dkX12_judge (149, .iinc 6 1, 3) (pgm 86 rfl)) rfl rfl (by decide) (Lf := fun x34 => [(6, .int x34), (0, .ref this), (1, .int a1), (2, .int a2), (3, .int y31), (4, .int x30), (5, .int y32)]) (fun _ => rfl) (fun x34 => ?_)
              refine so_goto (tgt := 82) X (dkX12_judge (152, .goto (-70), 3) (pgm 87 rfl)) rfl ?_
              exact so_pick X [1, 2, 3, 4, 5, 6, 0] rfl (hrec82 (y31, x30, y32, x34) h33)
            refine so_if_ne (tgt := 146) X (dkX12_judge (118, .ifCond .ne 28, 3) (pgm 68 rfl)) rfl (fun _ => ?_) (fun _ => ?_)
            · refine so_iload (i := 6) X 6 (dkX12_judge (146, .iload 6, 2) (pgm 84 rfl)) rfl ?_
              refine so_istore_n (i := 3) X (dkX12_judge (148, .istore_n 3, 1) (pgm 85 rfl)) rfl (by decide) (Lf := fun x35 => [(3, .int x35), (4, .int x30), (0, .ref this), (1, .int a1), (2, .int a2), (5, .int s82.2.2.1), (6, .int s82.2.2.2)]) (fun _ => rfl) (fun x35 => ?_)
              exact so_pick X [2, 3, 4, 0, 1, 5, 6] rfl (hj149 x35 s82.2.2.1 h29)
            · refine so_iload (i := 5) X 5 (dkX12_judge (121, .iload 5, 2) (pgm 69 rfl)) rfl ?_
              refine so_aload_n (i := 0) X 1 (dkX12_judge (123, .aload_n 0, 1) (pgm 70 rfl)) rfl rfl ?_
              refine so_aload_n (i := 0) X 1 (dkX12_judge (124, .aload_n 0, 1) (pgm 71 rfl)) rfl rfl ?_
              refine sf_getR X ff_12_38 lk_1740 hk (dkX12_judge (125, .getfield 86, 3) (pgm 72 rfl)) ?_
              refine so_bipush (v := (30 : Int32)) X (dkX12_judge (128, .bipush 30, 2) (pgm 73 rfl)) bp_30 ?_
              refine so_iload_n (i := 1) X 2 (dkX12_judge (130, .iload_n 1, 1) (pgm 74 rfl)) rfl rfl ?_
              refine so_imul X (dkX12_judge (131, .imul, 1) (pgm 75 rfl)) ?_
              refine so_iload (i := 6) X 6 (dkX12_judge (132, .iload 6, 2) (pgm 76 rfl)) rfl ?_
              refine so_iadd X (dkX12_judge (134, .iadd, 1) (pgm 77 rfl)) ?_
              refine so_lald X (rk_12_38 this hk) (dkX12_judge (135, .laload, 1) (pgm 78 rfl)) (fun x36 => ?_)
              refine so_l2i X (dkX12_judge (136, .l2i, 1) (pgm 79 rfl)) ?_
              refine so_callV (n := 1) (As := [.int x36.toInt32]) X (ct_X12_goesBy l this x36.toInt32 h29 hk) hk (by decide) rfl lk_2191 lk_2193 lk_114 lk_134 lk_2194 (by decide +kernel) rfl rfl rfl (rm_ok (by omega) (by decide)) ⟨Nat.zero_le _, Nat.zero_le _⟩ (Nat.le_of_ble_eq_true rfl) (dkX12_judge (137, .invokevirtual 426, 3) (pgm 80 rfl)) (fun r37 h38 => ?_) rfl
              refine so_iadd X (dkX12_judge (140, .iadd, 1) (pgm 81 rfl)) ?_
              refine so_istore (i := 5) X (dkX12_judge (141, .istore 5, 2) (pgm 82 rfl)) (by decide) (Lf := fun x39 => [(5, .int x39), (4, .int x30), (0, .ref this), (1, .int a1), (2, .int a2), (3, .int s82.1), (6, .int s82.2.2.2)]) (fun _ => rfl) (fun x39 => ?_)
              refine so_goto (tgt := 149) X (dkX12_judge (143, .goto 6, 3) (pgm 83 rfl)) rfl ?_
              exact so_pick X [2, 3, 4, 5, 1, 0, 6] rfl (hj149 s82.1 x39 h38)
      refine so_pick (L' := [(0, .ref this), (1, .int a1), (2, .int a2), (3, .int x5)]) X [1, 2, 3, 0] rfl ?_
      refine so_loop (body := b_X12_judge_44 this j71) (fun (s44 : Int32) => [(0, .ref this), (1, .int a1), (2, .int a2), (3, .int s44)]) (fun rec44 hrec44 s44 hh44 => ?_) FU x5 h4
      unfold b_X12_judge_44
      refine so_iload_n (i := 3) X 3 (dkX12_judge (44, .iload_n 3, 1) (pgm 24 rfl)) rfl rfl ?_
      refine so_bipush (v := (17 : Int32)) X (dkX12_judge (45, .bipush 17, 2) (pgm 25 rfl)) bp_17 ?_
      refine so_icmp_ge (tgt := 71) X (dkX12_judge (47, .if_icmp .ge 24, 3) (pgm 26 rfl)) rfl (fun _ => ?_) (fun _ => ?_)
      · exact so_pick X [0, 1, 2] rfl (hj71 hh44)
      · refine so_aload_n (i := 0) X 0 (dkX12_judge (50, .aload_n 0, 1) (pgm 27 rfl)) rfl rfl ?_
        refine sf_getR X ff_12_3 lk_1705 hk (dkX12_judge (51, .getfield 19, 3) (pgm 28 rfl)) ?_
        refine so_iload_n (i := 3) X 3 (dkX12_judge (54, .iload_n 3, 1) (pgm 29 rfl)) rfl rfl ?_
        refine so_aload_n (i := 0) X 0 (dkX12_judge (55, .aload_n 0, 1) (pgm 30 rfl)) rfl rfl ?_
        refine sf_getR X ff_12_0 lk_1702 hk (dkX12_judge (56, .getfield 9, 3) (pgm 31 rfl)) ?_
        refine so_bipush (v := (7 : Int32)) X (dkX12_judge (59, .bipush 7, 2) (pgm 32 rfl)) bp_7 ?_
        refine so_iload_n (i := 3) X 3 (dkX12_judge (61, .iload_n 3, 1) (pgm 33 rfl)) rfl rfl ?_
        refine so_iadd X (dkX12_judge (62, .iadd, 1) (pgm 34 rfl)) ?_
        refine so_iald X (rk_12_0 this hk) (dkX12_judge (63, .iaload, 1) (pgm 35 rfl)) (fun x40 => ?_)
        refine so_iast X (rk_12_3 this hk) (dkX12_judge (64, .iastore, 1) (pgm 36 rfl)) (fun h41 => ?_)
        refine so_iinc (i := 3) X 3 (dkX12_judge (65, .iinc 3 1, 3) (pgm 37 rfl)) rfl rfl (by decide) (Lf := fun x42 => [(3, .int x42), (0, .ref this), (1, .int a1), (2, .int a2)]) (fun _ => rfl) (fun x42 => ?_)
        refine so_goto (tgt := 44) X (dkX12_judge (68, .goto (-24), 3) (pgm 38 rfl)) rfl ?_
        exact so_pick X [1, 2, 3, 0] rfl (hrec44 x42 h41)
    · refine so_iconst (v := (0 : Int32)) X (dkX12_judge (40, .iconst 0, 1) (pgm 20 rfl)) ic_0 ?_
      exact so_iret X hr hlk (dkX12_judge (41, .ireturn, 1) (pgm 21 rfl))
  refine so_if_ne (tgt := 33) X (dkX12_judge (13, .ifCond .ne 20, 3) (pgm 7 rfl)) rfl (fun _ => ?_) (fun _ => ?_)
  · exact so_pick X [0, 1, 2] rfl (hj33 h3)
  · refine so_iload_n (i := 2) X 2 (dkX12_judge (16, .iload_n 2, 1) (pgm 8 rfl)) rfl rfl ?_
    refine so_i2l X (dkX12_judge (17, .i2l, 1) (pgm 9 rfl)) ?_
    refine so_lconst (v := (0 : Int64)) X (dkX12_judge (18, .lconst 0, 1) (pgm 10 rfl)) lc_0 ?_
    refine so_ldc2 X lk_2082 (dkX12_judge (19, .ldc2_w 349, 3) (pgm 11 rfl)) ?_
    refine so_callS (n := 3) (As := [.long a2.toInt64, .long (0 : Int64), .long (3 : Int64)]) X (ct_X12_within l a2.toInt64 (0 : Int64) (3 : Int64) h3 ) lk_1832 lk_1833 lk_134 lk_1834 (by decide +kernel) rfl rfl rfl (rm_ok (by omega) (by decide)) ⟨Nat.zero_le _, Nat.zero_le _⟩ (Nat.le_of_ble_eq_true rfl) (dkX12_judge (22, .invokestatic 156, 3) (pgm 12 rfl)) (fun r43 h44 => ?_) rfl
    refine so_if_ne (tgt := 33) X (dkX12_judge (25, .ifCond .ne 8, 3) (pgm 13 rfl)) rfl (fun _ => ?_) (fun _ => ?_)
    · exact so_pick X [0, 1, 2] rfl (hj33 h44)
    · refine so_aload_n (i := 0) X 0 (dkX12_judge (28, .aload_n 0, 1) (pgm 14 rfl)) rfl rfl ?_
      refine so_iconst (v := (3 : Int32)) X (dkX12_judge (29, .iconst 3, 1) (pgm 15 rfl)) ic_3 ?_
      refine sf_putI X ff_12_5 ft_12 rfl lk_1707 hk rfl rfl (dkX12_judge (30, .putfield 92, 3) (pgm 16 rfl)) (fun h45 => ?_)
      exact so_pick X [0, 1, 2] rfl (hj33 h45)
def pgX12_perform : List (Nat × Instr × Nat) := [(0, .aload_n 0, 1), (1, .aload_n 0, 1), (2, .iload_n 1, 1), (3, .invokevirtual 385, 3), (6, .putfield 92, 3), (9, .aload_n 0, 1), (10, .getfield 92, 3), (13, .ifCond .le 5, 3), (16, .iconst 0, 1), (17, .ireturn, 1), (18, .iconst 0, 1), (19, .istore_n 2, 1), (20, .iload_n 2, 1), (21, .aload_n 0, 1), (22, .getfield 83, 3), (25, .iload_n 1, 1), (26, .iaload, 1), (27, .if_icmp .ge 48, 3), (30, .aload_n 0, 1), (31, .aload_n 0, 1), (32, .getfield 86, 3), (35, .bipush 30, 2), (37, .iload_n 1, 1), (38, .imul, 1), (39, .iload_n 2, 1), (40, .iadd, 1), (41, .laload, 1), (42, .invokevirtual 310, 3), (45, .ifCond .ne 30, 3), (48, .aload_n 0, 1), (49, .invokevirtual 423, 3), (52, .aload_n 0, 1), (53, .aload_n 0, 1), (54, .getfield 86, 3), (57, .bipush 30, 2), (59, .iload_n 1, 1), (60, .imul, 1), (61, .iload_n 2, 1), (62, .iadd, 1), (63, .laload, 1), (64, .l2i, 1), (65, .invokevirtual 426, 3), (68, .pop, 1), (69, .iinc 2 1, 3), (72, .goto (-52), 3), (75, .iload_n 2, 1), (76, .ireturn, 1)]
theorem dkX12_perform : ∀ q ∈ pgX12_perform, decode cX12_perform q.1 = .ok q.2 := by decide +kernel
def b_X12_perform_20 (this : Nat) (a1 : Int32) (j75 : Int32 → PH → Option (Int32 × PH)) (rec20 : (Int32) → PH → Option (Int32 × PH)) (s20 : Int32) (hh20 : PH) : Option (Int32 × PH) :=
  ldI hh20 (rt this 37) 4 a1 (fun (x7 : Int32) => if x7 ≤ s20 then (j75 s20 hh20) else (ldL hh20 (rt this 38) 120 (((30 : Int32) * a1) + s20) (fun (x8 : Int64) => cb (f_X12_whyNot this x8 hh20) (fun (r9 : Int32) (h10 : PH) => if r9 = 0 then (cb (f_X12_keeps this h10) (fun (r11 : Unit) (h12 : PH) => ldL h12 (rt this 38) 120 (((30 : Int32) * a1) + s20) (fun (x13 : Int64) => cb (f_X12_goesBy this x13.toInt32 h12) (fun (r14 : Int32) (h15 : PH) => lt (s20 + Int32.ofInt 1) (fun (x16 : Int32) => rec20 x16 h15))))) else (j75 s20 h10)))))
def f_X12_perform (this : Nat) (a1 : Int32) (h0 : PH) : Option (Int32 × PH) :=
  cb (f_X12_trayFault this a1 h0) (fun (r1 : Int32) (h2 : PH) => lt (pI h2 this 5 r1) (fun (h3 : PH) => if (h3.1 this 5) ≤ 0 then (lt (0 : Int32) (fun (x4 : Int32) => lt (fun (y5 : Int32) (h6 : PH) => some (y5, h6)) (fun (j75 : Int32 → PH → Option (Int32 × PH)) => lp (b_X12_perform_20 this a1 j75) FU x4 h3))) else (some ((0 : Int32), h3))))
set_option maxRecDepth 100000 in
set_option maxHeartbeats 4000000 in
theorem ct_X12_perform (l : Launch) (this : Nat) (a1 : Int32) (h0 : PH) (hk : (kd this).1 = 12) : CT mkI l yX12_perform cX12_perform 3 (some .int) (rmd 4) [.ref this, .int a1] h0 (f_X12_perform this a1 h0) := by
  refine ct_of (by decide) (Nat.le_of_ble_eq_true rfl) ?_
  intro p e s m args below meth c D cA ad A X hr hlk
  have X : Cx p s m args c RX12 cX12_perform 3 D cA ad A := X
  unfold f_X12_perform
  refine so_pick (L' := [(0, .ref this), (1, .int a1)]) X [0, 1] rfl ?_
  refine so_aload_n (i := 0) X 0 (dkX12_perform (0, .aload_n 0, 1) (pgm 0 rfl)) rfl rfl ?_
  refine so_aload_n (i := 0) X 0 (dkX12_perform (1, .aload_n 0, 1) (pgm 1 rfl)) rfl rfl ?_
  refine so_iload_n (i := 1) X 1 (dkX12_perform (2, .iload_n 1, 1) (pgm 2 rfl)) rfl rfl ?_
  refine so_callV (n := 1) (As := [.int a1]) X (ct_X12_trayFault l this a1 h0 hk) hk (by decide) rfl lk_2130 lk_2132 lk_103 lk_134 lk_2133 (by decide +kernel) rfl rfl rfl (rm_ok (by omega) (by decide)) ⟨Nat.zero_le _, Nat.zero_le _⟩ (Nat.le_of_ble_eq_true rfl) (dkX12_perform (3, .invokevirtual 385, 3) (pgm 3 rfl)) (fun r1 h2 => ?_) rfl
  refine sf_putI X ff_12_5 ft_12 rfl lk_1707 hk rfl rfl (dkX12_perform (6, .putfield 92, 3) (pgm 4 rfl)) (fun h3 => ?_)
  refine so_aload_n (i := 0) X 0 (dkX12_perform (9, .aload_n 0, 1) (pgm 5 rfl)) rfl rfl ?_
  refine sf_getI X ff_12_5 lk_1707 hk (dkX12_perform (10, .getfield 92, 3) (pgm 6 rfl)) ?_
  refine so_if_le (tgt := 18) X (dkX12_perform (13, .ifCond .le 5, 3) (pgm 7 rfl)) rfl (fun _ => ?_) (fun _ => ?_)
  · refine so_iconst (v := (0 : Int32)) X (dkX12_perform (18, .iconst 0, 1) (pgm 10 rfl)) ic_0 ?_
    refine so_istore_n (i := 2) X (dkX12_perform (19, .istore_n 2, 1) (pgm 11 rfl)) rfl (by decide) (Lf := fun x4 => [(2, .int x4), (0, .ref this), (1, .int a1)]) (fun _ => rfl) (fun x4 => ?_)
    refine so_join (jf := fun (y5 : Int32) (h6 : PH) => some (y5, h6)) (fun (j : Int32 → PH → Option (Int32 × PH)) => ∀ (y5 : Int32) (h6 : PH), SWo (QM mkI below args s D cA ad A) p l e (rmd 4) s m args below meth c 0 0 3 D cA ad A 75 [(2, .int y5)] [] h6 (j y5 h6)) ?_ (fun j75 hj75 => ?_)
    · intro y5 h6
      refine so_iload_n (i := 2) X 0 (dkX12_perform (75, .iload_n 2, 1) (pgm 45 rfl)) rfl rfl ?_
      exact so_iret X hr hlk (dkX12_perform (76, .ireturn, 1) (pgm 46 rfl))
    refine so_pick (L' := [(0, .ref this), (1, .int a1), (2, .int x4)]) X [1, 2, 0] rfl ?_
    refine so_loop (body := b_X12_perform_20 this a1 j75) (fun (s20 : Int32) => [(0, .ref this), (1, .int a1), (2, .int s20)]) (fun rec20 hrec20 s20 hh20 => ?_) FU x4 h3
    unfold b_X12_perform_20
    refine so_iload_n (i := 2) X 2 (dkX12_perform (20, .iload_n 2, 1) (pgm 12 rfl)) rfl rfl ?_
    refine so_aload_n (i := 0) X 0 (dkX12_perform (21, .aload_n 0, 1) (pgm 13 rfl)) rfl rfl ?_
    refine sf_getR X ff_12_37 lk_1739 hk (dkX12_perform (22, .getfield 83, 3) (pgm 14 rfl)) ?_
    refine so_iload_n (i := 1) X 1 (dkX12_perform (25, .iload_n 1, 1) (pgm 15 rfl)) rfl rfl ?_
    refine so_iald X (rk_12_37 this hk) (dkX12_perform (26, .iaload, 1) (pgm 16 rfl)) (fun x7 => ?_)
    refine so_icmp_ge (tgt := 75) X (dkX12_perform (27, .if_icmp .ge 48, 3) (pgm 17 rfl)) rfl (fun _ => ?_) (fun _ => ?_)
    · exact so_pick X [2] rfl (hj75 s20 hh20)
    · refine so_aload_n (i := 0) X 0 (dkX12_perform (30, .aload_n 0, 1) (pgm 18 rfl)) rfl rfl ?_
      refine so_aload_n (i := 0) X 0 (dkX12_perform (31, .aload_n 0, 1) (pgm 19 rfl)) rfl rfl ?_
      refine sf_getR X ff_12_38 lk_1740 hk (dkX12_perform (32, .getfield 86, 3) (pgm 20 rfl)) ?_
      refine so_bipush (v := (30 : Int32)) X (dkX12_perform (35, .bipush 30, 2) (pgm 21 rfl)) bp_30 ?_
      refine so_iload_n (i := 1) X 1 (dkX12_perform (37, .iload_n 1, 1) (pgm 22 rfl)) rfl rfl ?_
      refine so_imul X (dkX12_perform (38, .imul, 1) (pgm 23 rfl)) ?_
      refine so_iload_n (i := 2) X 2 (dkX12_perform (39, .iload_n 2, 1) (pgm 24 rfl)) rfl rfl ?_
      refine so_iadd X (dkX12_perform (40, .iadd, 1) (pgm 25 rfl)) ?_
      refine so_lald X (rk_12_38 this hk) (dkX12_perform (41, .laload, 1) (pgm 26 rfl)) (fun x8 => ?_)
      refine so_callV (n := 1) (As := [.long x8]) X (ct_X12_whyNot l this x8 hh20 hk) hk (by decide) rfl lk_1982 lk_1984 lk_86 lk_134 lk_1985 (by decide +kernel) rfl rfl rfl (rm_ok (by omega) (by decide)) ⟨Nat.zero_le _, Nat.zero_le _⟩ (Nat.le_of_ble_eq_true rfl) (dkX12_perform (42, .invokevirtual 310, 3) (pgm 27 rfl)) (fun r9 h10 => ?_) rfl
      refine so_if_ne (tgt := 75) X (dkX12_perform (45, .ifCond .ne 30, 3) (pgm 28 rfl)) rfl (fun _ => ?_) (fun _ => ?_)
      · exact so_pick X [2] rfl (hj75 s20 h10)
      · refine so_aload_n (i := 0) X 0 (dkX12_perform (48, .aload_n 0, 1) (pgm 29 rfl)) rfl rfl ?_
        refine so_callV (n := 0) (As := []) X (ct_X12_keeps l this h10 hk) hk (by decide) rfl lk_2187 lk_2189 lk_113 lk_134 lk_2190 (by decide +kernel) rfl rfl rfl (rm_ok (by omega) (by decide)) ⟨Nat.zero_le _, Nat.zero_le _⟩ (Nat.le_of_ble_eq_true rfl) (dkX12_perform (49, .invokevirtual 423, 3) (pgm 30 rfl)) (fun r11 h12 => ?_) rfl
        refine so_aload_n (i := 0) X 0 (dkX12_perform (52, .aload_n 0, 1) (pgm 31 rfl)) rfl rfl ?_
        refine so_aload_n (i := 0) X 0 (dkX12_perform (53, .aload_n 0, 1) (pgm 32 rfl)) rfl rfl ?_
        refine sf_getR X ff_12_38 lk_1740 hk (dkX12_perform (54, .getfield 86, 3) (pgm 33 rfl)) ?_
        refine so_bipush (v := (30 : Int32)) X (dkX12_perform (57, .bipush 30, 2) (pgm 34 rfl)) bp_30 ?_
        refine so_iload_n (i := 1) X 1 (dkX12_perform (59, .iload_n 1, 1) (pgm 35 rfl)) rfl rfl ?_
        refine so_imul X (dkX12_perform (60, .imul, 1) (pgm 36 rfl)) ?_
        refine so_iload_n (i := 2) X 2 (dkX12_perform (61, .iload_n 2, 1) (pgm 37 rfl)) rfl rfl ?_
        refine so_iadd X (dkX12_perform (62, .iadd, 1) (pgm 38 rfl)) ?_
        refine so_lald X (rk_12_38 this hk) (dkX12_perform (63, .laload, 1) (pgm 39 rfl)) (fun x13 => ?_)
        refine so_l2i X (dkX12_perform (64, .l2i, 1) (pgm 40 rfl)) ?_
        refine so_callV (n := 1) (As := [.int x13.toInt32]) X (ct_X12_goesBy l this x13.toInt32 h12 hk) hk (by decide) rfl lk_2191 lk_2193 lk_114 lk_134 lk_2194 (by decide +kernel) rfl rfl rfl (rm_ok (by omega) (by decide)) ⟨Nat.zero_le _, Nat.zero_le _⟩ (Nat.le_of_ble_eq_true rfl) (dkX12_perform (65, .invokevirtual 426, 3) (pgm 41 rfl)) (fun r14 h15 => ?_) rfl
        refine so_pop X (dkX12_perform (68, .pop, 1) (pgm 42 rfl)) rfl ?_
        refine so_iinc (i := 2) X 2 (dkX12_perform (69, .iinc 2 1, 3) (pgm 43 rfl)) rfl rfl (by decide) (Lf := fun x16 => [(2, .int x16), (0, .ref this), (1, .int a1)]) (fun _ => rfl) (fun x16 => ?_)
        refine so_goto (tgt := 20) X (dkX12_perform (72, .goto (-52), 3) (pgm 44 rfl)) rfl ?_
        exact so_pick X [1, 2, 0] rfl (hrec20 x16 h15)
  · refine so_iconst (v := (0 : Int32)) X (dkX12_perform (16, .iconst 0, 1) (pgm 8 rfl)) ic_0 ?_
    exact so_iret X hr hlk (dkX12_perform (17, .ireturn, 1) (pgm 9 rfl))
def pgX12_holdFault : List (Nat × Instr × Nat) := [(0, .aload_n 0, 1), (1, .iload_n 1, 1), (2, .invokevirtual 385, 3), (5, .istore 4, 2), (7, .iload 4, 2), (9, .ifCond .eq 6, 3), (12, .iload 4, 2), (14, .ireturn, 1), (15, .iload_n 2, 1), (16, .i2l, 1), (17, .lconst 1, 1), (18, .ldc2_w 440, 3), (21, .invokestatic 156, 3), (24, .ifCond .eq 32, 3), (27, .iload_n 3, 1), (28, .i2l, 1), (29, .lconst 0, 1), (30, .ldc2_w 440, 3), (33, .invokestatic 156, 3), (36, .ifCond .eq 20, 3), (39, .aload_n 0, 1), (40, .getfield 83, 3), (43, .iload_n 1, 1), (44, .iaload, 1), (45, .i2l, 1), (46, .lconst 1, 1), (47, .ldc2_w 440, 3), (50, .invokestatic 156, 3), (53, .ifCond .ne 5, 3), (56, .iconst 3, 1), (57, .ireturn, 1), (58, .iconst 0, 1), (59, .istore 5, 2), (61, .iload 5, 2), (63, .aload_n 0, 1), (64, .getfield 83, 3), (67, .iload_n 1, 1), (68, .iaload, 1), (69, .if_icmp .ge 33, 3), (72, .aload_n 0, 1), (73, .getfield 86, 3), (76, .bipush 30, 2), (78, .iload_n 1, 1), (79, .imul, 1), (80, .iload 5, 2), (82, .iadd, 1), (83, .laload, 1), (84, .lconst 0, 1), (85, .ldc2_w 429, 3), (88, .invokestatic 156, 3), (91, .ifCond .ne 5, 3), (94, .iconst 3, 1), (95, .ireturn, 1), (96, .iinc 5 1, 3), (99, .goto (-38), 3), (102, .iconst 0, 1), (103, .ireturn, 1)]
theorem dkX12_holdFault : ∀ q ∈ pgX12_holdFault, decode cX12_holdFault q.1 = .ok q.2 := by decide +kernel
def b_X12_holdFault_61 (this : Nat) (a1 : Int32) (rec61 : (Int32) → PH → Option (Int32 × PH)) (s61 : Int32) (hh61 : PH) : Option (Int32 × PH) :=
  ldI hh61 (rt this 37) 4 a1 (fun (x13 : Int32) => if x13 ≤ s61 then (some ((0 : Int32), hh61)) else (ldL hh61 (rt this 38) 120 (((30 : Int32) * a1) + s61) (fun (x14 : Int64) => cb (f_X12_within x14 (0 : Int64) (99 : Int64) hh61) (fun (r15 : Int32) (h16 : PH) => if r15 = 0 then (some ((3 : Int32), h16)) else (lt (s61 + Int32.ofInt 1) (fun (x17 : Int32) => rec61 x17 h16))))))
def f_X12_holdFault (this : Nat) (a1 : Int32) (a2 : Int32) (a3 : Int32) (h0 : PH) : Option (Int32 × PH) :=
  cb (f_X12_trayFault this a1 h0) (fun (r1 : Int32) (h2 : PH) => lt r1 (fun (x3 : Int32) => if x3 = 0 then (cb (f_X12_within a2.toInt64 (1 : Int64) (6 : Int64) h2) (fun (r4 : Int32) (h5 : PH) => lt (fun (h6 : PH) => some ((3 : Int32), h6)) (fun (j56 : PH → Option (Int32 × PH)) => if r4 = 0 then (j56 h5) else (cb (f_X12_within a3.toInt64 (0 : Int64) (6 : Int64) h5) (fun (r7 : Int32) (h8 : PH) => if r7 = 0 then (j56 h8) else (ldI h8 (rt this 37) 4 a1 (fun (x9 : Int32) => cb (f_X12_within x9.toInt64 (1 : Int64) (6 : Int64) h8) (fun (r10 : Int32) (h11 : PH) => if r10 = 0 then (j56 h11) else (lt (0 : Int32) (fun (x12 : Int32) => lp (b_X12_holdFault_61 this a1) FU x12 h11)))))))))) else (some (x3, h2))))
set_option maxRecDepth 100000 in
set_option maxHeartbeats 4000000 in
theorem ct_X12_holdFault (l : Launch) (this : Nat) (a1 : Int32) (a2 : Int32) (a3 : Int32) (h0 : PH) (hk : (kd this).1 = 12) : CT mkI l yX12_holdFault cX12_holdFault 6 (some .int) (rmd 3) [.ref this, .int a1, .int a2, .int a3] h0 (f_X12_holdFault this a1 a2 a3 h0) := by
  refine ct_of (by decide) (Nat.le_of_ble_eq_true rfl) ?_
  intro p e s m args below meth c D cA ad A X hr hlk
  have X : Cx p s m args c RX12 cX12_holdFault 6 D cA ad A := X
  unfold f_X12_holdFault
  refine so_pick (L' := [(0, .ref this), (1, .int a1), (2, .int a2), (3, .int a3)]) X [0, 1, 2, 3] rfl ?_
  refine so_aload_n (i := 0) X 0 (dkX12_holdFault (0, .aload_n 0, 1) (pgm 0 rfl)) rfl rfl ?_
  refine so_iload_n (i := 1) X 1 (dkX12_holdFault (1, .iload_n 1, 1) (pgm 1 rfl)) rfl rfl ?_
  refine so_callV (n := 1) (As := [.int a1]) X (ct_X12_trayFault l this a1 h0 hk) hk (by decide) rfl lk_2130 lk_2132 lk_103 lk_134 lk_2133 (by decide +kernel) rfl rfl rfl (rm_ok (by omega) (by decide)) ⟨Nat.zero_le _, Nat.zero_le _⟩ (Nat.le_of_ble_eq_true rfl) (dkX12_holdFault (2, .invokevirtual 385, 3) (pgm 2 rfl)) (fun r1 h2 => ?_) rfl
  refine so_istore (i := 4) X (dkX12_holdFault (5, .istore 4, 2) (pgm 3 rfl)) (by decide) (Lf := fun x3 => [(4, .int x3), (0, .ref this), (1, .int a1), (2, .int a2), (3, .int a3)]) (fun _ => rfl) (fun x3 => ?_)
  refine so_iload (i := 4) X 0 (dkX12_holdFault (7, .iload 4, 2) (pgm 4 rfl)) rfl ?_
  refine so_if_eq (tgt := 15) X (dkX12_holdFault (9, .ifCond .eq 6, 3) (pgm 5 rfl)) rfl (fun _ => ?_) (fun _ => ?_)
  · refine so_iload_n (i := 2) X 3 (dkX12_holdFault (15, .iload_n 2, 1) (pgm 8 rfl)) rfl rfl ?_
    refine so_i2l X (dkX12_holdFault (16, .i2l, 1) (pgm 9 rfl)) ?_
    refine so_lconst (v := (1 : Int64)) X (dkX12_holdFault (17, .lconst 1, 1) (pgm 10 rfl)) lc_1 ?_
    refine so_ldc2 X lk_2242 (dkX12_holdFault (18, .ldc2_w 440, 3) (pgm 11 rfl)) ?_
    refine so_callS (n := 3) (As := [.long a2.toInt64, .long (1 : Int64), .long (6 : Int64)]) X (ct_X12_within l a2.toInt64 (1 : Int64) (6 : Int64) h2 ) lk_1832 lk_1833 lk_134 lk_1834 (by decide +kernel) rfl rfl rfl (rm_ok (by omega) (by decide)) ⟨Nat.zero_le _, Nat.zero_le _⟩ (Nat.le_of_ble_eq_true rfl) (dkX12_holdFault (21, .invokestatic 156, 3) (pgm 12 rfl)) (fun r4 h5 => ?_) rfl
    refine so_join (jf := fun (h6 : PH) => some ((3 : Int32), h6)) (fun (j : PH → Option (Int32 × PH)) => ∀  (h6 : PH), SWo (QM mkI below args s D cA ad A) p l e (rmd 3) s m args below meth c 0 0 6 D cA ad A 56 [] [] h6 (j h6)) ?_ (fun j56 hj56 => ?_)
    · intro h6
      refine so_iconst (v := (3 : Int32)) X (dkX12_holdFault (56, .iconst 3, 1) (pgm 29 rfl)) ic_3 ?_
      exact so_iret X hr hlk (dkX12_holdFault (57, .ireturn, 1) (pgm 30 rfl))
    refine so_if_eq (tgt := 56) X (dkX12_holdFault (24, .ifCond .eq 32, 3) (pgm 13 rfl)) rfl (fun _ => ?_) (fun _ => ?_)
    · exact so_pick X [] rfl (hj56 h5)
    · refine so_iload_n (i := 3) X 4 (dkX12_holdFault (27, .iload_n 3, 1) (pgm 14 rfl)) rfl rfl ?_
      refine so_i2l X (dkX12_holdFault (28, .i2l, 1) (pgm 15 rfl)) ?_
      refine so_lconst (v := (0 : Int64)) X (dkX12_holdFault (29, .lconst 0, 1) (pgm 16 rfl)) lc_0 ?_
      refine so_ldc2 X lk_2242 (dkX12_holdFault (30, .ldc2_w 440, 3) (pgm 17 rfl)) ?_
      refine so_callS (n := 3) (As := [.long a3.toInt64, .long (0 : Int64), .long (6 : Int64)]) X (ct_X12_within l a3.toInt64 (0 : Int64) (6 : Int64) h5 ) lk_1832 lk_1833 lk_134 lk_1834 (by decide +kernel) rfl rfl rfl (rm_ok (by omega) (by decide)) ⟨Nat.zero_le _, Nat.zero_le _⟩ (Nat.le_of_ble_eq_true rfl) (dkX12_holdFault (33, .invokestatic 156, 3) (pgm 18 rfl)) (fun r7 h8 => ?_) rfl
      refine so_if_eq (tgt := 56) X (dkX12_holdFault (36, .ifCond .eq 20, 3) (pgm 19 rfl)) rfl (fun _ => ?_) (fun _ => ?_)
      · exact so_pick X [] rfl (hj56 h8)
      · refine so_aload_n (i := 0) X 1 (dkX12_holdFault (39, .aload_n 0, 1) (pgm 20 rfl)) rfl rfl ?_
        refine sf_getR X ff_12_37 lk_1739 hk (dkX12_holdFault (40, .getfield 83, 3) (pgm 21 rfl)) ?_
        refine so_iload_n (i := 1) X 2 (dkX12_holdFault (43, .iload_n 1, 1) (pgm 22 rfl)) rfl rfl ?_
        refine so_iald X (rk_12_37 this hk) (dkX12_holdFault (44, .iaload, 1) (pgm 23 rfl)) (fun x9 => ?_)
        refine so_i2l X (dkX12_holdFault (45, .i2l, 1) (pgm 24 rfl)) ?_
        refine so_lconst (v := (1 : Int64)) X (dkX12_holdFault (46, .lconst 1, 1) (pgm 25 rfl)) lc_1 ?_
        refine so_ldc2 X lk_2242 (dkX12_holdFault (47, .ldc2_w 440, 3) (pgm 26 rfl)) ?_
        refine so_callS (n := 3) (As := [.long x9.toInt64, .long (1 : Int64), .long (6 : Int64)]) X (ct_X12_within l x9.toInt64 (1 : Int64) (6 : Int64) h8 ) lk_1832 lk_1833 lk_134 lk_1834 (by decide +kernel) rfl rfl rfl (rm_ok (by omega) (by decide)) ⟨Nat.zero_le _, Nat.zero_le _⟩ (Nat.le_of_ble_eq_true rfl) (dkX12_holdFault (50, .invokestatic 156, 3) (pgm 27 rfl)) (fun r10 h11 => ?_) rfl
        refine so_if_ne (tgt := 58) X (dkX12_holdFault (53, .ifCond .ne 5, 3) (pgm 28 rfl)) rfl (fun _ => ?_) (fun _ => ?_)
        · refine so_iconst (v := (0 : Int32)) X (dkX12_holdFault (58, .iconst 0, 1) (pgm 31 rfl)) ic_0 ?_
          refine so_istore (i := 5) X (dkX12_holdFault (59, .istore 5, 2) (pgm 32 rfl)) (by decide) (Lf := fun x12 => [(5, .int x12), (4, .int x3), (0, .ref this), (1, .int a1), (2, .int a2), (3, .int a3)]) (fun _ => rfl) (fun x12 => ?_)
          refine so_pick (L' := [(0, .ref this), (1, .int a1), (5, .int x12)]) X [2, 3, 0] rfl ?_
          refine so_loop (body := b_X12_holdFault_61 this a1) (fun (s61 : Int32) => [(0, .ref this), (1, .int a1), (5, .int s61)]) (fun rec61 hrec61 s61 hh61 => ?_) FU x12 h11
          unfold b_X12_holdFault_61
          refine so_iload (i := 5) X 2 (dkX12_holdFault (61, .iload 5, 2) (pgm 33 rfl)) rfl ?_
          refine so_aload_n (i := 0) X 0 (dkX12_holdFault (63, .aload_n 0, 1) (pgm 34 rfl)) rfl rfl ?_
          refine sf_getR X ff_12_37 lk_1739 hk (dkX12_holdFault (64, .getfield 83, 3) (pgm 35 rfl)) ?_
          refine so_iload_n (i := 1) X 1 (dkX12_holdFault (67, .iload_n 1, 1) (pgm 36 rfl)) rfl rfl ?_
          refine so_iald X (rk_12_37 this hk) (dkX12_holdFault (68, .iaload, 1) (pgm 37 rfl)) (fun x13 => ?_)
          refine so_icmp_ge (tgt := 102) X (dkX12_holdFault (69, .if_icmp .ge 33, 3) (pgm 38 rfl)) rfl (fun _ => ?_) (fun _ => ?_)
          · refine so_iconst (v := (0 : Int32)) X (dkX12_holdFault (102, .iconst 0, 1) (pgm 55 rfl)) ic_0 ?_
            exact so_iret X hr hlk (dkX12_holdFault (103, .ireturn, 1) (pgm 56 rfl))
          · refine so_aload_n (i := 0) X 0 (dkX12_holdFault (72, .aload_n 0, 1) (pgm 39 rfl)) rfl rfl ?_
            refine sf_getR X ff_12_38 lk_1740 hk (dkX12_holdFault (73, .getfield 86, 3) (pgm 40 rfl)) ?_
            refine so_bipush (v := (30 : Int32)) X (dkX12_holdFault (76, .bipush 30, 2) (pgm 41 rfl)) bp_30 ?_
            refine so_iload_n (i := 1) X 1 (dkX12_holdFault (78, .iload_n 1, 1) (pgm 42 rfl)) rfl rfl ?_
            refine so_imul X (dkX12_holdFault (79, .imul, 1) (pgm 43 rfl)) ?_
            refine so_iload (i := 5) X 2 (dkX12_holdFault (80, .iload 5, 2) (pgm 44 rfl)) rfl ?_
            refine so_iadd X (dkX12_holdFault (82, .iadd, 1) (pgm 45 rfl)) ?_
            refine so_lald X (rk_12_38 this hk) (dkX12_holdFault (83, .laload, 1) (pgm 46 rfl)) (fun x14 => ?_)
            refine so_lconst (v := (0 : Int64)) X (dkX12_holdFault (84, .lconst 0, 1) (pgm 47 rfl)) lc_0 ?_
            refine so_ldc2 X lk_2199 (dkX12_holdFault (85, .ldc2_w 429, 3) (pgm 48 rfl)) ?_
            refine so_callS (n := 3) (As := [.long x14, .long (0 : Int64), .long (99 : Int64)]) X (ct_X12_within l x14 (0 : Int64) (99 : Int64) hh61 ) lk_1832 lk_1833 lk_134 lk_1834 (by decide +kernel) rfl rfl rfl (rm_ok (by omega) (by decide)) ⟨Nat.zero_le _, Nat.zero_le _⟩ (Nat.le_of_ble_eq_true rfl) (dkX12_holdFault (88, .invokestatic 156, 3) (pgm 49 rfl)) (fun r15 h16 => ?_) rfl
            refine so_if_ne (tgt := 96) X (dkX12_holdFault (91, .ifCond .ne 5, 3) (pgm 50 rfl)) rfl (fun _ => ?_) (fun _ => ?_)
            · refine so_iinc (i := 5) X 2 (dkX12_holdFault (96, .iinc 5 1, 3) (pgm 53 rfl)) rfl rfl (by decide) (Lf := fun x17 => [(5, .int x17), (0, .ref this), (1, .int a1)]) (fun _ => rfl) (fun x17 => ?_)
              refine so_goto (tgt := 61) X (dkX12_holdFault (99, .goto (-38), 3) (pgm 54 rfl)) rfl ?_
              exact so_pick X [1, 2, 0] rfl (hrec61 x17 h16)
            · refine so_iconst (v := (3 : Int32)) X (dkX12_holdFault (94, .iconst 3, 1) (pgm 51 rfl)) ic_3 ?_
              exact so_iret X hr hlk (dkX12_holdFault (95, .ireturn, 1) (pgm 52 rfl))
        · exact so_pick X [] rfl (hj56 h11)
  · refine so_iload (i := 4) X 0 (dkX12_holdFault (12, .iload 4, 2) (pgm 6 rfl)) rfl ?_
    exact so_iret X hr hlk (dkX12_holdFault (14, .ireturn, 1) (pgm 7 rfl))
def pgX12_holding : List (Nat × Instr × Nat) := [(0, .aload_n 0, 1), (1, .aload_n 0, 1), (2, .iload_n 1, 1), (3, .iload_n 2, 1), (4, .iload_n 3, 1), (5, .invokevirtual 446, 3), (8, .putfield 92, 3), (11, .aload_n 0, 1), (12, .getfield 92, 3), (15, .ifCond .le 5, 3), (18, .lconst 0, 1), (19, .lreturn, 1), (20, .aload_n 0, 1), (21, .iload_n 1, 1), (22, .invokevirtual 449, 3), (25, .aload_n 0, 1), (26, .getfield 77, 3), (29, .bipush 7, 2), (31, .iload_n 2, 1), (32, .imul, 1), (33, .iload_n 3, 1), (34, .iadd, 1), (35, .laload, 1), (36, .lreturn, 1)]
theorem dkX12_holding : ∀ q ∈ pgX12_holding, decode cX12_holding q.1 = .ok q.2 := by decide +kernel
def f_X12_holding (this : Nat) (a1 : Int32) (a2 : Int32) (a3 : Int32) (h0 : PH) : Option (Int64 × PH) :=
  cb (f_X12_holdFault this a1 a2 a3 h0) (fun (r1 : Int32) (h2 : PH) => lt (pI h2 this 5 r1) (fun (h3 : PH) => if (h3.1 this 5) ≤ 0 then (cb (f_X12_laysWorth this a1 h3) (fun (r4 : Unit) (h5 : PH) => ldL h5 (rt this 35) 49 (((7 : Int32) * a2) + a3) (fun (x6 : Int64) => some (x6, h5)))) else (some ((0 : Int64), h3))))
set_option maxRecDepth 100000 in
set_option maxHeartbeats 4000000 in
theorem ct_X12_holding (l : Launch) (this : Nat) (a1 : Int32) (a2 : Int32) (a3 : Int32) (h0 : PH) (hk : (kd this).1 = 12) : CT mkL l yX12_holding cX12_holding 4 (some .long) (rmd 4) [.ref this, .int a1, .int a2, .int a3] h0 (f_X12_holding this a1 a2 a3 h0) := by
  refine ct_of (by decide) (Nat.le_of_ble_eq_true rfl) ?_
  intro p e s m args below meth c D cA ad A X hr hlk
  have X : Cx p s m args c RX12 cX12_holding 4 D cA ad A := X
  unfold f_X12_holding
  refine so_pick (L' := [(0, .ref this), (1, .int a1), (2, .int a2), (3, .int a3)]) X [0, 1, 2, 3] rfl ?_
  refine so_aload_n (i := 0) X 0 (dkX12_holding (0, .aload_n 0, 1) (pgm 0 rfl)) rfl rfl ?_
  refine so_aload_n (i := 0) X 0 (dkX12_holding (1, .aload_n 0, 1) (pgm 1 rfl)) rfl rfl ?_
  refine so_iload_n (i := 1) X 1 (dkX12_holding (2, .iload_n 1, 1) (pgm 2 rfl)) rfl rfl ?_
  refine so_iload_n (i := 2) X 2 (dkX12_holding (3, .iload_n 2, 1) (pgm 3 rfl)) rfl rfl ?_
  refine so_iload_n (i := 3) X 3 (dkX12_holding (4, .iload_n 3, 1) (pgm 4 rfl)) rfl rfl ?_
  refine so_callV (n := 3) (As := [.int a1, .int a2, .int a3]) X (ct_X12_holdFault l this a1 a2 a3 h0 hk) hk (by decide) rfl lk_2238 lk_2240 lk_116 lk_134 lk_2241 (by decide +kernel) rfl rfl rfl (rm_ok (by omega) (by decide)) ⟨Nat.zero_le _, Nat.zero_le _⟩ (Nat.le_of_ble_eq_true rfl) (dkX12_holding (5, .invokevirtual 446, 3) (pgm 5 rfl)) (fun r1 h2 => ?_) rfl
  refine sf_putI X ff_12_5 ft_12 rfl lk_1707 hk rfl rfl (dkX12_holding (8, .putfield 92, 3) (pgm 6 rfl)) (fun h3 => ?_)
  refine so_aload_n (i := 0) X 0 (dkX12_holding (11, .aload_n 0, 1) (pgm 7 rfl)) rfl rfl ?_
  refine sf_getI X ff_12_5 lk_1707 hk (dkX12_holding (12, .getfield 92, 3) (pgm 8 rfl)) ?_
  refine so_if_le (tgt := 20) X (dkX12_holding (15, .ifCond .le 5, 3) (pgm 9 rfl)) rfl (fun _ => ?_) (fun _ => ?_)
  · refine so_aload_n (i := 0) X 0 (dkX12_holding (20, .aload_n 0, 1) (pgm 12 rfl)) rfl rfl ?_
    refine so_iload_n (i := 1) X 1 (dkX12_holding (21, .iload_n 1, 1) (pgm 13 rfl)) rfl rfl ?_
    refine so_callV (n := 1) (As := [.int a1]) X (ct_X12_laysWorth l this a1 h3 hk) hk (by decide) rfl lk_2243 lk_2245 lk_117 lk_134 lk_2246 (by decide +kernel) rfl rfl rfl (rm_ok (by omega) (by decide)) ⟨Nat.zero_le _, Nat.zero_le _⟩ (Nat.le_of_ble_eq_true rfl) (dkX12_holding (22, .invokevirtual 449, 3) (pgm 14 rfl)) (fun r4 h5 => ?_) rfl
    refine so_aload_n (i := 0) X 0 (dkX12_holding (25, .aload_n 0, 1) (pgm 15 rfl)) rfl rfl ?_
    refine sf_getR X ff_12_35 lk_1737 hk (dkX12_holding (26, .getfield 77, 3) (pgm 16 rfl)) ?_
    refine so_bipush (v := (7 : Int32)) X (dkX12_holding (29, .bipush 7, 2) (pgm 17 rfl)) bp_7 ?_
    refine so_iload_n (i := 2) X 2 (dkX12_holding (31, .iload_n 2, 1) (pgm 18 rfl)) rfl rfl ?_
    refine so_imul X (dkX12_holding (32, .imul, 1) (pgm 19 rfl)) ?_
    refine so_iload_n (i := 3) X 3 (dkX12_holding (33, .iload_n 3, 1) (pgm 20 rfl)) rfl rfl ?_
    refine so_iadd X (dkX12_holding (34, .iadd, 1) (pgm 21 rfl)) ?_
    refine so_lald X (rk_12_35 this hk) (dkX12_holding (35, .laload, 1) (pgm 22 rfl)) (fun x6 => ?_)
    exact so_lret X hr hlk (dkX12_holding (36, .lreturn, 1) (pgm 23 rfl))
  · refine so_lconst (v := (0 : Int64)) X (dkX12_holding (18, .lconst 0, 1) (pgm 10 rfl)) lc_0 ?_
    exact so_lret X hr hlk (dkX12_holding (19, .lreturn, 1) (pgm 11 rfl))
def pgX12_grants : List (Nat × Instr × Nat) := [(0, .aload_n 0, 1), (1, .aload_n 0, 1), (2, .iload_n 1, 1), (3, .iload_n 2, 1), (4, .iload_n 3, 1), (5, .invokevirtual 446, 3), (8, .putfield 92, 3), (11, .aload_n 0, 1), (12, .getfield 92, 3), (15, .ifCond .le 5, 3), (18, .iconst 0, 1), (19, .ireturn, 1), (20, .aload_n 0, 1), (21, .iload_n 1, 1), (22, .invokevirtual 449, 3), (25, .ldc2_w 452, 3), (28, .lstore 4, 2), (30, .iconst 0, 1), (31, .istore 6, 2), (33, .iload 6, 2), (35, .aload_n 0, 1), (36, .getfield 83, 3), (39, .iload_n 1, 1), (40, .iaload, 1), (41, .if_icmp .ge 79, 3), (44, .iload_n 3, 1), (45, .ifCond .le 75, 3), (48, .aload_n 0, 1), (49, .getfield 86, 3), (52, .bipush 30, 2), (54, .iload_n 1, 1), (55, .imul, 1), (56, .iload 6, 2), (58, .iadd, 1), (59, .laload, 1), (60, .lstore 7, 2), (62, .aload_n 0, 1), (63, .iload_n 1, 1), (64, .lload 7, 2), (66, .iload_n 2, 1), (67, .iconst 1, 1), (68, .isub, 1), (69, .iload_n 3, 1), (70, .invokevirtual 442, 3), (73, .aload_n 0, 1), (74, .getfield 77, 3), (77, .bipush 7, 2), (79, .iload_n 2, 1), (80, .iconst 1, 1), (81, .isub, 1), (82, .imul, 1), (83, .iload_n 3, 1), (84, .iadd, 1), (85, .laload, 1), (86, .lcmp, 1), (87, .ifCond .ge 6, 3), (90, .goto 24, 3), (93, .lload 4, 2), (95, .ldc2_w 452, 3), (98, .lcmp, 1), (99, .ifCond .eq 11, 3), (102, .lload 7, 2), (104, .lload 4, 2), (106, .lcmp, 1), (107, .ifCond .ge 7, 3), (110, .lload 7, 2), (112, .lstore 4, 2), (114, .iinc 6 1, 3), (117, .goto (-84), 3), (120, .lload 4, 2), (122, .l2i, 1), (123, .ireturn, 1)]
theorem dkX12_grants : ∀ q ∈ pgX12_grants, decode cX12_grants q.1 = .ok q.2 := by decide +kernel
def b_X12_grants_33 (this : Nat) (a1 : Int32) (a2 : Int32) (a3 : Int32) (j120 : Int64 → PH → Option (Int32 × PH)) (rec33 : (Int64 × Int32) → PH → Option (Int32 × PH)) (s33 : Int64 × Int32) (hh33 : PH) : Option (Int32 × PH) :=
  ldI hh33 (rt this 37) 4 a1 (fun (x10 : Int32) => if x10 ≤ s33.2 then (j120 s33.1 hh33) else (if a3 ≤ 0 then (j120 s33.1 hh33) else (ldL hh33 (rt this 38) 120 (((30 : Int32) * a1) + s33.2) (fun (x11 : Int64) => lt x11 (fun (x12 : Int64) => cb (f_X12_grantsNow this a1 x12 (a2 - (1 : Int32)) a3 hh33) (fun (r13 : Int64) (h14 : PH) => ldL h14 (rt this 35) 49 (((7 : Int32) * (a2 - (1 : Int32))) + a3) (fun (x15 : Int64) => lt (fun (y16 : Int64) (h17 : PH) => lt (s33.2 + Int32.ofInt 1) (fun (x18 : Int32) => rec33 (y16, x18) h17)) (fun (j114 : Int64 → PH → Option (Int32 × PH)) => if 0 ≤ (lg_cmp r13 x15) then (lt (fun (h19 : PH) => lt x12 (fun (x20 : Int64) => j114 x20 h19)) (fun (j110 : PH → Option (Int32 × PH)) => if (lg_cmp s33.1 (-1 : Int64)) = 0 then (j110 h14) else (if 0 ≤ (lg_cmp x12 s33.1) then (j114 s33.1 h14) else (j110 h14)))) else (j114 s33.1 h14)))))))))
def f_X12_grants (this : Nat) (a1 : Int32) (a2 : Int32) (a3 : Int32) (h0 : PH) : Option (Int32 × PH) :=
  cb (f_X12_holdFault this a1 a2 a3 h0) (fun (r1 : Int32) (h2 : PH) => lt (pI h2 this 5 r1) (fun (h3 : PH) => if (h3.1 this 5) ≤ 0 then (cb (f_X12_laysWorth this a1 h3) (fun (r4 : Unit) (h5 : PH) => lt (-1 : Int64) (fun (x6 : Int64) => lt (0 : Int32) (fun (x7 : Int32) => lt (fun (y8 : Int64) (h9 : PH) => some (y8.toInt32, h9)) (fun (j120 : Int64 → PH → Option (Int32 × PH)) => lp (b_X12_grants_33 this a1 a2 a3 j120) FU (x6, x7) h5))))) else (some ((0 : Int32), h3))))
set_option maxRecDepth 100000 in
set_option maxHeartbeats 4000000 in
theorem ct_X12_grants (l : Launch) (this : Nat) (a1 : Int32) (a2 : Int32) (a3 : Int32) (h0 : PH) (hk : (kd this).1 = 12) : CT mkI l yX12_grants cX12_grants 9 (some .int) (rmd 4) [.ref this, .int a1, .int a2, .int a3] h0 (f_X12_grants this a1 a2 a3 h0) := by
  refine ct_of (by decide) (Nat.le_of_ble_eq_true rfl) ?_
  intro p e s m args below meth c D cA ad A X hr hlk
  have X : Cx p s m args c RX12 cX12_grants 9 D cA ad A := X
  unfold f_X12_grants
  refine so_pick (L' := [(0, .ref this), (1, .int a1), (2, .int a2), (3, .int a3)]) X [0, 1, 2, 3] rfl ?_
  refine so_aload_n (i := 0) X 0 (dkX12_grants (0, .aload_n 0, 1) (pgm 0 rfl)) rfl rfl ?_
  refine so_aload_n (i := 0) X 0 (dkX12_grants (1, .aload_n 0, 1) (pgm 1 rfl)) rfl rfl ?_
  refine so_iload_n (i := 1) X 1 (dkX12_grants (2, .iload_n 1, 1) (pgm 2 rfl)) rfl rfl ?_
  refine so_iload_n (i := 2) X 2 (dkX12_grants (3, .iload_n 2, 1) (pgm 3 rfl)) rfl rfl ?_
  refine so_iload_n (i := 3) X 3 (dkX12_grants (4, .iload_n 3, 1) (pgm 4 rfl)) rfl rfl ?_
  refine so_callV (n := 3) (As := [.int a1, .int a2, .int a3]) X (ct_X12_holdFault l this a1 a2 a3 h0 hk) hk (by decide) rfl lk_2238 lk_2240 lk_116 lk_134 lk_2241 (by decide +kernel) rfl rfl rfl (rm_ok (by omega) (by decide)) ⟨Nat.zero_le _, Nat.zero_le _⟩ (Nat.le_of_ble_eq_true rfl) (dkX12_grants (5, .invokevirtual 446, 3) (pgm 5 rfl)) (fun r1 h2 => ?_) rfl
  refine sf_putI X ff_12_5 ft_12 rfl lk_1707 hk rfl rfl (dkX12_grants (8, .putfield 92, 3) (pgm 6 rfl)) (fun h3 => ?_)
  refine so_aload_n (i := 0) X 0 (dkX12_grants (11, .aload_n 0, 1) (pgm 7 rfl)) rfl rfl ?_
  refine sf_getI X ff_12_5 lk_1707 hk (dkX12_grants (12, .getfield 92, 3) (pgm 8 rfl)) ?_
  refine so_if_le (tgt := 20) X (dkX12_grants (15, .ifCond .le 5, 3) (pgm 9 rfl)) rfl (fun _ => ?_) (fun _ => ?_)
  · refine so_aload_n (i := 0) X 0 (dkX12_grants (20, .aload_n 0, 1) (pgm 12 rfl)) rfl rfl ?_
    refine so_iload_n (i := 1) X 1 (dkX12_grants (21, .iload_n 1, 1) (pgm 13 rfl)) rfl rfl ?_
    refine so_callV (n := 1) (As := [.int a1]) X (ct_X12_laysWorth l this a1 h3 hk) hk (by decide) rfl lk_2243 lk_2245 lk_117 lk_134 lk_2246 (by decide +kernel) rfl rfl rfl (rm_ok (by omega) (by decide)) ⟨Nat.zero_le _, Nat.zero_le _⟩ (Nat.le_of_ble_eq_true rfl) (dkX12_grants (22, .invokevirtual 449, 3) (pgm 14 rfl)) (fun r4 h5 => ?_) rfl
    refine so_ldc2 X lk_2255 (dkX12_grants (25, .ldc2_w 452, 3) (pgm 15 rfl)) ?_
    refine so_lstore (i := 4) X (dkX12_grants (28, .lstore 4, 2) (pgm 16 rfl)) (by decide) (Lf := fun x6 => [(4, .long x6), (0, .ref this), (1, .int a1), (2, .int a2), (3, .int a3)]) (fun _ => rfl) (fun x6 => ?_)
    refine so_iconst (v := (0 : Int32)) X (dkX12_grants (30, .iconst 0, 1) (pgm 17 rfl)) ic_0 ?_
    refine so_istore (i := 6) X (dkX12_grants (31, .istore 6, 2) (pgm 18 rfl)) (by decide) (Lf := fun x7 => [(6, .int x7), (4, .long x6), (0, .ref this), (1, .int a1), (2, .int a2), (3, .int a3)]) (fun _ => rfl) (fun x7 => ?_)
    refine so_join (jf := fun (y8 : Int64) (h9 : PH) => some (y8.toInt32, h9)) (fun (j : Int64 → PH → Option (Int32 × PH)) => ∀ (y8 : Int64) (h9 : PH), SWo (QM mkI below args s D cA ad A) p l e (rmd 4) s m args below meth c 0 0 9 D cA ad A 120 [(4, .long y8)] [] h9 (j y8 h9)) ?_ (fun j120 hj120 => ?_)
    · intro y8 h9
      refine so_lload (i := 4) X 0 (dkX12_grants (120, .lload 4, 2) (pgm 69 rfl)) rfl ?_
      refine so_l2i X (dkX12_grants (122, .l2i, 1) (pgm 70 rfl)) ?_
      exact so_iret X hr hlk (dkX12_grants (123, .ireturn, 1) (pgm 71 rfl))
    refine so_pick (L' := [(0, .ref this), (1, .int a1), (2, .int a2), (3, .int a3), (4, .long x6), (6, .int x7)]) X [2, 3, 4, 5, 1, 0] rfl ?_
    refine so_loop (body := b_X12_grants_33 this a1 a2 a3 j120) (fun (s33 : Int64 × Int32) => [(0, .ref this), (1, .int a1), (2, .int a2), (3, .int a3), (4, .long s33.1), (6, .int s33.2)]) (fun rec33 hrec33 s33 hh33 => ?_) FU (x6, x7) h5
    unfold b_X12_grants_33
    refine so_iload (i := 6) X 5 (dkX12_grants (33, .iload 6, 2) (pgm 19 rfl)) rfl ?_
    refine so_aload_n (i := 0) X 0 (dkX12_grants (35, .aload_n 0, 1) (pgm 20 rfl)) rfl rfl ?_
    refine sf_getR X ff_12_37 lk_1739 hk (dkX12_grants (36, .getfield 83, 3) (pgm 21 rfl)) ?_
    refine so_iload_n (i := 1) X 1 (dkX12_grants (39, .iload_n 1, 1) (pgm 22 rfl)) rfl rfl ?_
    refine so_iald X (rk_12_37 this hk) (dkX12_grants (40, .iaload, 1) (pgm 23 rfl)) (fun x10 => ?_)
    refine so_icmp_ge (tgt := 120) X (dkX12_grants (41, .if_icmp .ge 79, 3) (pgm 24 rfl)) rfl (fun _ => ?_) (fun _ => ?_)
    · exact so_pick X [4] rfl (hj120 s33.1 hh33)
    · refine so_iload_n (i := 3) X 3 (dkX12_grants (44, .iload_n 3, 1) (pgm 25 rfl)) rfl rfl ?_
      refine so_if_le (tgt := 120) X (dkX12_grants (45, .ifCond .le 75, 3) (pgm 26 rfl)) rfl (fun _ => ?_) (fun _ => ?_)
      · exact so_pick X [4] rfl (hj120 s33.1 hh33)
      · refine so_aload_n (i := 0) X 0 (dkX12_grants (48, .aload_n 0, 1) (pgm 27 rfl)) rfl rfl ?_
        refine sf_getR X ff_12_38 lk_1740 hk (dkX12_grants (49, .getfield 86, 3) (pgm 28 rfl)) ?_
        refine so_bipush (v := (30 : Int32)) X (dkX12_grants (52, .bipush 30, 2) (pgm 29 rfl)) bp_30 ?_
        refine so_iload_n (i := 1) X 1 (dkX12_grants (54, .iload_n 1, 1) (pgm 30 rfl)) rfl rfl ?_
        refine so_imul X (dkX12_grants (55, .imul, 1) (pgm 31 rfl)) ?_
        refine so_iload (i := 6) X 5 (dkX12_grants (56, .iload 6, 2) (pgm 32 rfl)) rfl ?_
        refine so_iadd X (dkX12_grants (58, .iadd, 1) (pgm 33 rfl)) ?_
        refine so_lald X (rk_12_38 this hk) (dkX12_grants (59, .laload, 1) (pgm 34 rfl)) (fun x11 => ?_)
        refine so_lstore (i := 7) X (dkX12_grants (60, .lstore 7, 2) (pgm 35 rfl)) (by decide) (Lf := fun x12 => [(7, .long x12), (0, .ref this), (1, .int a1), (2, .int a2), (3, .int a3), (4, .long s33.1), (6, .int s33.2)]) (fun _ => rfl) (fun x12 => ?_)
        refine so_aload_n (i := 0) X 1 (dkX12_grants (62, .aload_n 0, 1) (pgm 36 rfl)) rfl rfl ?_
        refine so_iload_n (i := 1) X 2 (dkX12_grants (63, .iload_n 1, 1) (pgm 37 rfl)) rfl rfl ?_
        refine so_lload (i := 7) X 0 (dkX12_grants (64, .lload 7, 2) (pgm 38 rfl)) rfl ?_
        refine so_iload_n (i := 2) X 3 (dkX12_grants (66, .iload_n 2, 1) (pgm 39 rfl)) rfl rfl ?_
        refine so_iconst (v := (1 : Int32)) X (dkX12_grants (67, .iconst 1, 1) (pgm 40 rfl)) ic_1 ?_
        refine so_isub X (dkX12_grants (68, .isub, 1) (pgm 41 rfl)) ?_
        refine so_iload_n (i := 3) X 4 (dkX12_grants (69, .iload_n 3, 1) (pgm 42 rfl)) rfl rfl ?_
        refine so_callV (n := 4) (As := [.int a1, .long x12, .int (a2 - (1 : Int32)), .int a3]) X (ct_X12_grantsNow l this a1 x12 (a2 - (1 : Int32)) a3 hh33 hk) hk (by decide) rfl lk_2247 lk_2249 lk_118 lk_134 lk_2250 (by decide +kernel) rfl rfl rfl (rm_ok (by omega) (by decide)) ⟨Nat.zero_le _, Nat.zero_le _⟩ (Nat.le_of_ble_eq_true rfl) (dkX12_grants (70, .invokevirtual 442, 3) (pgm 43 rfl)) (fun r13 h14 => ?_) rfl
        refine so_aload_n (i := 0) X 1 (dkX12_grants (73, .aload_n 0, 1) (pgm 44 rfl)) rfl rfl ?_
        refine sf_getR X ff_12_35 lk_1737 hk (dkX12_grants (74, .getfield 77, 3) (pgm 45 rfl)) ?_
        refine so_bipush (v := (7 : Int32)) X (dkX12_grants (77, .bipush 7, 2) (pgm 46 rfl)) bp_7 ?_
        refine so_iload_n (i := 2) X 3 (dkX12_grants (79, .iload_n 2, 1) (pgm 47 rfl)) rfl rfl ?_
        refine so_iconst (v := (1 : Int32)) X (dkX12_grants (80, .iconst 1, 1) (pgm 48 rfl)) ic_1 ?_
        refine so_isub X (dkX12_grants (81, .isub, 1) (pgm 49 rfl)) ?_
        refine so_imul X (dkX12_grants (82, .imul, 1) (pgm 50 rfl)) ?_
        refine so_iload_n (i := 3) X 4 (dkX12_grants (83, .iload_n 3, 1) (pgm 51 rfl)) rfl rfl ?_
        refine so_iadd X (dkX12_grants (84, .iadd, 1) (pgm 52 rfl)) ?_
        refine so_lald X (rk_12_35 this hk) (dkX12_grants (85, .laload, 1) (pgm 53 rfl)) (fun x15 => ?_)
        refine so_lcmp X (dkX12_grants (86, .lcmp, 1) (pgm 54 rfl)) ?_
        refine so_join (jf := fun (y16 : Int64) (h17 : PH) => lt (s33.2 + Int32.ofInt 1) (fun (x18 : Int32) => rec33 (y16, x18) h17)) (fun (j : Int64 → PH → Option (Int32 × PH)) => ∀ (y16 : Int64) (h17 : PH), SWo (QM mkI below args s D cA ad A) p l e (rmd 4) s m args below meth c 0 0 9 D cA ad A 114 [(0, .ref this), (1, .int a1), (2, .int a2), (3, .int a3), (4, .long y16), (6, .int s33.2)] [] h17 (j y16 h17)) ?_ (fun j114 hj114 => ?_)
        · intro y16 h17
          refine so_iinc (i := 6) X 5 (dkX12_grants (114, .iinc 6 1, 3) (pgm 67 rfl)) rfl rfl (by decide) (Lf := fun x18 => [(6, .int x18), (0, .ref this), (1, .int a1), (2, .int a2), (3, .int a3), (4, .long y16)]) (fun _ => rfl) (fun x18 => ?_)
          refine so_goto (tgt := 33) X (dkX12_grants (117, .goto (-84), 3) (pgm 68 rfl)) rfl ?_
          exact so_pick X [1, 2, 3, 4, 5, 0] rfl (hrec33 (y16, x18) h17)
        refine so_if_ge (tgt := 93) X (dkX12_grants (87, .ifCond .ge 6, 3) (pgm 55 rfl)) rfl (fun _ => ?_) (fun _ => ?_)
        · refine so_lload (i := 4) X 5 (dkX12_grants (93, .lload 4, 2) (pgm 57 rfl)) rfl ?_
          refine so_ldc2 X lk_2255 (dkX12_grants (95, .ldc2_w 452, 3) (pgm 58 rfl)) ?_
          refine so_lcmp X (dkX12_grants (98, .lcmp, 1) (pgm 59 rfl)) ?_
          refine so_join (jf := fun (h19 : PH) => lt x12 (fun (x20 : Int64) => j114 x20 h19)) (fun (j : PH → Option (Int32 × PH)) => ∀  (h19 : PH), SWo (QM mkI below args s D cA ad A) p l e (rmd 4) s m args below meth c 0 0 9 D cA ad A 110 [(0, .ref this), (1, .int a1), (2, .int a2), (3, .int a3), (6, .int s33.2), (7, .long x12)] [] h19 (j h19)) ?_ (fun j110 hj110 => ?_)
          · intro h19
            refine so_lload (i := 7) X 5 (dkX12_grants (110, .lload 7, 2) (pgm 65 rfl)) rfl ?_
            refine so_lstore (i := 4) X (dkX12_grants (112, .lstore 4, 2) (pgm 66 rfl)) (by decide) (Lf := fun x20 => [(4, .long x20), (0, .ref this), (1, .int a1), (2, .int a2), (3, .int a3), (6, .int s33.2), (7, .long x12)]) (fun _ => rfl) (fun x20 => ?_)
            exact so_pick X [1, 2, 3, 4, 0, 5] rfl (hj114 x20 h19)
          refine so_if_eq (tgt := 110) X (dkX12_grants (99, .ifCond .eq 11, 3) (pgm 60 rfl)) rfl (fun _ => ?_) (fun _ => ?_)
          · exact so_pick X [1, 2, 3, 4, 6, 0] rfl (hj110 h14)
          · refine so_lload (i := 7) X 0 (dkX12_grants (102, .lload 7, 2) (pgm 61 rfl)) rfl ?_
            refine so_lload (i := 4) X 5 (dkX12_grants (104, .lload 4, 2) (pgm 62 rfl)) rfl ?_
            refine so_lcmp X (dkX12_grants (106, .lcmp, 1) (pgm 63 rfl)) ?_
            refine so_if_ge (tgt := 114) X (dkX12_grants (107, .ifCond .ge 7, 3) (pgm 64 rfl)) rfl (fun _ => ?_) (fun _ => ?_)
            · exact so_pick X [1, 2, 3, 4, 5, 6] rfl (hj114 s33.1 h14)
            · exact so_pick X [1, 2, 3, 4, 6, 0] rfl (hj110 h14)
        · refine so_goto (tgt := 114) X (dkX12_grants (90, .goto 24, 3) (pgm 56 rfl)) rfl ?_
          exact so_pick X [1, 2, 3, 4, 5, 6] rfl (hj114 s33.1 h14)
  · refine so_iconst (v := (0 : Int32)) X (dkX12_grants (18, .iconst 0, 1) (pgm 10 rfl)) ic_0 ?_
    exact so_iret X hr hlk (dkX12_grants (19, .ireturn, 1) (pgm 11 rfl))
def pgX12_write : List (Nat × Instr × Nat) := [(0, .aload_n 0, 1), (1, .aload_n 0, 1), (2, .iload_n 1, 1), (3, .invokevirtual 385, 3), (6, .putfield 92, 3), (9, .aload_n 0, 1), (10, .getfield 92, 3), (13, .ifCond .le 5, 3), (16, .lconst 0, 1), (17, .lreturn, 1), (18, .iload_n 2, 1), (19, .i2l, 1), (20, .lconst 0, 1), (21, .aload_n 0, 1), (22, .getfield 83, 3), (25, .iload_n 1, 1), (26, .iaload, 1), (27, .iconst 1, 1), (28, .isub, 1), (29, .i2l, 1), (30, .invokestatic 156, 3), (33, .ifCond .eq 13, 3), (36, .aload_n 0, 1), (37, .iload_n 1, 1), (38, .iload_n 2, 1), (39, .lload_n 3, 1), (40, .invokevirtual 454, 3), (43, .goto 9, 3), (46, .aload_n 0, 1), (47, .iconst 3, 1), (48, .invokevirtual 233, 3), (51, .i2l, 1), (52, .lreturn, 1)]
theorem dkX12_write : ∀ q ∈ pgX12_write, decode cX12_write q.1 = .ok q.2 := by decide +kernel
def f_X12_write (this : Nat) (a1 : Int32) (a2 : Int32) (a3 : Int64) (h0 : PH) : Option (Int64 × PH) :=
  cb (f_X12_trayFault this a1 h0) (fun (r1 : Int32) (h2 : PH) => lt (pI h2 this 5 r1) (fun (h3 : PH) => if (h3.1 this 5) ≤ 0 then (ldI h3 (rt this 37) 4 a1 (fun (x4 : Int32) => cb (f_X12_within a2.toInt64 (0 : Int64) ((x4 - (1 : Int32)).toInt64) h3) (fun (r5 : Int32) (h6 : PH) => lt (fun (t7 : Int64) (h8 : PH) => some (t7, h8)) (fun (j52 : Int64 → PH → Option (Int64 × PH)) => if r5 = 0 then (cb (f_X12_fails this (3 : Int32) h6) (fun (r9 : Int32) (h10 : PH) => j52 r9.toInt64 h10)) else (cb (f_X12_cut this a1 a2 a3 h6) (fun (r11 : Int64) (h12 : PH) => j52 r11 h12)))))) else (some ((0 : Int64), h3))))
set_option maxRecDepth 100000 in
set_option maxHeartbeats 4000000 in
theorem ct_X12_write (l : Launch) (this : Nat) (a1 : Int32) (a2 : Int32) (a3 : Int64) (h0 : PH) (hk : (kd this).1 = 12) : CT mkL l yX12_write cX12_write 5 (some .long) (rmd 3) [.ref this, .int a1, .int a2, .long a3] h0 (f_X12_write this a1 a2 a3 h0) := by
  refine ct_of (by decide) (Nat.le_of_ble_eq_true rfl) ?_
  intro p e s m args below meth c D cA ad A X hr hlk
  have X : Cx p s m args c RX12 cX12_write 5 D cA ad A := X
  unfold f_X12_write
  refine so_pick (L' := [(0, .ref this), (1, .int a1), (2, .int a2), (3, .long a3)]) X [0, 1, 2, 3] rfl ?_
  refine so_aload_n (i := 0) X 0 (dkX12_write (0, .aload_n 0, 1) (pgm 0 rfl)) rfl rfl ?_
  refine so_aload_n (i := 0) X 0 (dkX12_write (1, .aload_n 0, 1) (pgm 1 rfl)) rfl rfl ?_
  refine so_iload_n (i := 1) X 1 (dkX12_write (2, .iload_n 1, 1) (pgm 2 rfl)) rfl rfl ?_
  refine so_callV (n := 1) (As := [.int a1]) X (ct_X12_trayFault l this a1 h0 hk) hk (by decide) rfl lk_2130 lk_2132 lk_103 lk_134 lk_2133 (by decide +kernel) rfl rfl rfl (rm_ok (by omega) (by decide)) ⟨Nat.zero_le _, Nat.zero_le _⟩ (Nat.le_of_ble_eq_true rfl) (dkX12_write (3, .invokevirtual 385, 3) (pgm 3 rfl)) (fun r1 h2 => ?_) rfl
  refine sf_putI X ff_12_5 ft_12 rfl lk_1707 hk rfl rfl (dkX12_write (6, .putfield 92, 3) (pgm 4 rfl)) (fun h3 => ?_)
  refine so_aload_n (i := 0) X 0 (dkX12_write (9, .aload_n 0, 1) (pgm 5 rfl)) rfl rfl ?_
  refine sf_getI X ff_12_5 lk_1707 hk (dkX12_write (10, .getfield 92, 3) (pgm 6 rfl)) ?_
  refine so_if_le (tgt := 18) X (dkX12_write (13, .ifCond .le 5, 3) (pgm 7 rfl)) rfl (fun _ => ?_) (fun _ => ?_)
  · refine so_iload_n (i := 2) X 2 (dkX12_write (18, .iload_n 2, 1) (pgm 10 rfl)) rfl rfl ?_
    refine so_i2l X (dkX12_write (19, .i2l, 1) (pgm 11 rfl)) ?_
    refine so_lconst (v := (0 : Int64)) X (dkX12_write (20, .lconst 0, 1) (pgm 12 rfl)) lc_0 ?_
    refine so_aload_n (i := 0) X 0 (dkX12_write (21, .aload_n 0, 1) (pgm 13 rfl)) rfl rfl ?_
    refine sf_getR X ff_12_37 lk_1739 hk (dkX12_write (22, .getfield 83, 3) (pgm 14 rfl)) ?_
    refine so_iload_n (i := 1) X 1 (dkX12_write (25, .iload_n 1, 1) (pgm 15 rfl)) rfl rfl ?_
    refine so_iald X (rk_12_37 this hk) (dkX12_write (26, .iaload, 1) (pgm 16 rfl)) (fun x4 => ?_)
    refine so_iconst (v := (1 : Int32)) X (dkX12_write (27, .iconst 1, 1) (pgm 17 rfl)) ic_1 ?_
    refine so_isub X (dkX12_write (28, .isub, 1) (pgm 18 rfl)) ?_
    refine so_i2l X (dkX12_write (29, .i2l, 1) (pgm 19 rfl)) ?_
    refine so_callS (n := 3) (As := [.long a2.toInt64, .long (0 : Int64), .long ((x4 - (1 : Int32)).toInt64)]) X (ct_X12_within l a2.toInt64 (0 : Int64) ((x4 - (1 : Int32)).toInt64) h3 ) lk_1832 lk_1833 lk_134 lk_1834 (by decide +kernel) rfl rfl rfl (rm_ok (by omega) (by decide)) ⟨Nat.zero_le _, Nat.zero_le _⟩ (Nat.le_of_ble_eq_true rfl) (dkX12_write (30, .invokestatic 156, 3) (pgm 20 rfl)) (fun r5 h6 => ?_) rfl
    refine so_join (jf := fun (t7 : Int64) (h8 : PH) => some (t7, h8)) (fun (j : Int64 → PH → Option (Int64 × PH)) => ∀ (t7 : Int64) (h8 : PH), SWo (QM mkL below args s D cA ad A) p l e (rmd 3) s m args below meth c 0 0 5 D cA ad A 52 [] [.long t7] h8 (j t7 h8)) ?_ (fun j52 hj52 => ?_)
    · intro t7 h8
      exact so_lret X hr hlk (dkX12_write (52, .lreturn, 1) (pgm 32 rfl))
    refine so_if_eq (tgt := 46) X (dkX12_write (33, .ifCond .eq 13, 3) (pgm 21 rfl)) rfl (fun _ => ?_) (fun _ => ?_)
    · refine so_aload_n (i := 0) X 0 (dkX12_write (46, .aload_n 0, 1) (pgm 28 rfl)) rfl rfl ?_
      refine so_iconst (v := (3 : Int32)) X (dkX12_write (47, .iconst 3, 1) (pgm 29 rfl)) ic_3 ?_
      refine so_callV (n := 1) (As := [.int (3 : Int32)]) X (ct_X12_fails l this (3 : Int32) h6 hk) hk (by decide) rfl lk_1835 lk_1837 lk_61 lk_134 lk_1838 (by decide +kernel) rfl rfl rfl (rm_ok (by omega) (by decide)) ⟨Nat.zero_le _, Nat.zero_le _⟩ (Nat.le_of_ble_eq_true rfl) (dkX12_write (48, .invokevirtual 233, 3) (pgm 30 rfl)) (fun r9 h10 => ?_) rfl
      refine so_i2l X (dkX12_write (51, .i2l, 1) (pgm 31 rfl)) ?_
      exact so_pick X [] rfl (hj52 r9.toInt64 h10)
    · refine so_aload_n (i := 0) X 0 (dkX12_write (36, .aload_n 0, 1) (pgm 22 rfl)) rfl rfl ?_
      refine so_iload_n (i := 1) X 1 (dkX12_write (37, .iload_n 1, 1) (pgm 23 rfl)) rfl rfl ?_
      refine so_iload_n (i := 2) X 2 (dkX12_write (38, .iload_n 2, 1) (pgm 24 rfl)) rfl rfl ?_
      refine so_lload_n (i := 3) X 3 (dkX12_write (39, .lload_n 3, 1) (pgm 25 rfl)) rfl rfl ?_
      refine so_callV (n := 3) (As := [.int a1, .int a2, .long a3]) X (ct_X12_cut l this a1 a2 a3 h6 hk) hk (by decide) rfl lk_2264 lk_2266 lk_119 lk_134 lk_2267 (by decide +kernel) rfl rfl rfl (rm_ok (by omega) (by decide)) ⟨Nat.zero_le _, Nat.zero_le _⟩ (Nat.le_of_ble_eq_true rfl) (dkX12_write (40, .invokevirtual 454, 3) (pgm 26 rfl)) (fun r11 h12 => ?_) rfl
      refine so_goto (tgt := 52) X (dkX12_write (43, .goto 9, 3) (pgm 27 rfl)) rfl ?_
      exact so_pick X [] rfl (hj52 r11 h12)
  · refine so_lconst (v := (0 : Int64)) X (dkX12_write (16, .lconst 0, 1) (pgm 8 rfl)) lc_0 ?_
    exact so_lret X hr hlk (dkX12_write (17, .lreturn, 1) (pgm 9 rfl))
def pgX12_pour : List (Nat × Instr × Nat) := [(0, .aload_n 0, 1), (1, .aload_n 0, 1), (2, .iload_n 1, 1), (3, .invokevirtual 385, 3), (6, .putfield 92, 3), (9, .aload_n 0, 1), (10, .getfield 92, 3), (13, .ifCond .le 5, 3), (16, .iconst 0, 1), (17, .ireturn, 1), (18, .iconst 0, 1), (19, .istore_n 2, 1), (20, .iconst 0, 1), (21, .istore_n 3, 1), (22, .iload_n 3, 1), (23, .aload_n 0, 1), (24, .invokevirtual 252, 3), (27, .if_icmp .gt 43, 3), (30, .iload_n 2, 1), (31, .aload_n 0, 1), (32, .getfield 83, 3), (35, .iload_n 1, 1), (36, .iaload, 1), (37, .if_icmp .ge 33, 3), (40, .aload_n 0, 1), (41, .iload_n 3, 1), (42, .i2l, 1), (43, .invokevirtual 310, 3), (46, .ifCond .eq 6, 3), (49, .goto 15, 3), (52, .aload_n 0, 1), (53, .iload_n 1, 1), (54, .iload_n 2, 1), (55, .iload_n 3, 1), (56, .i2l, 1), (57, .invokevirtual 454, 3), (60, .pop2, 1), (61, .iinc 2 1, 3), (64, .iinc 3 1, 3), (67, .goto (-45), 3), (70, .iload_n 2, 1), (71, .ireturn, 1)]
theorem dkX12_pour : ∀ q ∈ pgX12_pour, decode cX12_pour q.1 = .ok q.2 := by decide +kernel
def b_X12_pour_22 (this : Nat) (a1 : Int32) (j70 : Int32 → PH → Option (Int32 × PH)) (rec22 : (Int32 × Int32) → PH → Option (Int32 × PH)) (s22 : Int32 × Int32) (hh22 : PH) : Option (Int32 × PH) :=
  cb (f_X12_everywhere this hh22) (fun (r8 : Int32) (h9 : PH) => if r8 < s22.2 then (j70 s22.1 h9) else (ldI h9 (rt this 37) 4 a1 (fun (x10 : Int32) => if x10 ≤ s22.1 then (j70 s22.1 h9) else (cb (f_X12_whyNot this s22.2.toInt64 h9) (fun (r11 : Int32) (h12 : PH) => lt (fun (y13 : Int32) (h14 : PH) => lt (s22.2 + Int32.ofInt 1) (fun (x15 : Int32) => rec22 (y13, x15) h14)) (fun (j64 : Int32 → PH → Option (Int32 × PH)) => if r11 = 0 then (cb (f_X12_cut this a1 s22.1 s22.2.toInt64 h12) (fun (r16 : Int64) (h17 : PH) => lt (s22.1 + Int32.ofInt 1) (fun (x18 : Int32) => j64 x18 h17))) else (j64 s22.1 h12)))))))
def f_X12_pour (this : Nat) (a1 : Int32) (h0 : PH) : Option (Int32 × PH) :=
  cb (f_X12_trayFault this a1 h0) (fun (r1 : Int32) (h2 : PH) => lt (pI h2 this 5 r1) (fun (h3 : PH) => if (h3.1 this 5) ≤ 0 then (lt (0 : Int32) (fun (x4 : Int32) => lt (0 : Int32) (fun (x5 : Int32) => lt (fun (y6 : Int32) (h7 : PH) => some (y6, h7)) (fun (j70 : Int32 → PH → Option (Int32 × PH)) => lp (b_X12_pour_22 this a1 j70) FU (x4, x5) h3)))) else (some ((0 : Int32), h3))))
set_option maxRecDepth 100000 in
set_option maxHeartbeats 4000000 in
theorem ct_X12_pour (l : Launch) (this : Nat) (a1 : Int32) (h0 : PH) (hk : (kd this).1 = 12) : CT mkI l yX12_pour cX12_pour 4 (some .int) (rmd 4) [.ref this, .int a1] h0 (f_X12_pour this a1 h0) := by
  refine ct_of (by decide) (Nat.le_of_ble_eq_true rfl) ?_
  intro p e s m args below meth c D cA ad A X hr hlk
  have X : Cx p s m args c RX12 cX12_pour 4 D cA ad A := X
  unfold f_X12_pour
  refine so_pick (L' := [(0, .ref this), (1, .int a1)]) X [0, 1] rfl ?_
  refine so_aload_n (i := 0) X 0 (dkX12_pour (0, .aload_n 0, 1) (pgm 0 rfl)) rfl rfl ?_
  refine so_aload_n (i := 0) X 0 (dkX12_pour (1, .aload_n 0, 1) (pgm 1 rfl)) rfl rfl ?_
  refine so_iload_n (i := 1) X 1 (dkX12_pour (2, .iload_n 1, 1) (pgm 2 rfl)) rfl rfl ?_
  refine so_callV (n := 1) (As := [.int a1]) X (ct_X12_trayFault l this a1 h0 hk) hk (by decide) rfl lk_2130 lk_2132 lk_103 lk_134 lk_2133 (by decide +kernel) rfl rfl rfl (rm_ok (by omega) (by decide)) ⟨Nat.zero_le _, Nat.zero_le _⟩ (Nat.le_of_ble_eq_true rfl) (dkX12_pour (3, .invokevirtual 385, 3) (pgm 3 rfl)) (fun r1 h2 => ?_) rfl
  refine sf_putI X ff_12_5 ft_12 rfl lk_1707 hk rfl rfl (dkX12_pour (6, .putfield 92, 3) (pgm 4 rfl)) (fun h3 => ?_)
  refine so_aload_n (i := 0) X 0 (dkX12_pour (9, .aload_n 0, 1) (pgm 5 rfl)) rfl rfl ?_
  refine sf_getI X ff_12_5 lk_1707 hk (dkX12_pour (10, .getfield 92, 3) (pgm 6 rfl)) ?_
  refine so_if_le (tgt := 18) X (dkX12_pour (13, .ifCond .le 5, 3) (pgm 7 rfl)) rfl (fun _ => ?_) (fun _ => ?_)
  · refine so_iconst (v := (0 : Int32)) X (dkX12_pour (18, .iconst 0, 1) (pgm 10 rfl)) ic_0 ?_
    refine so_istore_n (i := 2) X (dkX12_pour (19, .istore_n 2, 1) (pgm 11 rfl)) rfl (by decide) (Lf := fun x4 => [(2, .int x4), (0, .ref this), (1, .int a1)]) (fun _ => rfl) (fun x4 => ?_)
    refine so_iconst (v := (0 : Int32)) X (dkX12_pour (20, .iconst 0, 1) (pgm 12 rfl)) ic_0 ?_
    refine so_istore_n (i := 3) X (dkX12_pour (21, .istore_n 3, 1) (pgm 13 rfl)) rfl (by decide) (Lf := fun x5 => [(3, .int x5), (2, .int x4), (0, .ref this), (1, .int a1)]) (fun _ => rfl) (fun x5 => ?_)
    refine so_join (jf := fun (y6 : Int32) (h7 : PH) => some (y6, h7)) (fun (j : Int32 → PH → Option (Int32 × PH)) => ∀ (y6 : Int32) (h7 : PH), SWo (QM mkI below args s D cA ad A) p l e (rmd 4) s m args below meth c 0 0 4 D cA ad A 70 [(2, .int y6)] [] h7 (j y6 h7)) ?_ (fun j70 hj70 => ?_)
    · intro y6 h7
      refine so_iload_n (i := 2) X 0 (dkX12_pour (70, .iload_n 2, 1) (pgm 40 rfl)) rfl rfl ?_
      exact so_iret X hr hlk (dkX12_pour (71, .ireturn, 1) (pgm 41 rfl))
    refine so_pick (L' := [(0, .ref this), (1, .int a1), (2, .int x4), (3, .int x5)]) X [2, 3, 1, 0] rfl ?_
    refine so_loop (body := b_X12_pour_22 this a1 j70) (fun (s22 : Int32 × Int32) => [(0, .ref this), (1, .int a1), (2, .int s22.1), (3, .int s22.2)]) (fun rec22 hrec22 s22 hh22 => ?_) FU (x4, x5) h3
    unfold b_X12_pour_22
    refine so_iload_n (i := 3) X 3 (dkX12_pour (22, .iload_n 3, 1) (pgm 14 rfl)) rfl rfl ?_
    refine so_aload_n (i := 0) X 0 (dkX12_pour (23, .aload_n 0, 1) (pgm 15 rfl)) rfl rfl ?_
    refine so_callV (n := 0) (As := []) X (ct_X12_everywhere l this hh22 hk) hk (by decide) rfl lk_1664 lk_1666 lk_56 lk_134 lk_1667 (by decide +kernel) rfl rfl rfl (rm_ok (by omega) (by decide)) ⟨Nat.zero_le _, Nat.zero_le _⟩ (Nat.le_of_ble_eq_true rfl) (dkX12_pour (24, .invokevirtual 252, 3) (pgm 16 rfl)) (fun r8 h9 => ?_) rfl
    refine so_icmp_gt (tgt := 70) X (dkX12_pour (27, .if_icmp .gt 43, 3) (pgm 17 rfl)) rfl (fun _ => ?_) (fun _ => ?_)
    · exact so_pick X [2] rfl (hj70 s22.1 h9)
    · refine so_iload_n (i := 2) X 2 (dkX12_pour (30, .iload_n 2, 1) (pgm 18 rfl)) rfl rfl ?_
      refine so_aload_n (i := 0) X 0 (dkX12_pour (31, .aload_n 0, 1) (pgm 19 rfl)) rfl rfl ?_
      refine sf_getR X ff_12_37 lk_1739 hk (dkX12_pour (32, .getfield 83, 3) (pgm 20 rfl)) ?_
      refine so_iload_n (i := 1) X 1 (dkX12_pour (35, .iload_n 1, 1) (pgm 21 rfl)) rfl rfl ?_
      refine so_iald X (rk_12_37 this hk) (dkX12_pour (36, .iaload, 1) (pgm 22 rfl)) (fun x10 => ?_)
      refine so_icmp_ge (tgt := 70) X (dkX12_pour (37, .if_icmp .ge 33, 3) (pgm 23 rfl)) rfl (fun _ => ?_) (fun _ => ?_)
      · exact so_pick X [2] rfl (hj70 s22.1 h9)
      · refine so_aload_n (i := 0) X 0 (dkX12_pour (40, .aload_n 0, 1) (pgm 24 rfl)) rfl rfl ?_
        refine so_iload_n (i := 3) X 3 (dkX12_pour (41, .iload_n 3, 1) (pgm 25 rfl)) rfl rfl ?_
        refine so_i2l X (dkX12_pour (42, .i2l, 1) (pgm 26 rfl)) ?_
        refine so_callV (n := 1) (As := [.long s22.2.toInt64]) X (ct_X12_whyNot l this s22.2.toInt64 h9 hk) hk (by decide) rfl lk_1982 lk_1984 lk_86 lk_134 lk_1985 (by decide +kernel) rfl rfl rfl (rm_ok (by omega) (by decide)) ⟨Nat.zero_le _, Nat.zero_le _⟩ (Nat.le_of_ble_eq_true rfl) (dkX12_pour (43, .invokevirtual 310, 3) (pgm 27 rfl)) (fun r11 h12 => ?_) rfl
        refine so_join (jf := fun (y13 : Int32) (h14 : PH) => lt (s22.2 + Int32.ofInt 1) (fun (x15 : Int32) => rec22 (y13, x15) h14)) (fun (j : Int32 → PH → Option (Int32 × PH)) => ∀ (y13 : Int32) (h14 : PH), SWo (QM mkI below args s D cA ad A) p l e (rmd 4) s m args below meth c 0 0 4 D cA ad A 64 [(0, .ref this), (1, .int a1), (2, .int y13), (3, .int s22.2)] [] h14 (j y13 h14)) ?_ (fun j64 hj64 => ?_)
        · intro y13 h14
          refine so_iinc (i := 3) X 3 (dkX12_pour (64, .iinc 3 1, 3) (pgm 38 rfl)) rfl rfl (by decide) (Lf := fun x15 => [(3, .int x15), (0, .ref this), (1, .int a1), (2, .int y13)]) (fun _ => rfl) (fun x15 => ?_)
          refine so_goto (tgt := 22) X (dkX12_pour (67, .goto (-45), 3) (pgm 39 rfl)) rfl ?_
          exact so_pick X [1, 2, 3, 0] rfl (hrec22 (y13, x15) h14)
        refine so_if_eq (tgt := 52) X (dkX12_pour (46, .ifCond .eq 6, 3) (pgm 28 rfl)) rfl (fun _ => ?_) (fun _ => ?_)
        · refine so_aload_n (i := 0) X 0 (dkX12_pour (52, .aload_n 0, 1) (pgm 30 rfl)) rfl rfl ?_
          refine so_iload_n (i := 1) X 1 (dkX12_pour (53, .iload_n 1, 1) (pgm 31 rfl)) rfl rfl ?_
          refine so_iload_n (i := 2) X 2 (dkX12_pour (54, .iload_n 2, 1) (pgm 32 rfl)) rfl rfl ?_
          refine so_iload_n (i := 3) X 3 (dkX12_pour (55, .iload_n 3, 1) (pgm 33 rfl)) rfl rfl ?_
          refine so_i2l X (dkX12_pour (56, .i2l, 1) (pgm 34 rfl)) ?_
          refine so_callV (n := 3) (As := [.int a1, .int s22.1, .long s22.2.toInt64]) X (ct_X12_cut l this a1 s22.1 s22.2.toInt64 h12 hk) hk (by decide) rfl lk_2264 lk_2266 lk_119 lk_134 lk_2267 (by decide +kernel) rfl rfl rfl (rm_ok (by omega) (by decide)) ⟨Nat.zero_le _, Nat.zero_le _⟩ (Nat.le_of_ble_eq_true rfl) (dkX12_pour (57, .invokevirtual 454, 3) (pgm 35 rfl)) (fun r16 h17 => ?_) rfl
          refine so_pop2 X (dkX12_pour (60, .pop2, 1) (pgm 36 rfl)) rfl ?_
          refine so_iinc (i := 2) X 2 (dkX12_pour (61, .iinc 2 1, 3) (pgm 37 rfl)) rfl rfl (by decide) (Lf := fun x18 => [(2, .int x18), (0, .ref this), (1, .int a1), (3, .int s22.2)]) (fun _ => rfl) (fun x18 => ?_)
          exact so_pick X [1, 2, 0, 3] rfl (hj64 x18 h17)
        · refine so_goto (tgt := 64) X (dkX12_pour (49, .goto 15, 3) (pgm 29 rfl)) rfl ?_
          exact so_pick X [0, 1, 2, 3] rfl (hj64 s22.1 h12)
  · refine so_iconst (v := (0 : Int32)) X (dkX12_pour (16, .iconst 0, 1) (pgm 8 rfl)) ic_0 ?_
    exact so_iret X hr hlk (dkX12_pour (17, .ireturn, 1) (pgm 9 rfl))
def pgX1_take : List (Nat × Instr × Nat) := [(0, .aload_n 1, 1), (1, .getfield 35, 3), (4, .iconst 2, 1), (5, .irem, 1), (6, .ifCond .eq 12, 3), (9, .aload_n 1, 1), (10, .getfield 35, 3), (13, .bipush 9, 2), (15, .if_icmp .le 5, 3), (18, .iconst 0, 1), (19, .ireturn, 1), (20, .aload_n 0, 1), (21, .aload_n 1, 1), (22, .getfield 35, 3), (25, .iconst 1, 1), (26, .iadd, 1), (27, .iconst 2, 1), (28, .idiv, 1), (29, .putfield 41, 3), (32, .aload_n 0, 1), (33, .iconst 0, 1), (34, .putfield 44, 3), (37, .iconst 0, 1), (38, .istore_n 2, 1), (39, .iload_n 2, 1), (40, .aload_n 1, 1), (41, .getfield 35, 3), (44, .if_icmp .ge 89, 3), (47, .aload_n 1, 1), (48, .getfield 47, 3), (51, .iload_n 2, 1), (52, .laload, 1), (53, .lstore_n 3, 1), (54, .iload_n 2, 1), (55, .iconst 2, 1), (56, .irem, 1), (57, .iconst 1, 1), (58, .if_icmp .ne 7, 3), (61, .iconst 1, 1), (62, .goto 4, 3), (65, .iconst 0, 1), (66, .istore 5, 2), (68, .lload_n 3, 1), (69, .lconst 0, 1), (70, .lcmp, 1), (71, .ifCond .lt 27, 3), (74, .lload_n 3, 1), (75, .iload 5, 2), (77, .ifCond .eq 7, 3), (80, .iconst 2, 1), (81, .goto 12, 3), (84, .iconst 2, 1), (85, .aload_n 0, 1), (86, .getfield 27, 3), (89, .getfield 51, 3), (92, .imul, 1), (93, .i2l, 1), (94, .lcmp, 1), (95, .ifCond .lt 5, 3), (98, .iconst 0, 1), (99, .ireturn, 1), (100, .iload 5, 2), (102, .ifCond .eq 16, 3), (105, .aload_n 0, 1), (106, .getfield 9, 3), (109, .iload_n 2, 1), (110, .iconst 2, 1), (111, .idiv, 1), (112, .lload_n 3, 1), (113, .l2i, 1), (114, .iastore, 1), (115, .goto 12, 3), (118, .aload_n 0, 1), (119, .iload_n 2, 1), (120, .iconst 2, 1), (121, .idiv, 1), (122, .lload_n 3, 1), (123, .l2i, 1), (124, .invokevirtual 56, 3), (127, .iinc 2 1, 3), (130, .goto (-91), 3), (133, .iconst 1, 1), (134, .ireturn, 1)]
theorem dkX1_take : ∀ q ∈ pgX1_take, decode cX1_take q.1 = .ok q.2 := by decide +kernel
def b_X1_take_39 (this : Nat) (a1 : Nat) (j98 : PH → Option (Int32 × PH)) (rec39 : (Int32) → PH → Option (Int32 × PH)) (s39 : Int32) (hh39 : PH) : Option (Int32 × PH) :=
  if (hh39.1 a1 1) ≤ s39 then (zr (1 : Int32) hh39) else (ldL hh39 (rt a1 2) 30 s39 (fun (x6 : Int64) => lt x6 (fun (x7 : Int64) => nz (2 : Int32) (lt (fun (t8 : Int32) (h9 : PH) => lt t8 (fun (x10 : Int32) => if (lg_cmp x7 (0 : Int64)) < 0 then (j98 h9) else (lt (fun (t11 : Int32) (h12 : PH) => if (lg_cmp x7 t11.toInt64) < 0 then (lt (fun (h13 : PH) => lt (s39 + Int32.ofInt 1) (fun (x14 : Int32) => rec39 x14 h13)) (fun (j127 : PH → Option (Int32 × PH)) => if x10 = 0 then (nz (2 : Int32) (cb (f_X1_takePart this (s39 / (2 : Int32)) x7.toInt32 h12) (fun (r15 : Unit) (h16 : PH) => j127 h16))) else (nz (2 : Int32) (stI h12 (rt this 2) 5 (s39 / (2 : Int32)) x7.toInt32 (fun (h17 : PH) => j127 h17))))) else (j98 h12)) (fun (j93 : Int32 → PH → Option (Int32 × PH)) => if x10 = 0 then (j93 ((2 : Int32) * (h9.1 (rt this 0) 7)) h9) else (j93 (2 : Int32) h9))))) (fun (j66 : Int32 → PH → Option (Int32 × PH)) => if (s39 - s39 / (2 : Int32) * (2 : Int32)) = (1 : Int32) then (j66 (1 : Int32) hh39) else (j66 (0 : Int32) hh39))))))
def f_X1_take (this : Nat) (a1 : Nat) (h0 : PH) : Option (Int32 × PH) :=
  nz (2 : Int32) (lt (fun (h1 : PH) => zr (0 : Int32) h1) (fun (j18 : PH → Option (Int32 × PH)) => if ((h0.1 a1 1) - (h0.1 a1 1) / (2 : Int32) * (2 : Int32)) = 0 then (j18 h0) else (if (h0.1 a1 1) ≤ (9 : Int32) then (nz (2 : Int32) (lt (pI h0 this 7 (((h0.1 a1 1) + (1 : Int32)) / (2 : Int32))) (fun (h2 : PH) => lt (pI h2 this 8 (0 : Int32)) (fun (h3 : PH) => lt (0 : Int32) (fun (x4 : Int32) => lt (fun (h5 : PH) => zr (0 : Int32) h5) (fun (j98 : PH → Option (Int32 × PH)) => lp (b_X1_take_39 this a1 j98) FU x4 h3)))))) else (j18 h0))))
set_option maxRecDepth 100000 in
set_option maxHeartbeats 4000000 in
theorem ct_X1_take (l : Launch) (this : Nat) (a1 : Nat) (h0 : PH) (hk : (kd this).1 = 1) (hk1 : (kd a1).1 = 10) : CT mkI l yX1_take cX1_take 6 (some .boolean) (rmd 2) [.ref this, .ref a1] h0 (f_X1_take this a1 h0) := by
  refine ct_of (by decide) (Nat.le_of_ble_eq_true rfl) ?_
  intro p e s m args below meth c D cA ad A X hr hlk
  have X : Cx p s m args c RX1 cX1_take 6 D cA ad A := X
  unfold f_X1_take
  refine so_pick (L' := [(0, .ref this), (1, .ref a1)]) X [0, 1] rfl ?_
  refine so_aload_n (i := 1) X 1 (dkX1_take (0, .aload_n 1, 1) (pgm 0 rfl)) rfl rfl ?_
  refine sf_getI X ff_10_1 lk_547 hk1 (dkX1_take (1, .getfield 35, 3) (pgm 1 rfl)) ?_
  refine so_iconst (v := (2 : Int32)) X (dkX1_take (4, .iconst 2, 1) (pgm 2 rfl)) ic_2 ?_
  refine so_irem X (dkX1_take (5, .irem, 1) (pgm 3 rfl)) (fun _ => ?_)
  refine so_join (jf := fun (h1 : PH) => zr (0 : Int32) h1) (fun (j : PH → Option (Int32 × PH)) => ∀  (h1 : PH), SWo (QM mkI below args s D cA ad A) p l e (rmd 2) s m args below meth c 0 0 6 D cA ad A 18 [] [] h1 (j h1)) ?_ (fun j18 hj18 => ?_)
  · intro h1
    refine so_iconst (v := (0 : Int32)) X (dkX1_take (18, .iconst 0, 1) (pgm 9 rfl)) ic_0 ?_
    exact so_zret X hr hlk (dkX1_take (19, .ireturn, 1) (pgm 10 rfl))
  refine so_if_eq (tgt := 18) X (dkX1_take (6, .ifCond .eq 12, 3) (pgm 4 rfl)) rfl (fun _ => ?_) (fun _ => ?_)
  · exact so_pick X [] rfl (hj18 h0)
  · refine so_aload_n (i := 1) X 1 (dkX1_take (9, .aload_n 1, 1) (pgm 5 rfl)) rfl rfl ?_
    refine sf_getI X ff_10_1 lk_547 hk1 (dkX1_take (10, .getfield 35, 3) (pgm 6 rfl)) ?_
    refine so_bipush (v := (9 : Int32)) X (dkX1_take (13, .bipush 9, 2) (pgm 7 rfl)) bp_9 ?_
    refine so_icmp_le (tgt := 20) X (dkX1_take (15, .if_icmp .le 5, 3) (pgm 8 rfl)) rfl (fun _ => ?_) (fun _ => ?_)
    · refine so_aload_n (i := 0) X 0 (dkX1_take (20, .aload_n 0, 1) (pgm 11 rfl)) rfl rfl ?_
      refine so_aload_n (i := 1) X 1 (dkX1_take (21, .aload_n 1, 1) (pgm 12 rfl)) rfl rfl ?_
      refine sf_getI X ff_10_1 lk_547 hk1 (dkX1_take (22, .getfield 35, 3) (pgm 13 rfl)) ?_
      refine so_iconst (v := (1 : Int32)) X (dkX1_take (25, .iconst 1, 1) (pgm 14 rfl)) ic_1 ?_
      refine so_iadd X (dkX1_take (26, .iadd, 1) (pgm 15 rfl)) ?_
      refine so_iconst (v := (2 : Int32)) X (dkX1_take (27, .iconst 2, 1) (pgm 16 rfl)) ic_2 ?_
      refine so_idiv X (dkX1_take (28, .idiv, 1) (pgm 17 rfl)) (fun _ => ?_)
      refine sf_putI X ff_1_7 ft_1 rfl lk_495 hk rfl rfl (dkX1_take (29, .putfield 41, 3) (pgm 18 rfl)) (fun h2 => ?_)
      refine so_aload_n (i := 0) X 0 (dkX1_take (32, .aload_n 0, 1) (pgm 19 rfl)) rfl rfl ?_
      refine so_iconst (v := (0 : Int32)) X (dkX1_take (33, .iconst 0, 1) (pgm 20 rfl)) ic_0 ?_
      refine sf_putI X ff_1_8 ft_1 rfl lk_496 hk rfl rfl (dkX1_take (34, .putfield 44, 3) (pgm 21 rfl)) (fun h3 => ?_)
      refine so_iconst (v := (0 : Int32)) X (dkX1_take (37, .iconst 0, 1) (pgm 22 rfl)) ic_0 ?_
      refine so_istore_n (i := 2) X (dkX1_take (38, .istore_n 2, 1) (pgm 23 rfl)) rfl (by decide) (Lf := fun x4 => [(2, .int x4), (0, .ref this), (1, .ref a1)]) (fun _ => rfl) (fun x4 => ?_)
      refine so_join (jf := fun (h5 : PH) => zr (0 : Int32) h5) (fun (j : PH → Option (Int32 × PH)) => ∀  (h5 : PH), SWo (QM mkI below args s D cA ad A) p l e (rmd 2) s m args below meth c 0 0 6 D cA ad A 98 [] [] h5 (j h5)) ?_ (fun j98 hj98 => ?_)
      · intro h5
        refine so_iconst (v := (0 : Int32)) X (dkX1_take (98, .iconst 0, 1) (pgm 59 rfl)) ic_0 ?_
        exact so_zret X hr hlk (dkX1_take (99, .ireturn, 1) (pgm 60 rfl))
      refine so_pick (L' := [(0, .ref this), (1, .ref a1), (2, .int x4)]) X [1, 2, 0] rfl ?_
      refine so_loop (body := b_X1_take_39 this a1 j98) (fun (s39 : Int32) => [(0, .ref this), (1, .ref a1), (2, .int s39)]) (fun rec39 hrec39 s39 hh39 => ?_) FU x4 h3
      unfold b_X1_take_39
      refine so_iload_n (i := 2) X 2 (dkX1_take (39, .iload_n 2, 1) (pgm 24 rfl)) rfl rfl ?_
      refine so_aload_n (i := 1) X 1 (dkX1_take (40, .aload_n 1, 1) (pgm 25 rfl)) rfl rfl ?_
      refine sf_getI X ff_10_1 lk_547 hk1 (dkX1_take (41, .getfield 35, 3) (pgm 26 rfl)) ?_
      refine so_icmp_ge (tgt := 133) X (dkX1_take (44, .if_icmp .ge 89, 3) (pgm 27 rfl)) rfl (fun _ => ?_) (fun _ => ?_)
      · refine so_iconst (v := (1 : Int32)) X (dkX1_take (133, .iconst 1, 1) (pgm 81 rfl)) ic_1 ?_
        exact so_zret X hr hlk (dkX1_take (134, .ireturn, 1) (pgm 82 rfl))
      · refine so_aload_n (i := 1) X 1 (dkX1_take (47, .aload_n 1, 1) (pgm 28 rfl)) rfl rfl ?_
        refine sf_getR X ff_10_2 lk_554 hk1 (dkX1_take (48, .getfield 47, 3) (pgm 29 rfl)) ?_
        refine so_iload_n (i := 2) X 2 (dkX1_take (51, .iload_n 2, 1) (pgm 30 rfl)) rfl rfl ?_
        refine so_lald X (rk_10_2 a1 hk1) (dkX1_take (52, .laload, 1) (pgm 31 rfl)) (fun x6 => ?_)
        refine so_lstore_n (i := 3) X (dkX1_take (53, .lstore_n 3, 1) (pgm 32 rfl)) rfl (by decide) (Lf := fun x7 => [(3, .long x7), (0, .ref this), (1, .ref a1), (2, .int s39)]) (fun _ => rfl) (fun x7 => ?_)
        refine so_iload_n (i := 2) X 3 (dkX1_take (54, .iload_n 2, 1) (pgm 33 rfl)) rfl rfl ?_
        refine so_iconst (v := (2 : Int32)) X (dkX1_take (55, .iconst 2, 1) (pgm 34 rfl)) ic_2 ?_
        refine so_irem X (dkX1_take (56, .irem, 1) (pgm 35 rfl)) (fun _ => ?_)
        refine so_iconst (v := (1 : Int32)) X (dkX1_take (57, .iconst 1, 1) (pgm 36 rfl)) ic_1 ?_
        refine so_join (jf := fun (t8 : Int32) (h9 : PH) => lt t8 (fun (x10 : Int32) => if (lg_cmp x7 (0 : Int64)) < 0 then (j98 h9) else (lt (fun (t11 : Int32) (h12 : PH) => if (lg_cmp x7 t11.toInt64) < 0 then (lt (fun (h13 : PH) => lt (s39 + Int32.ofInt 1) (fun (x14 : Int32) => rec39 x14 h13)) (fun (j127 : PH → Option (Int32 × PH)) => if x10 = 0 then (nz (2 : Int32) (cb (f_X1_takePart this (s39 / (2 : Int32)) x7.toInt32 h12) (fun (r15 : Unit) (h16 : PH) => j127 h16))) else (nz (2 : Int32) (stI h12 (rt this 2) 5 (s39 / (2 : Int32)) x7.toInt32 (fun (h17 : PH) => j127 h17))))) else (j98 h12)) (fun (j93 : Int32 → PH → Option (Int32 × PH)) => if x10 = 0 then (j93 ((2 : Int32) * (h9.1 (rt this 0) 7)) h9) else (j93 (2 : Int32) h9))))) (fun (j : Int32 → PH → Option (Int32 × PH)) => ∀ (t8 : Int32) (h9 : PH), SWo (QM mkI below args s D cA ad A) p l e (rmd 2) s m args below meth c 0 0 6 D cA ad A 66 [(0, .ref this), (1, .ref a1), (2, .int s39), (3, .long x7)] [.int t8] h9 (j t8 h9)) ?_ (fun j66 hj66 => ?_)
        · intro t8 h9
          refine so_istore (i := 5) X (dkX1_take (66, .istore 5, 2) (pgm 41 rfl)) (by decide) (Lf := fun x10 => [(5, .int x10), (0, .ref this), (1, .ref a1), (2, .int s39), (3, .long x7)]) (fun _ => rfl) (fun x10 => ?_)
          refine so_lload_n (i := 3) X 4 (dkX1_take (68, .lload_n 3, 1) (pgm 42 rfl)) rfl rfl ?_
          refine so_lconst (v := (0 : Int64)) X (dkX1_take (69, .lconst 0, 1) (pgm 43 rfl)) lc_0 ?_
          refine so_lcmp X (dkX1_take (70, .lcmp, 1) (pgm 44 rfl)) ?_
          refine so_if_lt (tgt := 98) X (dkX1_take (71, .ifCond .lt 27, 3) (pgm 45 rfl)) rfl (fun _ => ?_) (fun _ => ?_)
          · exact so_pick X [] rfl (hj98 h9)
          · refine so_lload_n (i := 3) X 4 (dkX1_take (74, .lload_n 3, 1) (pgm 46 rfl)) rfl rfl ?_
            refine so_iload (i := 5) X 0 (dkX1_take (75, .iload 5, 2) (pgm 47 rfl)) rfl ?_
            refine so_join (jf := fun (t11 : Int32) (h12 : PH) => if (lg_cmp x7 t11.toInt64) < 0 then (lt (fun (h13 : PH) => lt (s39 + Int32.ofInt 1) (fun (x14 : Int32) => rec39 x14 h13)) (fun (j127 : PH → Option (Int32 × PH)) => if x10 = 0 then (nz (2 : Int32) (cb (f_X1_takePart this (s39 / (2 : Int32)) x7.toInt32 h12) (fun (r15 : Unit) (h16 : PH) => j127 h16))) else (nz (2 : Int32) (stI h12 (rt this 2) 5 (s39 / (2 : Int32)) x7.toInt32 (fun (h17 : PH) => j127 h17))))) else (j98 h12)) (fun (j : Int32 → PH → Option (Int32 × PH)) => ∀ (t11 : Int32) (h12 : PH), SWo (QM mkI below args s D cA ad A) p l e (rmd 2) s m args below meth c 0 0 6 D cA ad A 93 [(0, .ref this), (1, .ref a1), (2, .int s39), (3, .long x7), (5, .int x10)] [.int t11, .long x7] h12 (j t11 h12)) ?_ (fun j93 hj93 => ?_)
            · intro t11 h12
              refine so_i2l X (dkX1_take (93, .i2l, 1) (pgm 56 rfl)) ?_
              refine so_lcmp X (dkX1_take (94, .lcmp, 1) (pgm 57 rfl)) ?_
              refine so_if_lt (tgt := 100) X (dkX1_take (95, .ifCond .lt 5, 3) (pgm 58 rfl)) rfl (fun _ => ?_) (fun _ => ?_)
              · refine so_iload (i := 5) X 4 (dkX1_take (100, .iload 5, 2) (pgm 61 rfl)) rfl ?_
                refine so_join (jf := fun (h13 : PH) => lt (s39 + Int32.ofInt 1) (fun (x14 : Int32) => rec39 x14 h13)) (fun (j : PH → Option (Int32 × PH)) => ∀  (h13 : PH), SWo (QM mkI below args s D cA ad A) p l e (rmd 2) s m args below meth c 0 0 6 D cA ad A 127 [(0, .ref this), (1, .ref a1), (2, .int s39)] [] h13 (j h13)) ?_ (fun j127 hj127 => ?_)
                · intro h13
                  refine so_iinc (i := 2) X 2 (dkX1_take (127, .iinc 2 1, 3) (pgm 79 rfl)) rfl rfl (by decide) (Lf := fun x14 => [(2, .int x14), (0, .ref this), (1, .ref a1)]) (fun _ => rfl) (fun x14 => ?_)
                  refine so_goto (tgt := 39) X (dkX1_take (130, .goto (-91), 3) (pgm 80 rfl)) rfl ?_
                  exact so_pick X [1, 2, 0] rfl (hrec39 x14 h13)
                refine so_if_eq (tgt := 118) X (dkX1_take (102, .ifCond .eq 16, 3) (pgm 62 rfl)) rfl (fun _ => ?_) (fun _ => ?_)
                · refine so_aload_n (i := 0) X 0 (dkX1_take (118, .aload_n 0, 1) (pgm 72 rfl)) rfl rfl ?_
                  refine so_iload_n (i := 2) X 2 (dkX1_take (119, .iload_n 2, 1) (pgm 73 rfl)) rfl rfl ?_
                  refine so_iconst (v := (2 : Int32)) X (dkX1_take (120, .iconst 2, 1) (pgm 74 rfl)) ic_2 ?_
                  refine so_idiv X (dkX1_take (121, .idiv, 1) (pgm 75 rfl)) (fun _ => ?_)
                  refine so_lload_n (i := 3) X 3 (dkX1_take (122, .lload_n 3, 1) (pgm 76 rfl)) rfl rfl ?_
                  refine so_l2i X (dkX1_take (123, .l2i, 1) (pgm 77 rfl)) ?_
                  refine so_callV (n := 2) (As := [.int (s39 / (2 : Int32)), .int x7.toInt32]) X (ct_X1_takePart l this (s39 / (2 : Int32)) x7.toInt32 h12 hk) hk (by decide) rfl lk_1420 lk_1422 lk_46 lk_131 lk_1423 (by decide +kernel) rfl rfl rfl (rm_ok (by omega) (by decide)) ⟨Nat.zero_le _, Nat.zero_le _⟩ (Nat.le_of_ble_eq_true rfl) (dkX1_take (124, .invokevirtual 56, 3) (pgm 78 rfl)) (fun r15 h16 => ?_) rfl
                  exact so_pick X [0, 1, 2] rfl (hj127 h16)
                · refine so_aload_n (i := 0) X 0 (dkX1_take (105, .aload_n 0, 1) (pgm 63 rfl)) rfl rfl ?_
                  refine sf_getR X ff_1_2 lk_490 hk (dkX1_take (106, .getfield 9, 3) (pgm 64 rfl)) ?_
                  refine so_iload_n (i := 2) X 2 (dkX1_take (109, .iload_n 2, 1) (pgm 65 rfl)) rfl rfl ?_
                  refine so_iconst (v := (2 : Int32)) X (dkX1_take (110, .iconst 2, 1) (pgm 66 rfl)) ic_2 ?_
                  refine so_idiv X (dkX1_take (111, .idiv, 1) (pgm 67 rfl)) (fun _ => ?_)
                  refine so_lload_n (i := 3) X 3 (dkX1_take (112, .lload_n 3, 1) (pgm 68 rfl)) rfl rfl ?_
                  refine so_l2i X (dkX1_take (113, .l2i, 1) (pgm 69 rfl)) ?_
                  refine so_iast X (rk_1_2 this hk) (dkX1_take (114, .iastore, 1) (pgm 70 rfl)) (fun h17 => ?_)
                  refine so_goto (tgt := 127) X (dkX1_take (115, .goto 12, 3) (pgm 71 rfl)) rfl ?_
                  exact so_pick X [0, 1, 2] rfl (hj127 h17)
              · exact so_pick X [] rfl (hj98 h12)
            refine so_if_eq (tgt := 84) X (dkX1_take (77, .ifCond .eq 7, 3) (pgm 48 rfl)) rfl (fun _ => ?_) (fun _ => ?_)
            · refine so_iconst (v := (2 : Int32)) X (dkX1_take (84, .iconst 2, 1) (pgm 51 rfl)) ic_2 ?_
              refine so_aload_n (i := 0) X 1 (dkX1_take (85, .aload_n 0, 1) (pgm 52 rfl)) rfl rfl ?_
              refine sf_getR X ff_1_0 lk_488 hk (dkX1_take (86, .getfield 27, 3) (pgm 53 rfl)) ?_
              refine sf_getI X ff_8_7 lk_193 (fo (rk_1_0 this hk)) (dkX1_take (89, .getfield 51, 3) (pgm 54 rfl)) ?_
              refine so_imul X (dkX1_take (92, .imul, 1) (pgm 55 rfl)) ?_
              exact so_pick X [1, 2, 3, 4, 0] rfl (hj93 ((2 : Int32) * (h9.1 (rt this 0) 7)) h9)
            · refine so_iconst (v := (2 : Int32)) X (dkX1_take (80, .iconst 2, 1) (pgm 49 rfl)) ic_2 ?_
              refine so_goto (tgt := 93) X (dkX1_take (81, .goto 12, 3) (pgm 50 rfl)) rfl ?_
              exact so_pick X [1, 2, 3, 4, 0] rfl (hj93 (2 : Int32) h9)
        refine so_icmp_ne (tgt := 65) X (dkX1_take (58, .if_icmp .ne 7, 3) (pgm 37 rfl)) rfl (fun _ => ?_) (fun _ => ?_)
        · refine so_iconst (v := (0 : Int32)) X (dkX1_take (65, .iconst 0, 1) (pgm 40 rfl)) ic_0 ?_
          exact so_pick X [1, 2, 3, 0] rfl (hj66 (0 : Int32) hh39)
        · refine so_iconst (v := (1 : Int32)) X (dkX1_take (61, .iconst 1, 1) (pgm 38 rfl)) ic_1 ?_
          refine so_goto (tgt := 66) X (dkX1_take (62, .goto 4, 3) (pgm 39 rfl)) rfl ?_
          exact so_pick X [1, 2, 3, 0] rfl (hj66 (1 : Int32) hh39)
    · exact so_pick X [] rfl (hj18 h0)
def pgX1_heldIn : List (Nat × Instr × Nat) := [(0, .aload_n 0, 1), (1, .invokevirtual 76, 3), (4, .aload_n 0, 1), (5, .iconst 0, 1), (6, .invokevirtual 79, 3), (9, .istore_n 2, 1), (10, .iconst 1, 1), (11, .istore_n 3, 1), (12, .iload_n 3, 1), (13, .aload_n 0, 1), (14, .invokevirtual 68, 3), (17, .if_icmp .ge 36, 3), (20, .aload_n 0, 1), (21, .iload_n 3, 1), (22, .invokevirtual 79, 3), (25, .istore 4, 2), (27, .iload_n 1, 1), (28, .ifCond .eq 12, 3), (31, .iload_n 2, 1), (32, .iload 4, 2), (34, .invokestatic 82, 3), (37, .goto 9, 3), (40, .iload_n 2, 1), (41, .iload 4, 2), (43, .invokestatic 88, 3), (46, .istore_n 2, 1), (47, .iinc 3 1, 3), (50, .goto (-38), 3), (53, .iload_n 2, 1), (54, .ireturn, 1)]
theorem dkX1_heldIn : ∀ q ∈ pgX1_heldIn, decode cX1_heldIn q.1 = .ok q.2 := by decide +kernel
def b_X1_heldIn_12 (this : Nat) (a1 : Int32) (rec12 : (Int32 × Int32) → PH → Option (Int32 × PH)) (s12 : Int32 × Int32) (hh12 : PH) : Option (Int32 × PH) :=
  cb (f_X1_all this hh12) (fun (r7 : Int32) (h8 : PH) => if r7 ≤ s12.2 then (some (s12.1, h8)) else (cb (f_X1_plansOf this s12.2 h8) (fun (r9 : Int32) (h10 : PH) => lt r9 (fun (x11 : Int32) => lt (fun (t12 : Int32) (h13 : PH) => lt t12 (fun (x14 : Int32) => lt (s12.2 + Int32.ofInt 1) (fun (x15 : Int32) => rec12 (x14, x15) h13))) (fun (j46 : Int32 → PH → Option (Int32 × PH)) => if a1 = 0 then (j46 (if x11 < s12.1 then x11 else s12.1) h10) else (j46 (if s12.1 < x11 then x11 else s12.1) h10))))))
def f_X1_heldIn (this : Nat) (a1 : Int32) (h0 : PH) : Option (Int32 × PH) :=
  cb (f_X1_sortPlans this h0) (fun (r1 : Unit) (h2 : PH) => cb (f_X1_plansOf this (0 : Int32) h2) (fun (r3 : Int32) (h4 : PH) => lt r3 (fun (x5 : Int32) => lt (1 : Int32) (fun (x6 : Int32) => lp (b_X1_heldIn_12 this a1) FU (x5, x6) h4))))
set_option maxRecDepth 100000 in
set_option maxHeartbeats 4000000 in
theorem ct_X1_heldIn (l : Launch) (this : Nat) (a1 : Int32) (h0 : PH) (hk : (kd this).1 = 1) : CT mkI l yX1_heldIn cX1_heldIn 5 (some .int) (rmd 2) [.ref this, .int a1] h0 (f_X1_heldIn this a1 h0) := by
  refine ct_of (by decide) (Nat.le_of_ble_eq_true rfl) ?_
  intro p e s m args below meth c D cA ad A X hr hlk
  have X : Cx p s m args c RX1 cX1_heldIn 5 D cA ad A := X
  unfold f_X1_heldIn
  refine so_pick (L' := [(0, .ref this), (1, .int a1)]) X [0, 1] rfl ?_
  refine so_aload_n (i := 0) X 0 (dkX1_heldIn (0, .aload_n 0, 1) (pgm 0 rfl)) rfl rfl ?_
  refine so_callV (n := 0) (As := []) X (ct_X1_sortPlans l this h0 hk) hk (by decide) rfl lk_1454 lk_1456 lk_50 lk_131 lk_1457 (by decide +kernel) rfl rfl rfl (rm_ok (by omega) (by decide)) ⟨Nat.zero_le _, Nat.zero_le _⟩ (Nat.le_of_ble_eq_true rfl) (dkX1_heldIn (1, .invokevirtual 76, 3) (pgm 1 rfl)) (fun r1 h2 => ?_) rfl
  refine so_aload_n (i := 0) X 0 (dkX1_heldIn (4, .aload_n 0, 1) (pgm 2 rfl)) rfl rfl ?_
  refine so_iconst (v := (0 : Int32)) X (dkX1_heldIn (5, .iconst 0, 1) (pgm 3 rfl)) ic_0 ?_
  refine so_callV (n := 1) (As := [.int (0 : Int32)]) X (ct_X1_plansOf l this (0 : Int32) h2 hk) hk (by decide) rfl lk_1460 lk_1462 lk_51 lk_131 lk_1463 (by decide +kernel) rfl rfl rfl (rm_ok (by omega) (by decide)) ⟨Nat.zero_le _, Nat.zero_le _⟩ (Nat.le_of_ble_eq_true rfl) (dkX1_heldIn (6, .invokevirtual 79, 3) (pgm 4 rfl)) (fun r3 h4 => ?_) rfl
  refine so_istore_n (i := 2) X (dkX1_heldIn (9, .istore_n 2, 1) (pgm 5 rfl)) rfl (by decide) (Lf := fun x5 => [(2, .int x5), (0, .ref this), (1, .int a1)]) (fun _ => rfl) (fun x5 => ?_)
  refine so_iconst (v := (1 : Int32)) X (dkX1_heldIn (10, .iconst 1, 1) (pgm 6 rfl)) ic_1 ?_
  refine so_istore_n (i := 3) X (dkX1_heldIn (11, .istore_n 3, 1) (pgm 7 rfl)) rfl (by decide) (Lf := fun x6 => [(3, .int x6), (2, .int x5), (0, .ref this), (1, .int a1)]) (fun _ => rfl) (fun x6 => ?_)
  refine so_pick (L' := [(0, .ref this), (1, .int a1), (2, .int x5), (3, .int x6)]) X [2, 3, 1, 0] rfl ?_
  refine so_loop (body := b_X1_heldIn_12 this a1) (fun (s12 : Int32 × Int32) => [(0, .ref this), (1, .int a1), (2, .int s12.1), (3, .int s12.2)]) (fun rec12 hrec12 s12 hh12 => ?_) FU (x5, x6) h4
  unfold b_X1_heldIn_12
  refine so_iload_n (i := 3) X 3 (dkX1_heldIn (12, .iload_n 3, 1) (pgm 8 rfl)) rfl rfl ?_
  refine so_aload_n (i := 0) X 0 (dkX1_heldIn (13, .aload_n 0, 1) (pgm 9 rfl)) rfl rfl ?_
  refine so_callV (n := 0) (As := []) X (ct_X1_all l this hh12 hk) hk (by decide) rfl lk_1445 lk_1438 lk_1439 lk_131 lk_1440 (by decide +kernel) rfl rfl rfl (rm_ok (by omega) (by decide)) ⟨Nat.zero_le _, Nat.zero_le _⟩ (Nat.le_of_ble_eq_true rfl) (dkX1_heldIn (14, .invokevirtual 68, 3) (pgm 10 rfl)) (fun r7 h8 => ?_) rfl
  refine so_icmp_ge (tgt := 53) X (dkX1_heldIn (17, .if_icmp .ge 36, 3) (pgm 11 rfl)) rfl (fun _ => ?_) (fun _ => ?_)
  · refine so_iload_n (i := 2) X 2 (dkX1_heldIn (53, .iload_n 2, 1) (pgm 28 rfl)) rfl rfl ?_
    exact so_iret X hr hlk (dkX1_heldIn (54, .ireturn, 1) (pgm 29 rfl))
  · refine so_aload_n (i := 0) X 0 (dkX1_heldIn (20, .aload_n 0, 1) (pgm 12 rfl)) rfl rfl ?_
    refine so_iload_n (i := 3) X 3 (dkX1_heldIn (21, .iload_n 3, 1) (pgm 13 rfl)) rfl rfl ?_
    refine so_callV (n := 1) (As := [.int s12.2]) X (ct_X1_plansOf l this s12.2 h8 hk) hk (by decide) rfl lk_1460 lk_1462 lk_51 lk_131 lk_1463 (by decide +kernel) rfl rfl rfl (rm_ok (by omega) (by decide)) ⟨Nat.zero_le _, Nat.zero_le _⟩ (Nat.le_of_ble_eq_true rfl) (dkX1_heldIn (22, .invokevirtual 79, 3) (pgm 14 rfl)) (fun r9 h10 => ?_) rfl
    refine so_istore (i := 4) X (dkX1_heldIn (25, .istore 4, 2) (pgm 15 rfl)) (by decide) (Lf := fun x11 => [(4, .int x11), (0, .ref this), (1, .int a1), (2, .int s12.1), (3, .int s12.2)]) (fun _ => rfl) (fun x11 => ?_)
    refine so_iload_n (i := 1) X 2 (dkX1_heldIn (27, .iload_n 1, 1) (pgm 16 rfl)) rfl rfl ?_
    refine so_join (jf := fun (t12 : Int32) (h13 : PH) => lt t12 (fun (x14 : Int32) => lt (s12.2 + Int32.ofInt 1) (fun (x15 : Int32) => rec12 (x14, x15) h13))) (fun (j : Int32 → PH → Option (Int32 × PH)) => ∀ (t12 : Int32) (h13 : PH), SWo (QM mkI below args s D cA ad A) p l e (rmd 2) s m args below meth c 0 0 5 D cA ad A 46 [(0, .ref this), (1, .int a1), (3, .int s12.2)] [.int t12] h13 (j t12 h13)) ?_ (fun j46 hj46 => ?_)
    · intro t12 h13
      refine so_istore_n (i := 2) X (dkX1_heldIn (46, .istore_n 2, 1) (pgm 25 rfl)) rfl (by decide) (Lf := fun x14 => [(2, .int x14), (0, .ref this), (1, .int a1), (3, .int s12.2)]) (fun _ => rfl) (fun x14 => ?_)
      refine so_iinc (i := 3) X 3 (dkX1_heldIn (47, .iinc 3 1, 3) (pgm 26 rfl)) rfl rfl (by decide) (Lf := fun x15 => [(3, .int x15), (2, .int x14), (0, .ref this), (1, .int a1)]) (fun _ => rfl) (fun x15 => ?_)
      refine so_goto (tgt := 12) X (dkX1_heldIn (50, .goto (-38), 3) (pgm 27 rfl)) rfl ?_
      exact so_pick X [2, 3, 1, 0] rfl (hrec12 (x14, x15) h13)
    refine so_if_eq (tgt := 40) X (dkX1_heldIn (28, .ifCond .eq 12, 3) (pgm 17 rfl)) rfl (fun _ => ?_) (fun _ => ?_)
    · refine so_iload_n (i := 2) X 3 (dkX1_heldIn (40, .iload_n 2, 1) (pgm 22 rfl)) rfl rfl ?_
      refine so_iload (i := 4) X 0 (dkX1_heldIn (41, .iload 4, 2) (pgm 23 rfl)) rfl ?_
      refine so_mmin X lk_1465 lk_904 lk_135 lk_905 (Nat.le_of_ble_eq_true rfl) (Nat.le_of_ble_eq_true rfl) ⟨Nat.zero_le _, Nat.zero_le _⟩ (dkX1_heldIn (43, .invokestatic 88, 3) (pgm 24 rfl)) ?_
      exact so_pick X [1, 2, 4] rfl (hj46 (if x11 < s12.1 then x11 else s12.1) h10)
    · refine so_iload_n (i := 2) X 3 (dkX1_heldIn (31, .iload_n 2, 1) (pgm 18 rfl)) rfl rfl ?_
      refine so_iload (i := 4) X 0 (dkX1_heldIn (32, .iload 4, 2) (pgm 19 rfl)) rfl ?_
      refine so_mmax X lk_1464 lk_901 lk_135 lk_902 (Nat.le_of_ble_eq_true rfl) (Nat.le_of_ble_eq_true rfl) ⟨Nat.zero_le _, Nat.zero_le _⟩ (dkX1_heldIn (34, .invokestatic 82, 3) (pgm 20 rfl)) ?_
      refine so_goto (tgt := 46) X (dkX1_heldIn (37, .goto 9, 3) (pgm 21 rfl)) rfl ?_
      exact so_pick X [1, 2, 4] rfl (hj46 (if s12.1 < x11 then x11 else s12.1) h10)
def pgX2_spread : List (Nat × Instr × Nat) := [(0, .iconst 0, 1), (1, .istore_n 1, 1), (2, .iload_n 1, 1), (3, .aload_n 0, 1), (4, .getfield 21, 3), (7, .getfield 77, 3), (10, .if_icmp .ge 63, 3), (13, .iconst 0, 1), (14, .istore_n 2, 1), (15, .iload_n 2, 1), (16, .iconst 1, 1), (17, .aload_n 0, 1), (18, .getfield 21, 3), (21, .getfield 77, 3), (24, .ishl, 1), (25, .if_icmp .ge 42, 3), (28, .iload_n 2, 1), (29, .iload_n 1, 1), (30, .ishr, 1), (31, .iconst 1, 1), (32, .iand, 1), (33, .ifCond .ne 28, 3), (36, .aload_n 0, 1), (37, .getfield 15, 3), (40, .iload_n 2, 1), (41, .aload_n 0, 1), (42, .getfield 15, 3), (45, .iload_n 2, 1), (46, .iaload, 1), (47, .aload_n 0, 1), (48, .getfield 15, 3), (51, .iload_n 2, 1), (52, .iconst 1, 1), (53, .iload_n 1, 1), (54, .ishl, 1), (55, .ior, 1), (56, .iaload, 1), (57, .invokestatic 71, 3), (60, .iastore, 1), (61, .iinc 2 1, 3), (64, .goto (-49), 3), (67, .iinc 1 1, 3), (70, .goto (-68), 3), (73, .return_, 1)]
theorem dkX2_spread : ∀ q ∈ pgX2_spread, decode cX2_spread q.1 = .ok q.2 := by decide +kernel
def b_X2_spread_15 (this : Nat) (s2 : Int32) (j67 : PH → Option (Unit × PH)) (rec15 : (Int32) → PH → Option (Unit × PH)) (s15 : Int32) (hh15 : PH) : Option (Unit × PH) :=
  if ((1 : Int32) <<< ((hh15.1 (rt this 0) 5) &&& 31)) ≤ s15 then (j67 hh15) else (lt (fun (h5 : PH) => lt (s15 + Int32.ofInt 1) (fun (x6 : Int32) => rec15 x6 h5)) (fun (j61 : PH → Option (Unit × PH)) => if ((s15 >>> (s2 &&& 31)) &&& (1 : Int32)) = 0 then (ldI hh15 (rt this 5) 1024 s15 (fun (x7 : Int32) => ldI hh15 (rt this 5) 1024 (s15 ||| ((1 : Int32) <<< (s2 &&& 31))) (fun (x8 : Int32) => cb (f_X2_lesser x7 x8 hh15) (fun (r9 : Int32) (h10 : PH) => stI h10 (rt this 5) 1024 s15 r9 (fun (h11 : PH) => j61 h11))))) else (j61 hh15)))
def b_X2_spread_2 (this : Nat) (rec2 : (Int32) → PH → Option (Unit × PH)) (s2 : Int32) (hh2 : PH) : Option (Unit × PH) :=
  if (hh2.1 (rt this 0) 5) ≤ s2 then (some ((), hh2)) else (lt (0 : Int32) (fun (x2 : Int32) => lt (fun (h3 : PH) => lt (s2 + Int32.ofInt 1) (fun (x4 : Int32) => rec2 x4 h3)) (fun (j67 : PH → Option (Unit × PH)) => lp (b_X2_spread_15 this s2 j67) FU x2 hh2)))
def f_X2_spread (this : Nat) (h0 : PH) : Option (Unit × PH) :=
  lt (0 : Int32) (fun (x1 : Int32) => lp (b_X2_spread_2 this) FU x1 h0)
set_option maxRecDepth 100000 in
set_option maxHeartbeats 4000000 in
theorem ct_X2_spread (l : Launch) (this : Nat) (h0 : PH) (hk : (kd this).1 = 2) : CT mkV l yX2_spread cX2_spread 3 none (rmd 2) [.ref this] h0 (f_X2_spread this h0) := by
  refine ct_of (by decide) (Nat.le_of_ble_eq_true rfl) ?_
  intro p e s m args below meth c D cA ad A X hr hlk
  have X : Cx p s m args c RX2 cX2_spread 3 D cA ad A := X
  unfold f_X2_spread
  refine so_pick (L' := [(0, .ref this)]) X [0] rfl ?_
  refine so_iconst (v := (0 : Int32)) X (dkX2_spread (0, .iconst 0, 1) (pgm 0 rfl)) ic_0 ?_
  refine so_istore_n (i := 1) X (dkX2_spread (1, .istore_n 1, 1) (pgm 1 rfl)) rfl (by decide) (Lf := fun x1 => [(1, .int x1), (0, .ref this)]) (fun _ => rfl) (fun x1 => ?_)
  refine so_pick (L' := [(0, .ref this), (1, .int x1)]) X [1, 0] rfl ?_
  refine so_loop (body := b_X2_spread_2 this) (fun (s2 : Int32) => [(0, .ref this), (1, .int s2)]) (fun rec2 hrec2 s2 hh2 => ?_) FU x1 h0
  unfold b_X2_spread_2
  refine so_iload_n (i := 1) X 1 (dkX2_spread (2, .iload_n 1, 1) (pgm 2 rfl)) rfl rfl ?_
  refine so_aload_n (i := 0) X 0 (dkX2_spread (3, .aload_n 0, 1) (pgm 3 rfl)) rfl rfl ?_
  refine sf_getR X ff_2_0 lk_386 hk (dkX2_spread (4, .getfield 21, 3) (pgm 4 rfl)) ?_
  refine sf_getI X ff_8_5 lk_184 (fo (rk_2_0 this hk)) (dkX2_spread (7, .getfield 77, 3) (pgm 5 rfl)) ?_
  refine so_icmp_ge (tgt := 73) X (dkX2_spread (10, .if_icmp .ge 63, 3) (pgm 6 rfl)) rfl (fun _ => ?_) (fun _ => ?_)
  · exact so_vret X hr hlk (dkX2_spread (73, .return_, 1) (pgm 43 rfl))
  · refine so_iconst (v := (0 : Int32)) X (dkX2_spread (13, .iconst 0, 1) (pgm 7 rfl)) ic_0 ?_
    refine so_istore_n (i := 2) X (dkX2_spread (14, .istore_n 2, 1) (pgm 8 rfl)) rfl (by decide) (Lf := fun x2 => [(2, .int x2), (0, .ref this), (1, .int s2)]) (fun _ => rfl) (fun x2 => ?_)
    refine so_join (jf := fun (h3 : PH) => lt (s2 + Int32.ofInt 1) (fun (x4 : Int32) => rec2 x4 h3)) (fun (j : PH → Option (Unit × PH)) => ∀  (h3 : PH), SWo (QM mkV below args s D cA ad A) p l e (rmd 2) s m args below meth c 0 0 3 D cA ad A 67 [(0, .ref this), (1, .int s2)] [] h3 (j h3)) ?_ (fun j67 hj67 => ?_)
    · intro h3
      refine so_iinc (i := 1) X 1 (dkX2_spread (67, .iinc 1 1, 3) (pgm 41 rfl)) rfl rfl (by decide) (Lf := fun x4 => [(1, .int x4), (0, .ref this)]) (fun _ => rfl) (fun x4 => ?_)
      refine so_goto (tgt := 2) X (dkX2_spread (70, .goto (-68), 3) (pgm 42 rfl)) rfl ?_
      exact so_pick X [1, 0] rfl (hrec2 x4 h3)
    refine so_pick (L' := [(0, .ref this), (1, .int s2), (2, .int x2)]) X [1, 2, 0] rfl ?_
    refine so_loop (body := b_X2_spread_15 this s2 j67) (fun (s15 : Int32) => [(0, .ref this), (1, .int s2), (2, .int s15)]) (fun rec15 hrec15 s15 hh15 => ?_) FU x2 hh2
    unfold b_X2_spread_15
    refine so_iload_n (i := 2) X 2 (dkX2_spread (15, .iload_n 2, 1) (pgm 9 rfl)) rfl rfl ?_
    refine so_iconst (v := (1 : Int32)) X (dkX2_spread (16, .iconst 1, 1) (pgm 10 rfl)) ic_1 ?_
    refine so_aload_n (i := 0) X 0 (dkX2_spread (17, .aload_n 0, 1) (pgm 11 rfl)) rfl rfl ?_
    refine sf_getR X ff_2_0 lk_386 hk (dkX2_spread (18, .getfield 21, 3) (pgm 12 rfl)) ?_
    refine sf_getI X ff_8_5 lk_184 (fo (rk_2_0 this hk)) (dkX2_spread (21, .getfield 77, 3) (pgm 13 rfl)) ?_
    refine so_ishl X (dkX2_spread (24, .ishl, 1) (pgm 14 rfl)) ?_
    refine so_icmp_ge (tgt := 67) X (dkX2_spread (25, .if_icmp .ge 42, 3) (pgm 15 rfl)) rfl (fun _ => ?_) (fun _ => ?_)
    · exact so_pick X [0, 1] rfl (hj67 hh15)
    · refine so_iload_n (i := 2) X 2 (dkX2_spread (28, .iload_n 2, 1) (pgm 16 rfl)) rfl rfl ?_
      refine so_iload_n (i := 1) X 1 (dkX2_spread (29, .iload_n 1, 1) (pgm 17 rfl)) rfl rfl ?_
      refine so_ishr X (dkX2_spread (30, .ishr, 1) (pgm 18 rfl)) ?_
      refine so_iconst (v := (1 : Int32)) X (dkX2_spread (31, .iconst 1, 1) (pgm 19 rfl)) ic_1 ?_
      refine so_iand X (dkX2_spread (32, .iand, 1) (pgm 20 rfl)) ?_
      refine so_join (jf := fun (h5 : PH) => lt (s15 + Int32.ofInt 1) (fun (x6 : Int32) => rec15 x6 h5)) (fun (j : PH → Option (Unit × PH)) => ∀  (h5 : PH), SWo (QM mkV below args s D cA ad A) p l e (rmd 2) s m args below meth c 0 0 3 D cA ad A 61 [(0, .ref this), (1, .int s2), (2, .int s15)] [] h5 (j h5)) ?_ (fun j61 hj61 => ?_)
      · intro h5
        refine so_iinc (i := 2) X 2 (dkX2_spread (61, .iinc 2 1, 3) (pgm 39 rfl)) rfl rfl (by decide) (Lf := fun x6 => [(2, .int x6), (0, .ref this), (1, .int s2)]) (fun _ => rfl) (fun x6 => ?_)
        refine so_goto (tgt := 15) X (dkX2_spread (64, .goto (-49), 3) (pgm 40 rfl)) rfl ?_
        exact so_pick X [1, 2, 0] rfl (hrec15 x6 h5)
      refine so_if_ne (tgt := 61) X (dkX2_spread (33, .ifCond .ne 28, 3) (pgm 21 rfl)) rfl (fun _ => ?_) (fun _ => ?_)
      · exact so_pick X [0, 1, 2] rfl (hj61 hh15)
      · refine so_aload_n (i := 0) X 0 (dkX2_spread (36, .aload_n 0, 1) (pgm 22 rfl)) rfl rfl ?_
        refine sf_getR X ff_2_5 lk_395 hk (dkX2_spread (37, .getfield 15, 3) (pgm 23 rfl)) ?_
        refine so_iload_n (i := 2) X 2 (dkX2_spread (40, .iload_n 2, 1) (pgm 24 rfl)) rfl rfl ?_
        refine so_aload_n (i := 0) X 0 (dkX2_spread (41, .aload_n 0, 1) (pgm 25 rfl)) rfl rfl ?_
        refine sf_getR X ff_2_5 lk_395 hk (dkX2_spread (42, .getfield 15, 3) (pgm 26 rfl)) ?_
        refine so_iload_n (i := 2) X 2 (dkX2_spread (45, .iload_n 2, 1) (pgm 27 rfl)) rfl rfl ?_
        refine so_iald X (rk_2_5 this hk) (dkX2_spread (46, .iaload, 1) (pgm 28 rfl)) (fun x7 => ?_)
        refine so_aload_n (i := 0) X 0 (dkX2_spread (47, .aload_n 0, 1) (pgm 29 rfl)) rfl rfl ?_
        refine sf_getR X ff_2_5 lk_395 hk (dkX2_spread (48, .getfield 15, 3) (pgm 30 rfl)) ?_
        refine so_iload_n (i := 2) X 2 (dkX2_spread (51, .iload_n 2, 1) (pgm 31 rfl)) rfl rfl ?_
        refine so_iconst (v := (1 : Int32)) X (dkX2_spread (52, .iconst 1, 1) (pgm 32 rfl)) ic_1 ?_
        refine so_iload_n (i := 1) X 1 (dkX2_spread (53, .iload_n 1, 1) (pgm 33 rfl)) rfl rfl ?_
        refine so_ishl X (dkX2_spread (54, .ishl, 1) (pgm 34 rfl)) ?_
        refine so_ior X (dkX2_spread (55, .ior, 1) (pgm 35 rfl)) ?_
        refine so_iald X (rk_2_5 this hk) (dkX2_spread (56, .iaload, 1) (pgm 36 rfl)) (fun x8 => ?_)
        refine so_callS (n := 2) (As := [.int x7, .int x8]) X (ct_X2_lesser l x7 x8 hh15 ) lk_680 lk_681 lk_128 lk_682 (by decide +kernel) rfl rfl rfl (rm_ok (by omega) (by decide)) ⟨Nat.zero_le _, Nat.zero_le _⟩ (Nat.le_of_ble_eq_true rfl) (dkX2_spread (57, .invokestatic 71, 3) (pgm 37 rfl)) (fun r9 h10 => ?_) rfl
        refine so_iast X (rk_2_5 this hk) (dkX2_spread (60, .iastore, 1) (pgm 38 rfl)) (fun h11 => ?_)
        exact so_pick X [0, 1, 2] rfl (hj61 h11)
def pgX3_at : List (Nat × Instr × Nat) := [(0, .aload_n 0, 1), (1, .getfield 9, 3), (4, .iload_n 1, 1), (5, .iaload, 1), (6, .iconst (-1), 1), (7, .if_icmp .ne 42, 3), (10, .iconst 0, 1), (11, .istore_n 2, 1), (12, .iconst 0, 1), (13, .istore_n 3, 1), (14, .iload_n 3, 1), (15, .aload_n 0, 1), (16, .getfield 18, 3), (19, .getfield 28, 3), (22, .if_icmp .ge 20, 3), (25, .iload_n 2, 1), (26, .aload_n 0, 1), (27, .iload_n 3, 1), (28, .iload_n 1, 1), (29, .invokevirtual 34, 3), (32, .iload_n 3, 1), (33, .ishl, 1), (34, .ior, 1), (35, .istore_n 2, 1), (36, .iinc 3 1, 3), (39, .goto (-25), 3), (42, .aload_n 0, 1), (43, .getfield 9, 3), (46, .iload_n 1, 1), (47, .iload_n 2, 1), (48, .iastore, 1), (49, .aload_n 0, 1), (50, .getfield 9, 3), (53, .iload_n 1, 1), (54, .iaload, 1), (55, .ireturn, 1)]
theorem dkX3_at : ∀ q ∈ pgX3_at, decode cX3_at q.1 = .ok q.2 := by decide +kernel
def b_X3_at_14 (this : Nat) (a1 : Int32) (j42 : Int32 → PH → Option (Int32 × PH)) (rec14 : (Int32 × Int32) → PH → Option (Int32 × PH)) (s14 : Int32 × Int32) (hh14 : PH) : Option (Int32 × PH) :=
  if (hh14.1 (rt this 0) 5) ≤ s14.2 then (j42 s14.1 hh14) else (cb (f_X3_truthOf this s14.2 a1 hh14) (fun (r9 : Int32) (h10 : PH) => lt (s14.1 ||| (r9 <<< (s14.2 &&& 31))) (fun (x11 : Int32) => lt (s14.2 + Int32.ofInt 1) (fun (x12 : Int32) => rec14 (x11, x12) h10))))
def f_X3_at (this : Nat) (a1 : Int32) (h0 : PH) : Option (Int32 × PH) :=
  ldI h0 (rt this 1) 4096 a1 (fun (x1 : Int32) => lt (fun (h2 : PH) => ldI h2 (rt this 1) 4096 a1 (fun (x3 : Int32) => some (x3, h2))) (fun (j49 : PH → Option (Int32 × PH)) => if x1 = (-1 : Int32) then (lt (0 : Int32) (fun (x4 : Int32) => lt (0 : Int32) (fun (x5 : Int32) => lt (fun (y6 : Int32) (h7 : PH) => stI h7 (rt this 1) 4096 a1 y6 (fun (h8 : PH) => j49 h8)) (fun (j42 : Int32 → PH → Option (Int32 × PH)) => lp (b_X3_at_14 this a1 j42) FU (x4, x5) h0)))) else (j49 h0)))
set_option maxRecDepth 100000 in
set_option maxHeartbeats 4000000 in
theorem ct_X3_at (l : Launch) (this : Nat) (a1 : Int32) (h0 : PH) (hk : (kd this).1 = 3) : CT mkI l yX3_at cX3_at 4 (some .int) (rmd 2) [.ref this, .int a1] h0 (f_X3_at this a1 h0) := by
  refine ct_of (by decide) (Nat.le_of_ble_eq_true rfl) ?_
  intro p e s m args below meth c D cA ad A X hr hlk
  have X : Cx p s m args c RX3 cX3_at 4 D cA ad A := X
  unfold f_X3_at
  refine so_pick (L' := [(0, .ref this), (1, .int a1)]) X [0, 1] rfl ?_
  refine so_aload_n (i := 0) X 0 (dkX3_at (0, .aload_n 0, 1) (pgm 0 rfl)) rfl rfl ?_
  refine sf_getR X ff_3_1 lk_371 hk (dkX3_at (1, .getfield 9, 3) (pgm 1 rfl)) ?_
  refine so_iload_n (i := 1) X 1 (dkX3_at (4, .iload_n 1, 1) (pgm 2 rfl)) rfl rfl ?_
  refine so_iald X (rk_3_1 this hk) (dkX3_at (5, .iaload, 1) (pgm 3 rfl)) (fun x1 => ?_)
  refine so_iconst (v := (-1 : Int32)) X (dkX3_at (6, .iconst (-1), 1) (pgm 4 rfl)) ic_m1 ?_
  refine so_join (jf := fun (h2 : PH) => ldI h2 (rt this 1) 4096 a1 (fun (x3 : Int32) => some (x3, h2))) (fun (j : PH → Option (Int32 × PH)) => ∀  (h2 : PH), SWo (QM mkI below args s D cA ad A) p l e (rmd 2) s m args below meth c 0 0 4 D cA ad A 49 [(0, .ref this), (1, .int a1)] [] h2 (j h2)) ?_ (fun j49 hj49 => ?_)
  · intro h2
    refine so_aload_n (i := 0) X 0 (dkX3_at (49, .aload_n 0, 1) (pgm 31 rfl)) rfl rfl ?_
    refine sf_getR X ff_3_1 lk_371 hk (dkX3_at (50, .getfield 9, 3) (pgm 32 rfl)) ?_
    refine so_iload_n (i := 1) X 1 (dkX3_at (53, .iload_n 1, 1) (pgm 33 rfl)) rfl rfl ?_
    refine so_iald X (rk_3_1 this hk) (dkX3_at (54, .iaload, 1) (pgm 34 rfl)) (fun x3 => ?_)
    exact so_iret X hr hlk (dkX3_at (55, .ireturn, 1) (pgm 35 rfl))
  refine so_icmp_ne (tgt := 49) X (dkX3_at (7, .if_icmp .ne 42, 3) (pgm 5 rfl)) rfl (fun _ => ?_) (fun _ => ?_)
  · exact so_pick X [0, 1] rfl (hj49 h0)
  · refine so_iconst (v := (0 : Int32)) X (dkX3_at (10, .iconst 0, 1) (pgm 6 rfl)) ic_0 ?_
    refine so_istore_n (i := 2) X (dkX3_at (11, .istore_n 2, 1) (pgm 7 rfl)) rfl (by decide) (Lf := fun x4 => [(2, .int x4), (0, .ref this), (1, .int a1)]) (fun _ => rfl) (fun x4 => ?_)
    refine so_iconst (v := (0 : Int32)) X (dkX3_at (12, .iconst 0, 1) (pgm 8 rfl)) ic_0 ?_
    refine so_istore_n (i := 3) X (dkX3_at (13, .istore_n 3, 1) (pgm 9 rfl)) rfl (by decide) (Lf := fun x5 => [(3, .int x5), (2, .int x4), (0, .ref this), (1, .int a1)]) (fun _ => rfl) (fun x5 => ?_)
    refine so_join (jf := fun (y6 : Int32) (h7 : PH) => stI h7 (rt this 1) 4096 a1 y6 (fun (h8 : PH) => j49 h8)) (fun (j : Int32 → PH → Option (Int32 × PH)) => ∀ (y6 : Int32) (h7 : PH), SWo (QM mkI below args s D cA ad A) p l e (rmd 2) s m args below meth c 0 0 4 D cA ad A 42 [(0, .ref this), (1, .int a1), (2, .int y6)] [] h7 (j y6 h7)) ?_ (fun j42 hj42 => ?_)
    · intro y6 h7
      refine so_aload_n (i := 0) X 0 (dkX3_at (42, .aload_n 0, 1) (pgm 26 rfl)) rfl rfl ?_
      refine sf_getR X ff_3_1 lk_371 hk (dkX3_at (43, .getfield 9, 3) (pgm 27 rfl)) ?_
      refine so_iload_n (i := 1) X 1 (dkX3_at (46, .iload_n 1, 1) (pgm 28 rfl)) rfl rfl ?_
      refine so_iload_n (i := 2) X 2 (dkX3_at (47, .iload_n 2, 1) (pgm 29 rfl)) rfl rfl ?_
      refine so_iast X (rk_3_1 this hk) (dkX3_at (48, .iastore, 1) (pgm 30 rfl)) (fun h8 => ?_)
      exact so_pick X [0, 1] rfl (hj49 h8)
    refine so_pick (L' := [(0, .ref this), (1, .int a1), (2, .int x4), (3, .int x5)]) X [2, 3, 1, 0] rfl ?_
    refine so_loop (body := b_X3_at_14 this a1 j42) (fun (s14 : Int32 × Int32) => [(0, .ref this), (1, .int a1), (2, .int s14.1), (3, .int s14.2)]) (fun rec14 hrec14 s14 hh14 => ?_) FU (x4, x5) h0
    unfold b_X3_at_14
    refine so_iload_n (i := 3) X 3 (dkX3_at (14, .iload_n 3, 1) (pgm 10 rfl)) rfl rfl ?_
    refine so_aload_n (i := 0) X 0 (dkX3_at (15, .aload_n 0, 1) (pgm 11 rfl)) rfl rfl ?_
    refine sf_getR X ff_3_0 lk_370 hk (dkX3_at (16, .getfield 18, 3) (pgm 12 rfl)) ?_
    refine sf_getI X ff_8_5 lk_181 (fo (rk_3_0 this hk)) (dkX3_at (19, .getfield 28, 3) (pgm 13 rfl)) ?_
    refine so_icmp_ge (tgt := 42) X (dkX3_at (22, .if_icmp .ge 20, 3) (pgm 14 rfl)) rfl (fun _ => ?_) (fun _ => ?_)
    · exact so_pick X [0, 1, 2] rfl (hj42 s14.1 hh14)
    · refine so_iload_n (i := 2) X 2 (dkX3_at (25, .iload_n 2, 1) (pgm 15 rfl)) rfl rfl ?_
      refine so_aload_n (i := 0) X 0 (dkX3_at (26, .aload_n 0, 1) (pgm 16 rfl)) rfl rfl ?_
      refine so_iload_n (i := 3) X 3 (dkX3_at (27, .iload_n 3, 1) (pgm 17 rfl)) rfl rfl ?_
      refine so_iload_n (i := 1) X 1 (dkX3_at (28, .iload_n 1, 1) (pgm 18 rfl)) rfl rfl ?_
      refine so_callV (n := 2) (As := [.int s14.2, .int a1]) X (ct_X3_truthOf l this s14.2 a1 hh14 hk) hk (by decide) rfl lk_648 lk_650 lk_1 lk_126 lk_651 (by decide +kernel) rfl rfl rfl (rm_ok (by omega) (by decide)) ⟨Nat.zero_le _, Nat.zero_le _⟩ (Nat.le_of_ble_eq_true rfl) (dkX3_at (29, .invokevirtual 34, 3) (pgm 19 rfl)) (fun r9 h10 => ?_) rfl
      refine so_iload_n (i := 3) X 3 (dkX3_at (32, .iload_n 3, 1) (pgm 20 rfl)) rfl rfl ?_
      refine so_ishl X (dkX3_at (33, .ishl, 1) (pgm 21 rfl)) ?_
      refine so_ior X (dkX3_at (34, .ior, 1) (pgm 22 rfl)) ?_
      refine so_istore_n (i := 2) X (dkX3_at (35, .istore_n 2, 1) (pgm 23 rfl)) rfl (by decide) (Lf := fun x11 => [(2, .int x11), (0, .ref this), (1, .int a1), (3, .int s14.2)]) (fun _ => rfl) (fun x11 => ?_)
      refine so_iinc (i := 3) X 3 (dkX3_at (36, .iinc 3 1, 3) (pgm 24 rfl)) rfl rfl (by decide) (Lf := fun x12 => [(3, .int x12), (2, .int x11), (0, .ref this), (1, .int a1)]) (fun _ => rfl) (fun x12 => ?_)
      refine so_goto (tgt := 14) X (dkX3_at (39, .goto (-25), 3) (pgm 25 rfl)) rfl ?_
      exact so_pick X [2, 3, 1, 0] rfl (hrec14 (x11, x12) h10)
def pgX3_weathersOf : List (Nat × Instr × Nat) := [(0, .iconst 0, 1), (1, .istore_n 2, 1), (2, .iconst 0, 1), (3, .istore_n 3, 1), (4, .iload_n 3, 1), (5, .aload_n 0, 1), (6, .getfield 18, 3), (9, .getfield 64, 3), (12, .if_icmp .gt 21, 3), (15, .iload_n 2, 1), (16, .aload_n 0, 1), (17, .iload_n 3, 1), (18, .invokevirtual 67, 3), (21, .iload_n 1, 1), (22, .ishr, 1), (23, .iconst 1, 1), (24, .iand, 1), (25, .iadd, 1), (26, .istore_n 2, 1), (27, .iinc 3 1, 3), (30, .goto (-26), 3), (33, .iload_n 2, 1), (34, .ireturn, 1)]
theorem dkX3_weathersOf : ∀ q ∈ pgX3_weathersOf, decode cX3_weathersOf q.1 = .ok q.2 := by decide +kernel
def b_X3_weathersOf_4 (this : Nat) (a1 : Int32) (rec4 : (Int32 × Int32) → PH → Option (Int32 × PH)) (s4 : Int32 × Int32) (hh4 : PH) : Option (Int32 × PH) :=
  if (hh4.1 (rt this 0) 8) < s4.2 then (some (s4.1, hh4)) else (cb (f_X3_at this s4.2 hh4) (fun (r3 : Int32) (h4 : PH) => lt (s4.1 + ((r3 >>> (a1 &&& 31)) &&& (1 : Int32))) (fun (x5 : Int32) => lt (s4.2 + Int32.ofInt 1) (fun (x6 : Int32) => rec4 (x5, x6) h4))))
def f_X3_weathersOf (this : Nat) (a1 : Int32) (h0 : PH) : Option (Int32 × PH) :=
  lt (0 : Int32) (fun (x1 : Int32) => lt (0 : Int32) (fun (x2 : Int32) => lp (b_X3_weathersOf_4 this a1) FU (x1, x2) h0))
set_option maxRecDepth 100000 in
set_option maxHeartbeats 4000000 in
theorem ct_X3_weathersOf (l : Launch) (this : Nat) (a1 : Int32) (h0 : PH) (hk : (kd this).1 = 3) : CT mkI l yX3_weathersOf cX3_weathersOf 4 (some .int) (rmd 3) [.ref this, .int a1] h0 (f_X3_weathersOf this a1 h0) := by
  refine ct_of (by decide) (Nat.le_of_ble_eq_true rfl) ?_
  intro p e s m args below meth c D cA ad A X hr hlk
  have X : Cx p s m args c RX3 cX3_weathersOf 4 D cA ad A := X
  unfold f_X3_weathersOf
  refine so_pick (L' := [(0, .ref this), (1, .int a1)]) X [0, 1] rfl ?_
  refine so_iconst (v := (0 : Int32)) X (dkX3_weathersOf (0, .iconst 0, 1) (pgm 0 rfl)) ic_0 ?_
  refine so_istore_n (i := 2) X (dkX3_weathersOf (1, .istore_n 2, 1) (pgm 1 rfl)) rfl (by decide) (Lf := fun x1 => [(2, .int x1), (0, .ref this), (1, .int a1)]) (fun _ => rfl) (fun x1 => ?_)
  refine so_iconst (v := (0 : Int32)) X (dkX3_weathersOf (2, .iconst 0, 1) (pgm 2 rfl)) ic_0 ?_
  refine so_istore_n (i := 3) X (dkX3_weathersOf (3, .istore_n 3, 1) (pgm 3 rfl)) rfl (by decide) (Lf := fun x2 => [(3, .int x2), (2, .int x1), (0, .ref this), (1, .int a1)]) (fun _ => rfl) (fun x2 => ?_)
  refine so_pick (L' := [(0, .ref this), (1, .int a1), (2, .int x1), (3, .int x2)]) X [2, 3, 1, 0] rfl ?_
  refine so_loop (body := b_X3_weathersOf_4 this a1) (fun (s4 : Int32 × Int32) => [(0, .ref this), (1, .int a1), (2, .int s4.1), (3, .int s4.2)]) (fun rec4 hrec4 s4 hh4 => ?_) FU (x1, x2) h0
  unfold b_X3_weathersOf_4
  refine so_iload_n (i := 3) X 3 (dkX3_weathersOf (4, .iload_n 3, 1) (pgm 4 rfl)) rfl rfl ?_
  refine so_aload_n (i := 0) X 0 (dkX3_weathersOf (5, .aload_n 0, 1) (pgm 5 rfl)) rfl rfl ?_
  refine sf_getR X ff_3_0 lk_370 hk (dkX3_weathersOf (6, .getfield 18, 3) (pgm 6 rfl)) ?_
  refine sf_getI X ff_8_8 lk_200 (fo (rk_3_0 this hk)) (dkX3_weathersOf (9, .getfield 64, 3) (pgm 7 rfl)) ?_
  refine so_icmp_gt (tgt := 33) X (dkX3_weathersOf (12, .if_icmp .gt 21, 3) (pgm 8 rfl)) rfl (fun _ => ?_) (fun _ => ?_)
  · refine so_iload_n (i := 2) X 2 (dkX3_weathersOf (33, .iload_n 2, 1) (pgm 21 rfl)) rfl rfl ?_
    exact so_iret X hr hlk (dkX3_weathersOf (34, .ireturn, 1) (pgm 22 rfl))
  · refine so_iload_n (i := 2) X 2 (dkX3_weathersOf (15, .iload_n 2, 1) (pgm 9 rfl)) rfl rfl ?_
    refine so_aload_n (i := 0) X 0 (dkX3_weathersOf (16, .aload_n 0, 1) (pgm 10 rfl)) rfl rfl ?_
    refine so_iload_n (i := 3) X 3 (dkX3_weathersOf (17, .iload_n 3, 1) (pgm 11 rfl)) rfl rfl ?_
    refine so_callV (n := 1) (As := [.int s4.2]) X (ct_X3_at l this s4.2 hh4 hk) hk (by decide) rfl lk_644 lk_645 lk_646 lk_126 lk_647 (by decide +kernel) rfl rfl rfl (rm_ok (by omega) (by decide)) ⟨Nat.zero_le _, Nat.zero_le _⟩ (Nat.le_of_ble_eq_true rfl) (dkX3_weathersOf (18, .invokevirtual 67, 3) (pgm 12 rfl)) (fun r3 h4 => ?_) rfl
    refine so_iload_n (i := 1) X 1 (dkX3_weathersOf (21, .iload_n 1, 1) (pgm 13 rfl)) rfl rfl ?_
    refine so_ishr X (dkX3_weathersOf (22, .ishr, 1) (pgm 14 rfl)) ?_
    refine so_iconst (v := (1 : Int32)) X (dkX3_weathersOf (23, .iconst 1, 1) (pgm 15 rfl)) ic_1 ?_
    refine so_iand X (dkX3_weathersOf (24, .iand, 1) (pgm 16 rfl)) ?_
    refine so_iadd X (dkX3_weathersOf (25, .iadd, 1) (pgm 17 rfl)) ?_
    refine so_istore_n (i := 2) X (dkX3_weathersOf (26, .istore_n 2, 1) (pgm 18 rfl)) rfl (by decide) (Lf := fun x5 => [(2, .int x5), (0, .ref this), (1, .int a1), (3, .int s4.2)]) (fun _ => rfl) (fun x5 => ?_)
    refine so_iinc (i := 3) X 3 (dkX3_weathersOf (27, .iinc 3 1, 3) (pgm 19 rfl)) rfl rfl (by decide) (Lf := fun x6 => [(3, .int x6), (2, .int x5), (0, .ref this), (1, .int a1)]) (fun _ => rfl) (fun x6 => ?_)
    refine so_goto (tgt := 4) X (dkX3_weathersOf (30, .goto (-26), 3) (pgm 20 rfl)) rfl ?_
    exact so_pick X [2, 3, 1, 0] rfl (hrec4 (x5, x6) h4)
def pgX3_grantedBy : List (Nat × Instr × Nat) := [(0, .aload_n 0, 1), (1, .aload_n 0, 1), (2, .getfield 18, 3), (5, .iload_n 1, 1), (6, .invokevirtual 70, 3), (9, .invokevirtual 67, 3), (12, .iload_n 2, 1), (13, .iand, 1), (14, .ireturn, 1)]
theorem dkX3_grantedBy : ∀ q ∈ pgX3_grantedBy, decode cX3_grantedBy q.1 = .ok q.2 := by decide +kernel
def f_X3_grantedBy (this : Nat) (a1 : Int32) (a2 : Int32) (h0 : PH) : Option (Int32 × PH) :=
  cb (f_X8_weatherOf (rt this 0) a1 h0) (fun (r1 : Int32) (h2 : PH) => cb (f_X3_at this r1 h2) (fun (r3 : Int32) (h4 : PH) => some ((r3 &&& a2), h4)))
set_option maxRecDepth 100000 in
set_option maxHeartbeats 4000000 in
theorem ct_X3_grantedBy (l : Launch) (this : Nat) (a1 : Int32) (a2 : Int32) (h0 : PH) (hk : (kd this).1 = 3) : CT mkI l yX3_grantedBy cX3_grantedBy 3 (some .int) (rmd 3) [.ref this, .int a1, .int a2] h0 (f_X3_grantedBy this a1 a2 h0) := by
  refine ct_of (by decide) (Nat.le_of_ble_eq_true rfl) ?_
  intro p e s m args below meth c D cA ad A X hr hlk
  have X : Cx p s m args c RX3 cX3_grantedBy 3 D cA ad A := X
  unfold f_X3_grantedBy
  refine so_pick (L' := [(0, .ref this), (1, .int a1), (2, .int a2)]) X [0, 1, 2] rfl ?_
  refine so_aload_n (i := 0) X 0 (dkX3_grantedBy (0, .aload_n 0, 1) (pgm 0 rfl)) rfl rfl ?_
  refine so_aload_n (i := 0) X 0 (dkX3_grantedBy (1, .aload_n 0, 1) (pgm 1 rfl)) rfl rfl ?_
  refine sf_getR X ff_3_0 lk_370 hk (dkX3_grantedBy (2, .getfield 18, 3) (pgm 2 rfl)) ?_
  refine so_iload_n (i := 1) X 1 (dkX3_grantedBy (5, .iload_n 1, 1) (pgm 3 rfl)) rfl rfl ?_
  refine so_callV (n := 1) (As := [.int a1]) X (ct_X8_weatherOf l (rt this 0) a1 h0 (fo (rk_3_0 this hk))) (fo (rk_3_0 this hk)) (by decide) rfl lk_640 lk_641 lk_642 lk_122 lk_643 (by decide +kernel) rfl rfl rfl (rm_ok (by omega) (by decide)) ⟨Nat.zero_le _, Nat.zero_le _⟩ (Nat.le_of_ble_eq_true rfl) (dkX3_grantedBy (6, .invokevirtual 70, 3) (pgm 4 rfl)) (fun r1 h2 => ?_) rfl
  refine so_callV (n := 1) (As := [.int r1]) X (ct_X3_at l this r1 h2 hk) hk (by decide) rfl lk_644 lk_645 lk_646 lk_126 lk_647 (by decide +kernel) rfl rfl rfl (rm_ok (by omega) (by decide)) ⟨Nat.zero_le _, Nat.zero_le _⟩ (Nat.le_of_ble_eq_true rfl) (dkX3_grantedBy (9, .invokevirtual 67, 3) (pgm 5 rfl)) (fun r3 h4 => ?_) rfl
  refine so_iload_n (i := 2) X 2 (dkX3_grantedBy (12, .iload_n 2, 1) (pgm 6 rfl)) rfl rfl ?_
  refine so_iand X (dkX3_grantedBy (13, .iand, 1) (pgm 7 rfl)) ?_
  exact so_iret X hr hlk (dkX3_grantedBy (14, .ireturn, 1) (pgm 8 rfl))
def pgX3_whyNot : List (Nat × Instr × Nat) := [(0, .lload_n 1, 1), (1, .lconst 0, 1), (2, .lcmp, 1), (3, .ifCond .lt 16, 3), (6, .lload_n 1, 1), (7, .aload_n 0, 1), (8, .getfield 18, 3), (11, .getfield 64, 3), (14, .i2l, 1), (15, .lcmp, 1), (16, .ifCond .le 5, 3), (19, .iconst 1, 1), (20, .ireturn, 1), (21, .lload_n 1, 1), (22, .l2i, 1), (23, .invokestatic 44, 3), (26, .aload_n 0, 1), (27, .getfield 18, 3), (30, .getfield 73, 3), (33, .if_icmp .le 5, 3), (36, .iconst 2, 1), (37, .ireturn, 1), (38, .aload_n 0, 1), (39, .getfield 18, 3), (42, .getfield 76, 3), (45, .iload_n 3, 1), (46, .iand, 1), (47, .istore 4, 2), (49, .iload 4, 2), (51, .ifCond .eq 24, 3), (54, .iload 4, 2), (56, .aload_n 0, 1), (57, .aload_n 0, 1), (58, .getfield 18, 3), (61, .lload_n 1, 1), (62, .l2i, 1), (63, .invokevirtual 70, 3), (66, .invokevirtual 67, 3), (69, .iconst (-1), 1), (70, .ixor, 1), (71, .iand, 1), (72, .ifCond .ne 7, 3), (75, .iconst 0, 1), (76, .goto 4, 3), (79, .iconst 3, 1), (80, .ireturn, 1)]
theorem dkX3_whyNot : ∀ q ∈ pgX3_whyNot, decode cX3_whyNot q.1 = .ok q.2 := by decide +kernel
def f_X3_whyNot (this : Nat) (a1 : Int64) (a2 : Int32) (h0 : PH) : Option (Int32 × PH) :=
  lt (fun (h1 : PH) => some ((1 : Int32), h1)) (fun (j19 : PH → Option (Int32 × PH)) => if (lg_cmp a1 (0 : Int64)) < 0 then (j19 h0) else (if (lg_cmp a1 ((h0.1 (rt this 0) 8).toInt64)) ≤ 0 then (cb (f_J6_bitCount_0f7a4 a1.toInt32 h0) (fun (r2 : Int32) (h3 : PH) => if r2 ≤ (h3.1 (rt this 0) 3) then (lt ((h3.1 (rt this 0) 6) &&& a2) (fun (x4 : Int32) => lt (fun (t5 : Int32) (h6 : PH) => some (t5, h6)) (fun (j80 : Int32 → PH → Option (Int32 × PH)) => lt (fun (h7 : PH) => j80 (0 : Int32) h7) (fun (j75 : PH → Option (Int32 × PH)) => if x4 = 0 then (j75 h3) else (cb (f_X8_weatherOf (rt this 0) a1.toInt32 h3) (fun (r8 : Int32) (h9 : PH) => cb (f_X3_at this r8 h9) (fun (r10 : Int32) (h11 : PH) => if (x4 &&& (r10 ^^^ (-1 : Int32))) = 0 then (j75 h11) else (j80 (3 : Int32) h11)))))))) else (some ((2 : Int32), h3)))) else (j19 h0)))
set_option maxRecDepth 100000 in
set_option maxHeartbeats 4000000 in
theorem ct_X3_whyNot (l : Launch) (this : Nat) (a1 : Int64) (a2 : Int32) (h0 : PH) (hk : (kd this).1 = 3) : CT mkI l yX3_whyNot cX3_whyNot 5 (some .int) (rmd 3) [.ref this, .long a1, .int a2] h0 (f_X3_whyNot this a1 a2 h0) := by
  refine ct_of (by decide) (Nat.le_of_ble_eq_true rfl) ?_
  intro p e s m args below meth c D cA ad A X hr hlk
  have X : Cx p s m args c RX3 cX3_whyNot 5 D cA ad A := X
  unfold f_X3_whyNot
  refine so_pick (L' := [(0, .ref this), (1, .long a1), (3, .int a2)]) X [0, 1, 2] rfl ?_
  refine so_lload_n (i := 1) X 1 (dkX3_whyNot (0, .lload_n 1, 1) (pgm 0 rfl)) rfl rfl ?_
  refine so_lconst (v := (0 : Int64)) X (dkX3_whyNot (1, .lconst 0, 1) (pgm 1 rfl)) lc_0 ?_
  refine so_lcmp X (dkX3_whyNot (2, .lcmp, 1) (pgm 2 rfl)) ?_
  refine so_join (jf := fun (h1 : PH) => some ((1 : Int32), h1)) (fun (j : PH → Option (Int32 × PH)) => ∀  (h1 : PH), SWo (QM mkI below args s D cA ad A) p l e (rmd 3) s m args below meth c 0 0 5 D cA ad A 19 [] [] h1 (j h1)) ?_ (fun j19 hj19 => ?_)
  · intro h1
    refine so_iconst (v := (1 : Int32)) X (dkX3_whyNot (19, .iconst 1, 1) (pgm 11 rfl)) ic_1 ?_
    exact so_iret X hr hlk (dkX3_whyNot (20, .ireturn, 1) (pgm 12 rfl))
  refine so_if_lt (tgt := 19) X (dkX3_whyNot (3, .ifCond .lt 16, 3) (pgm 3 rfl)) rfl (fun _ => ?_) (fun _ => ?_)
  · exact so_pick X [] rfl (hj19 h0)
  · refine so_lload_n (i := 1) X 1 (dkX3_whyNot (6, .lload_n 1, 1) (pgm 4 rfl)) rfl rfl ?_
    refine so_aload_n (i := 0) X 0 (dkX3_whyNot (7, .aload_n 0, 1) (pgm 5 rfl)) rfl rfl ?_
    refine sf_getR X ff_3_0 lk_370 hk (dkX3_whyNot (8, .getfield 18, 3) (pgm 6 rfl)) ?_
    refine sf_getI X ff_8_8 lk_200 (fo (rk_3_0 this hk)) (dkX3_whyNot (11, .getfield 64, 3) (pgm 7 rfl)) ?_
    refine so_i2l X (dkX3_whyNot (14, .i2l, 1) (pgm 8 rfl)) ?_
    refine so_lcmp X (dkX3_whyNot (15, .lcmp, 1) (pgm 9 rfl)) ?_
    refine so_if_le (tgt := 21) X (dkX3_whyNot (16, .ifCond .le 5, 3) (pgm 10 rfl)) rfl (fun _ => ?_) (fun _ => ?_)
    · refine so_lload_n (i := 1) X 1 (dkX3_whyNot (21, .lload_n 1, 1) (pgm 13 rfl)) rfl rfl ?_
      refine so_l2i X (dkX3_whyNot (22, .l2i, 1) (pgm 14 rfl)) ?_
      refine so_callS (n := 1) (As := [.int a1.toInt32]) X (ct_J6_bitCount_0f7a4 l a1.toInt32 h0 ) lk_634 lk_635 lk_147 lk_636 (by decide +kernel) rfl rfl rfl (rm_ok (by omega) (by decide)) ⟨Nat.zero_le _, Nat.zero_le _⟩ (Nat.le_of_ble_eq_true rfl) (dkX3_whyNot (23, .invokestatic 44, 3) (pgm 15 rfl)) (fun r2 h3 => ?_) rfl
      refine so_aload_n (i := 0) X 0 (dkX3_whyNot (26, .aload_n 0, 1) (pgm 16 rfl)) rfl rfl ?_
      refine sf_getR X ff_3_0 lk_370 hk (dkX3_whyNot (27, .getfield 18, 3) (pgm 17 rfl)) ?_
      refine sf_getI X ff_8_3 lk_175 (fo (rk_3_0 this hk)) (dkX3_whyNot (30, .getfield 73, 3) (pgm 18 rfl)) ?_
      refine so_icmp_le (tgt := 38) X (dkX3_whyNot (33, .if_icmp .le 5, 3) (pgm 19 rfl)) rfl (fun _ => ?_) (fun _ => ?_)
      · refine so_aload_n (i := 0) X 0 (dkX3_whyNot (38, .aload_n 0, 1) (pgm 22 rfl)) rfl rfl ?_
        refine sf_getR X ff_3_0 lk_370 hk (dkX3_whyNot (39, .getfield 18, 3) (pgm 23 rfl)) ?_
        refine sf_getI X ff_8_6 lk_189 (fo (rk_3_0 this hk)) (dkX3_whyNot (42, .getfield 76, 3) (pgm 24 rfl)) ?_
        refine so_iload_n (i := 3) X 2 (dkX3_whyNot (45, .iload_n 3, 1) (pgm 25 rfl)) rfl rfl ?_
        refine so_iand X (dkX3_whyNot (46, .iand, 1) (pgm 26 rfl)) ?_
        refine so_istore (i := 4) X (dkX3_whyNot (47, .istore 4, 2) (pgm 27 rfl)) (by decide) (Lf := fun x4 => [(4, .int x4), (0, .ref this), (1, .long a1), (3, .int a2)]) (fun _ => rfl) (fun x4 => ?_)
        refine so_iload (i := 4) X 0 (dkX3_whyNot (49, .iload 4, 2) (pgm 28 rfl)) rfl ?_
        refine so_join (jf := fun (t5 : Int32) (h6 : PH) => some (t5, h6)) (fun (j : Int32 → PH → Option (Int32 × PH)) => ∀ (t5 : Int32) (h6 : PH), SWo (QM mkI below args s D cA ad A) p l e (rmd 3) s m args below meth c 0 0 5 D cA ad A 80 [] [.int t5] h6 (j t5 h6)) ?_ (fun j80 hj80 => ?_)
        · intro t5 h6
          exact so_iret X hr hlk (dkX3_whyNot (80, .ireturn, 1) (pgm 45 rfl))
        refine so_join (jf := fun (h7 : PH) => j80 (0 : Int32) h7) (fun (j : PH → Option (Int32 × PH)) => ∀  (h7 : PH), SWo (QM mkI below args s D cA ad A) p l e (rmd 3) s m args below meth c 0 0 5 D cA ad A 75 [] [] h7 (j h7)) ?_ (fun j75 hj75 => ?_)
        · intro h7
          refine so_iconst (v := (0 : Int32)) X (dkX3_whyNot (75, .iconst 0, 1) (pgm 42 rfl)) ic_0 ?_
          refine so_goto (tgt := 80) X (dkX3_whyNot (76, .goto 4, 3) (pgm 43 rfl)) rfl ?_
          exact so_pick X [] rfl (hj80 (0 : Int32) h7)
        refine so_if_eq (tgt := 75) X (dkX3_whyNot (51, .ifCond .eq 24, 3) (pgm 29 rfl)) rfl (fun _ => ?_) (fun _ => ?_)
        · exact so_pick X [] rfl (hj75 h3)
        · refine so_iload (i := 4) X 0 (dkX3_whyNot (54, .iload 4, 2) (pgm 30 rfl)) rfl ?_
          refine so_aload_n (i := 0) X 1 (dkX3_whyNot (56, .aload_n 0, 1) (pgm 31 rfl)) rfl rfl ?_
          refine so_aload_n (i := 0) X 1 (dkX3_whyNot (57, .aload_n 0, 1) (pgm 32 rfl)) rfl rfl ?_
          refine sf_getR X ff_3_0 lk_370 hk (dkX3_whyNot (58, .getfield 18, 3) (pgm 33 rfl)) ?_
          refine so_lload_n (i := 1) X 2 (dkX3_whyNot (61, .lload_n 1, 1) (pgm 34 rfl)) rfl rfl ?_
          refine so_l2i X (dkX3_whyNot (62, .l2i, 1) (pgm 35 rfl)) ?_
          refine so_callV (n := 1) (As := [.int a1.toInt32]) X (ct_X8_weatherOf l (rt this 0) a1.toInt32 h3 (fo (rk_3_0 this hk))) (fo (rk_3_0 this hk)) (by decide) rfl lk_640 lk_641 lk_642 lk_122 lk_643 (by decide +kernel) rfl rfl rfl (rm_ok (by omega) (by decide)) ⟨Nat.zero_le _, Nat.zero_le _⟩ (Nat.le_of_ble_eq_true rfl) (dkX3_whyNot (63, .invokevirtual 70, 3) (pgm 36 rfl)) (fun r8 h9 => ?_) rfl
          refine so_callV (n := 1) (As := [.int r8]) X (ct_X3_at l this r8 h9 hk) hk (by decide) rfl lk_644 lk_645 lk_646 lk_126 lk_647 (by decide +kernel) rfl rfl rfl (rm_ok (by omega) (by decide)) ⟨Nat.zero_le _, Nat.zero_le _⟩ (Nat.le_of_ble_eq_true rfl) (dkX3_whyNot (66, .invokevirtual 67, 3) (pgm 37 rfl)) (fun r10 h11 => ?_) rfl
          refine so_iconst (v := (-1 : Int32)) X (dkX3_whyNot (69, .iconst (-1), 1) (pgm 38 rfl)) ic_m1 ?_
          refine so_ixor X (dkX3_whyNot (70, .ixor, 1) (pgm 39 rfl)) ?_
          refine so_iand X (dkX3_whyNot (71, .iand, 1) (pgm 40 rfl)) ?_
          refine so_if_ne (tgt := 79) X (dkX3_whyNot (72, .ifCond .ne 7, 3) (pgm 41 rfl)) rfl (fun _ => ?_) (fun _ => ?_)
          · refine so_iconst (v := (3 : Int32)) X (dkX3_whyNot (79, .iconst 3, 1) (pgm 44 rfl)) ic_3 ?_
            exact so_pick X [] rfl (hj80 (3 : Int32) h11)
          · exact so_pick X [] rfl (hj75 h11)
      · refine so_iconst (v := (2 : Int32)) X (dkX3_whyNot (36, .iconst 2, 1) (pgm 20 rfl)) ic_2 ?_
        exact so_iret X hr hlk (dkX3_whyNot (37, .ireturn, 1) (pgm 21 rfl))
    · exact so_pick X [] rfl (hj19 h0)
def pgX5_find : List (Nat × Instr × Nat) := [(0, .aload_n 0, 1), (1, .iconst 0, 1), (2, .putfield 35, 3), (5, .iconst 0, 1), (6, .istore_n 1, 1), (7, .iload_n 1, 1), (8, .iconst 3, 1), (9, .if_icmp .gt 29, 3), (12, .aload_n 0, 1), (13, .getfield 35, 3), (16, .ifCond .ne 22, 3), (19, .aload_n 0, 1), (20, .iload_n 1, 1), (21, .putfield 38, 3), (24, .aload_n 0, 1), (25, .iload_n 1, 1), (26, .iconst 0, 1), (27, .iconst 0, 1), (28, .iconst 0, 1), (29, .invokevirtual 41, 3), (32, .iinc 1 1, 3), (35, .goto (-28), 3), (38, .aload_n 0, 1), (39, .getfield 35, 3), (42, .ifCond .ne 13, 3), (45, .aload_n 0, 1), (46, .iconst (-1), 1), (47, .putfield 38, 3), (50, .aload_n 0, 1), (51, .iconst (-1), 1), (52, .putfield 35, 3), (55, .return_, 1)]
theorem dkX5_find : ∀ q ∈ pgX5_find, decode cX5_find q.1 = .ok q.2 := by decide +kernel
def b_X5_find_7 (this : Nat) (j38 : PH → Option (Unit × PH)) (rec7 : (Int32) → PH → Option (Unit × PH)) (s7 : Int32) (hh7 : PH) : Option (Unit × PH) :=
  if (3 : Int32) < s7 then (j38 hh7) else (if (hh7.1 this 6) = 0 then (lt (pI hh7 this 5 s7) (fun (h7 : PH) => cb (f_X5_search 8 this s7 (0 : Int32) (0 : Int32) (0 : Int32) h7) (fun (r8 : Unit) (h9 : PH) => lt (s7 + Int32.ofInt 1) (fun (x10 : Int32) => rec7 x10 h9)))) else (j38 hh7))
def f_X5_find (this : Nat) (h0 : PH) : Option (Unit × PH) :=
  lt (pI h0 this 6 (0 : Int32)) (fun (h1 : PH) => lt (0 : Int32) (fun (x2 : Int32) => lt (fun (h3 : PH) => lt (fun (h4 : PH) => some ((), h4)) (fun (j55 : PH → Option (Unit × PH)) => if (h3.1 this 6) = 0 then (lt (pI h3 this 5 (-1 : Int32)) (fun (h5 : PH) => lt (pI h5 this 6 (-1 : Int32)) (fun (h6 : PH) => j55 h6))) else (j55 h3))) (fun (j38 : PH → Option (Unit × PH)) => lp (b_X5_find_7 this j38) FU x2 h1)))
set_option maxRecDepth 100000 in
set_option maxHeartbeats 4000000 in
theorem ct_X5_find (l : Launch) (this : Nat) (h0 : PH) (hk : (kd this).1 = 5) : CT mkV l yX5_find cX5_find 2 none (rmd 9) [.ref this] h0 (f_X5_find this h0) := by
  refine ct_of (by decide) (Nat.le_of_ble_eq_true rfl) ?_
  intro p e s m args below meth c D cA ad A X hr hlk
  have X : Cx p s m args c RX5 cX5_find 2 D cA ad A := X
  unfold f_X5_find
  refine so_pick (L' := [(0, .ref this)]) X [0] rfl ?_
  refine so_aload_n (i := 0) X 0 (dkX5_find (0, .aload_n 0, 1) (pgm 0 rfl)) rfl rfl ?_
  refine so_iconst (v := (0 : Int32)) X (dkX5_find (1, .iconst 0, 1) (pgm 1 rfl)) ic_0 ?_
  refine sf_putI X ff_5_6 ft_5 rfl lk_464 hk rfl rfl (dkX5_find (2, .putfield 35, 3) (pgm 2 rfl)) (fun h1 => ?_)
  refine so_iconst (v := (0 : Int32)) X (dkX5_find (5, .iconst 0, 1) (pgm 3 rfl)) ic_0 ?_
  refine so_istore_n (i := 1) X (dkX5_find (6, .istore_n 1, 1) (pgm 4 rfl)) rfl (by decide) (Lf := fun x2 => [(1, .int x2), (0, .ref this)]) (fun _ => rfl) (fun x2 => ?_)
  refine so_join (jf := fun (h3 : PH) => lt (fun (h4 : PH) => some ((), h4)) (fun (j55 : PH → Option (Unit × PH)) => if (h3.1 this 6) = 0 then (lt (pI h3 this 5 (-1 : Int32)) (fun (h5 : PH) => lt (pI h5 this 6 (-1 : Int32)) (fun (h6 : PH) => j55 h6))) else (j55 h3))) (fun (j : PH → Option (Unit × PH)) => ∀  (h3 : PH), SWo (QM mkV below args s D cA ad A) p l e (rmd 9) s m args below meth c 0 0 2 D cA ad A 38 [(0, .ref this)] [] h3 (j h3)) ?_ (fun j38 hj38 => ?_)
  · intro h3
    refine so_aload_n (i := 0) X 0 (dkX5_find (38, .aload_n 0, 1) (pgm 22 rfl)) rfl rfl ?_
    refine sf_getI X ff_5_6 lk_464 hk (dkX5_find (39, .getfield 35, 3) (pgm 23 rfl)) ?_
    refine so_join (jf := fun (h4 : PH) => some ((), h4)) (fun (j : PH → Option (Unit × PH)) => ∀  (h4 : PH), SWo (QM mkV below args s D cA ad A) p l e (rmd 9) s m args below meth c 0 0 2 D cA ad A 55 [] [] h4 (j h4)) ?_ (fun j55 hj55 => ?_)
    · intro h4
      exact so_vret X hr hlk (dkX5_find (55, .return_, 1) (pgm 31 rfl))
    refine so_if_ne (tgt := 55) X (dkX5_find (42, .ifCond .ne 13, 3) (pgm 24 rfl)) rfl (fun _ => ?_) (fun _ => ?_)
    · exact so_pick X [] rfl (hj55 h3)
    · refine so_aload_n (i := 0) X 0 (dkX5_find (45, .aload_n 0, 1) (pgm 25 rfl)) rfl rfl ?_
      refine so_iconst (v := (-1 : Int32)) X (dkX5_find (46, .iconst (-1), 1) (pgm 26 rfl)) ic_m1 ?_
      refine sf_putI X ff_5_5 ft_5 rfl lk_462 hk rfl rfl (dkX5_find (47, .putfield 38, 3) (pgm 27 rfl)) (fun h5 => ?_)
      refine so_aload_n (i := 0) X 0 (dkX5_find (50, .aload_n 0, 1) (pgm 28 rfl)) rfl rfl ?_
      refine so_iconst (v := (-1 : Int32)) X (dkX5_find (51, .iconst (-1), 1) (pgm 29 rfl)) ic_m1 ?_
      refine sf_putI X ff_5_6 ft_5 rfl lk_464 hk rfl rfl (dkX5_find (52, .putfield 35, 3) (pgm 30 rfl)) (fun h6 => ?_)
      exact so_pick X [] rfl (hj55 h6)
  refine so_pick (L' := [(0, .ref this), (1, .int x2)]) X [1, 0] rfl ?_
  refine so_loop (body := b_X5_find_7 this j38) (fun (s7 : Int32) => [(0, .ref this), (1, .int s7)]) (fun rec7 hrec7 s7 hh7 => ?_) FU x2 h1
  unfold b_X5_find_7
  refine so_iload_n (i := 1) X 1 (dkX5_find (7, .iload_n 1, 1) (pgm 5 rfl)) rfl rfl ?_
  refine so_iconst (v := (3 : Int32)) X (dkX5_find (8, .iconst 3, 1) (pgm 6 rfl)) ic_3 ?_
  refine so_icmp_gt (tgt := 38) X (dkX5_find (9, .if_icmp .gt 29, 3) (pgm 7 rfl)) rfl (fun _ => ?_) (fun _ => ?_)
  · exact so_pick X [0] rfl (hj38 hh7)
  · refine so_aload_n (i := 0) X 0 (dkX5_find (12, .aload_n 0, 1) (pgm 8 rfl)) rfl rfl ?_
    refine sf_getI X ff_5_6 lk_464 hk (dkX5_find (13, .getfield 35, 3) (pgm 9 rfl)) ?_
    refine so_if_ne (tgt := 38) X (dkX5_find (16, .ifCond .ne 22, 3) (pgm 10 rfl)) rfl (fun _ => ?_) (fun _ => ?_)
    · exact so_pick X [0] rfl (hj38 hh7)
    · refine so_aload_n (i := 0) X 0 (dkX5_find (19, .aload_n 0, 1) (pgm 11 rfl)) rfl rfl ?_
      refine so_iload_n (i := 1) X 1 (dkX5_find (20, .iload_n 1, 1) (pgm 12 rfl)) rfl rfl ?_
      refine sf_putI X ff_5_5 ft_5 rfl lk_462 hk rfl rfl (dkX5_find (21, .putfield 38, 3) (pgm 13 rfl)) (fun h7 => ?_)
      refine so_aload_n (i := 0) X 0 (dkX5_find (24, .aload_n 0, 1) (pgm 14 rfl)) rfl rfl ?_
      refine so_iload_n (i := 1) X 1 (dkX5_find (25, .iload_n 1, 1) (pgm 15 rfl)) rfl rfl ?_
      refine so_iconst (v := (0 : Int32)) X (dkX5_find (26, .iconst 0, 1) (pgm 16 rfl)) ic_0 ?_
      refine so_iconst (v := (0 : Int32)) X (dkX5_find (27, .iconst 0, 1) (pgm 17 rfl)) ic_0 ?_
      refine so_iconst (v := (0 : Int32)) X (dkX5_find (28, .iconst 0, 1) (pgm 18 rfl)) ic_0 ?_
      refine so_callV (n := 4) (As := [.int s7, .int (0 : Int32), .int (0 : Int32), .int (0 : Int32)]) X (ct_X5_search l 8 this s7 (0 : Int32) (0 : Int32) (0 : Int32) h7 hk) hk (by decide) rfl lk_1393 lk_1395 lk_43 lk_130 lk_1396 (by decide +kernel) rfl rfl rfl (rm_ok (by omega) (by decide)) ⟨Nat.zero_le _, Nat.zero_le _⟩ (Nat.le_of_ble_eq_true rfl) (dkX5_find (29, .invokevirtual 41, 3) (pgm 19 rfl)) (fun r8 h9 => ?_) rfl
      refine so_iinc (i := 1) X 1 (dkX5_find (32, .iinc 1 1, 3) (pgm 20 rfl)) rfl rfl (by decide) (Lf := fun x10 => [(1, .int x10), (0, .ref this)]) (fun _ => rfl) (fun x10 => ?_)
      refine so_goto (tgt := 7) X (dkX5_find (35, .goto (-28), 3) (pgm 21 rfl)) rfl ?_
      exact so_pick X [1, 0] rfl (hrec7 x10 h9)
def pgX7_firstOf : List (Nat × Instr × Nat) := [(0, .iconst (-1), 1), (1, .istore_n 3, 1), (2, .iconst 0, 1), (3, .istore 4, 2), (5, .iconst 0, 1), (6, .istore 5, 2), (8, .iload 5, 2), (10, .aload_n 0, 1), (11, .getfield 18, 3), (14, .getfield 60, 3), (17, .if_icmp .ge 47, 3), (20, .iload_n 1, 1), (21, .iload 5, 2), (23, .ishr, 1), (24, .iconst 1, 1), (25, .iand, 1), (26, .iconst 1, 1), (27, .if_icmp .ne 31, 3), (30, .aload_n 0, 1), (31, .iload 5, 2), (33, .iload_n 2, 1), (34, .invokevirtual 72, 3), (37, .istore 6, 2), (39, .iload_n 3, 1), (40, .iconst (-1), 1), (41, .if_icmp .eq 10, 3), (44, .iload 6, 2), (46, .iload 4, 2), (48, .if_icmp .ge 10, 3), (51, .iload 5, 2), (53, .istore_n 3, 1), (54, .iload 6, 2), (56, .istore 4, 2), (58, .iinc 5 1, 3), (61, .goto (-53), 3), (64, .iload_n 3, 1), (65, .ireturn, 1)]
theorem dkX7_firstOf : ∀ q ∈ pgX7_firstOf, decode cX7_firstOf q.1 = .ok q.2 := by decide +kernel
def b_X7_firstOf_8 (this : Nat) (a1 : Int32) (a2 : Int32) (rec8 : (Int32 × Int32 × Int32) → PH → Option (Int32 × PH)) (s8 : Int32 × Int32 × Int32) (hh8 : PH) : Option (Int32 × PH) :=
  if (hh8.1 (rt this 0) 5) ≤ s8.2.2 then (some (s8.1, hh8)) else (lt (fun (y4 : Int32) (y5 : Int32) (h6 : PH) => lt (s8.2.2 + Int32.ofInt 1) (fun (x7 : Int32) => rec8 (y4, y5, x7) h6)) (fun (j58 : Int32 → Int32 → PH → Option (Int32 × PH)) => if ((a1 >>> (s8.2.2 &&& 31)) &&& (1 : Int32)) = (1 : Int32) then (cb (f_X7_turnOf this s8.2.2 a2 hh8) (fun (r8 : Int32) (h9 : PH) => lt r8 (fun (x10 : Int32) => lt (fun (h11 : PH) => lt s8.2.2 (fun (x12 : Int32) => lt x10 (fun (x13 : Int32) => j58 x12 x13 h11))) (fun (j51 : PH → Option (Int32 × PH)) => if s8.1 = (-1 : Int32) then (j51 h9) else (if s8.2.1 ≤ x10 then (j58 s8.1 s8.2.1 h9) else (j51 h9)))))) else (j58 s8.1 s8.2.1 hh8)))
def f_X7_firstOf (this : Nat) (a1 : Int32) (a2 : Int32) (h0 : PH) : Option (Int32 × PH) :=
  lt (-1 : Int32) (fun (x1 : Int32) => lt (0 : Int32) (fun (x2 : Int32) => lt (0 : Int32) (fun (x3 : Int32) => lp (b_X7_firstOf_8 this a1 a2) FU (x1, x2, x3) h0)))
set_option maxRecDepth 100000 in
set_option maxHeartbeats 4000000 in
theorem ct_X7_firstOf (l : Launch) (this : Nat) (a1 : Int32) (a2 : Int32) (h0 : PH) (hk : (kd this).1 = 7) : CT mkI l yX7_firstOf cX7_firstOf 7 (some .int) (rmd 2) [.ref this, .int a1, .int a2] h0 (f_X7_firstOf this a1 a2 h0) := by
  refine ct_of (by decide) (Nat.le_of_ble_eq_true rfl) ?_
  intro p e s m args below meth c D cA ad A X hr hlk
  have X : Cx p s m args c RX7 cX7_firstOf 7 D cA ad A := X
  unfold f_X7_firstOf
  refine so_pick (L' := [(0, .ref this), (1, .int a1), (2, .int a2)]) X [0, 1, 2] rfl ?_
  refine so_iconst (v := (-1 : Int32)) X (dkX7_firstOf (0, .iconst (-1), 1) (pgm 0 rfl)) ic_m1 ?_
  refine so_istore_n (i := 3) X (dkX7_firstOf (1, .istore_n 3, 1) (pgm 1 rfl)) rfl (by decide) (Lf := fun x1 => [(3, .int x1), (0, .ref this), (1, .int a1), (2, .int a2)]) (fun _ => rfl) (fun x1 => ?_)
  refine so_iconst (v := (0 : Int32)) X (dkX7_firstOf (2, .iconst 0, 1) (pgm 2 rfl)) ic_0 ?_
  refine so_istore (i := 4) X (dkX7_firstOf (3, .istore 4, 2) (pgm 3 rfl)) (by decide) (Lf := fun x2 => [(4, .int x2), (3, .int x1), (0, .ref this), (1, .int a1), (2, .int a2)]) (fun _ => rfl) (fun x2 => ?_)
  refine so_iconst (v := (0 : Int32)) X (dkX7_firstOf (5, .iconst 0, 1) (pgm 4 rfl)) ic_0 ?_
  refine so_istore (i := 5) X (dkX7_firstOf (6, .istore 5, 2) (pgm 5 rfl)) (by decide) (Lf := fun x3 => [(5, .int x3), (4, .int x2), (3, .int x1), (0, .ref this), (1, .int a1), (2, .int a2)]) (fun _ => rfl) (fun x3 => ?_)
  refine so_pick (L' := [(0, .ref this), (1, .int a1), (2, .int a2), (3, .int x1), (4, .int x2), (5, .int x3)]) X [3, 4, 5, 2, 1, 0] rfl ?_
  refine so_loop (body := b_X7_firstOf_8 this a1 a2) (fun (s8 : Int32 × Int32 × Int32) => [(0, .ref this), (1, .int a1), (2, .int a2), (3, .int s8.1), (4, .int s8.2.1), (5, .int s8.2.2)]) (fun rec8 hrec8 s8 hh8 => ?_) FU (x1, x2, x3) h0
  unfold b_X7_firstOf_8
  refine so_iload (i := 5) X 5 (dkX7_firstOf (8, .iload 5, 2) (pgm 6 rfl)) rfl ?_
  refine so_aload_n (i := 0) X 0 (dkX7_firstOf (10, .aload_n 0, 1) (pgm 7 rfl)) rfl rfl ?_
  refine sf_getR X ff_7_0 lk_424 hk (dkX7_firstOf (11, .getfield 18, 3) (pgm 8 rfl)) ?_
  refine sf_getI X ff_8_5 lk_182 (fo (rk_7_0 this hk)) (dkX7_firstOf (14, .getfield 60, 3) (pgm 9 rfl)) ?_
  refine so_icmp_ge (tgt := 64) X (dkX7_firstOf (17, .if_icmp .ge 47, 3) (pgm 10 rfl)) rfl (fun _ => ?_) (fun _ => ?_)
  · refine so_iload_n (i := 3) X 3 (dkX7_firstOf (64, .iload_n 3, 1) (pgm 35 rfl)) rfl rfl ?_
    exact so_iret X hr hlk (dkX7_firstOf (65, .ireturn, 1) (pgm 36 rfl))
  · refine so_iload_n (i := 1) X 1 (dkX7_firstOf (20, .iload_n 1, 1) (pgm 11 rfl)) rfl rfl ?_
    refine so_iload (i := 5) X 5 (dkX7_firstOf (21, .iload 5, 2) (pgm 12 rfl)) rfl ?_
    refine so_ishr X (dkX7_firstOf (23, .ishr, 1) (pgm 13 rfl)) ?_
    refine so_iconst (v := (1 : Int32)) X (dkX7_firstOf (24, .iconst 1, 1) (pgm 14 rfl)) ic_1 ?_
    refine so_iand X (dkX7_firstOf (25, .iand, 1) (pgm 15 rfl)) ?_
    refine so_iconst (v := (1 : Int32)) X (dkX7_firstOf (26, .iconst 1, 1) (pgm 16 rfl)) ic_1 ?_
    refine so_join (jf := fun (y4 : Int32) (y5 : Int32) (h6 : PH) => lt (s8.2.2 + Int32.ofInt 1) (fun (x7 : Int32) => rec8 (y4, y5, x7) h6)) (fun (j : Int32 → Int32 → PH → Option (Int32 × PH)) => ∀ (y4 : Int32) (y5 : Int32) (h6 : PH), SWo (QM mkI below args s D cA ad A) p l e (rmd 2) s m args below meth c 0 0 7 D cA ad A 58 [(0, .ref this), (1, .int a1), (2, .int a2), (3, .int y4), (4, .int y5), (5, .int s8.2.2)] [] h6 (j y4 y5 h6)) ?_ (fun j58 hj58 => ?_)
    · intro y4 y5 h6
      refine so_iinc (i := 5) X 5 (dkX7_firstOf (58, .iinc 5 1, 3) (pgm 33 rfl)) rfl rfl (by decide) (Lf := fun x7 => [(5, .int x7), (0, .ref this), (1, .int a1), (2, .int a2), (3, .int y4), (4, .int y5)]) (fun _ => rfl) (fun x7 => ?_)
      refine so_goto (tgt := 8) X (dkX7_firstOf (61, .goto (-53), 3) (pgm 34 rfl)) rfl ?_
      exact so_pick X [1, 2, 3, 4, 5, 0] rfl (hrec8 (y4, y5, x7) h6)
    refine so_icmp_ne (tgt := 58) X (dkX7_firstOf (27, .if_icmp .ne 31, 3) (pgm 17 rfl)) rfl (fun _ => ?_) (fun _ => ?_)
    · exact so_pick X [0, 1, 2, 3, 4, 5] rfl (hj58 s8.1 s8.2.1 hh8)
    · refine so_aload_n (i := 0) X 0 (dkX7_firstOf (30, .aload_n 0, 1) (pgm 18 rfl)) rfl rfl ?_
      refine so_iload (i := 5) X 5 (dkX7_firstOf (31, .iload 5, 2) (pgm 19 rfl)) rfl ?_
      refine so_iload_n (i := 2) X 2 (dkX7_firstOf (33, .iload_n 2, 1) (pgm 20 rfl)) rfl rfl ?_
      refine so_callV (n := 2) (As := [.int s8.2.2, .int a2]) X (ct_X7_turnOf l this s8.2.2 a2 hh8 hk) hk (by decide) rfl lk_727 lk_729 lk_9 lk_129 lk_730 (by decide +kernel) rfl rfl rfl (rm_ok (by omega) (by decide)) ⟨Nat.zero_le _, Nat.zero_le _⟩ (Nat.le_of_ble_eq_true rfl) (dkX7_firstOf (34, .invokevirtual 72, 3) (pgm 21 rfl)) (fun r8 h9 => ?_) rfl
      refine so_istore (i := 6) X (dkX7_firstOf (37, .istore 6, 2) (pgm 22 rfl)) (by decide) (Lf := fun x10 => [(6, .int x10), (0, .ref this), (1, .int a1), (2, .int a2), (3, .int s8.1), (4, .int s8.2.1), (5, .int s8.2.2)]) (fun _ => rfl) (fun x10 => ?_)
      refine so_iload_n (i := 3) X 4 (dkX7_firstOf (39, .iload_n 3, 1) (pgm 23 rfl)) rfl rfl ?_
      refine so_iconst (v := (-1 : Int32)) X (dkX7_firstOf (40, .iconst (-1), 1) (pgm 24 rfl)) ic_m1 ?_
      refine so_join (jf := fun (h11 : PH) => lt s8.2.2 (fun (x12 : Int32) => lt x10 (fun (x13 : Int32) => j58 x12 x13 h11))) (fun (j : PH → Option (Int32 × PH)) => ∀  (h11 : PH), SWo (QM mkI below args s D cA ad A) p l e (rmd 2) s m args below meth c 0 0 7 D cA ad A 51 [(0, .ref this), (1, .int a1), (2, .int a2), (5, .int s8.2.2), (6, .int x10)] [] h11 (j h11)) ?_ (fun j51 hj51 => ?_)
      · intro h11
        refine so_iload (i := 5) X 3 (dkX7_firstOf (51, .iload 5, 2) (pgm 29 rfl)) rfl ?_
        refine so_istore_n (i := 3) X (dkX7_firstOf (53, .istore_n 3, 1) (pgm 30 rfl)) rfl (by decide) (Lf := fun x12 => [(3, .int x12), (0, .ref this), (1, .int a1), (2, .int a2), (5, .int s8.2.2), (6, .int x10)]) (fun _ => rfl) (fun x12 => ?_)
        refine so_iload (i := 6) X 5 (dkX7_firstOf (54, .iload 6, 2) (pgm 31 rfl)) rfl ?_
        refine so_istore (i := 4) X (dkX7_firstOf (56, .istore 4, 2) (pgm 32 rfl)) (by decide) (Lf := fun x13 => [(4, .int x13), (3, .int x12), (0, .ref this), (1, .int a1), (2, .int a2), (5, .int s8.2.2), (6, .int x10)]) (fun _ => rfl) (fun x13 => ?_)
        exact so_pick X [2, 3, 4, 1, 0, 5] rfl (hj58 x12 x13 h11)
      refine so_icmp_eq (tgt := 51) X (dkX7_firstOf (41, .if_icmp .eq 10, 3) (pgm 25 rfl)) rfl (fun _ => ?_) (fun _ => ?_)
      · exact so_pick X [1, 2, 3, 6, 0] rfl (hj51 h9)
      · refine so_iload (i := 6) X 0 (dkX7_firstOf (44, .iload 6, 2) (pgm 26 rfl)) rfl ?_
        refine so_iload (i := 4) X 5 (dkX7_firstOf (46, .iload 4, 2) (pgm 27 rfl)) rfl ?_
        refine so_icmp_ge (tgt := 58) X (dkX7_firstOf (48, .if_icmp .ge 10, 3) (pgm 28 rfl)) rfl (fun _ => ?_) (fun _ => ?_)
        · exact so_pick X [1, 2, 3, 4, 5, 6] rfl (hj58 s8.1 s8.2.1 h9)
        · exact so_pick X [1, 2, 3, 6, 0] rfl (hj51 h9)
def pgX11_why : List (Nat × Instr × Nat) := [(0, .aload_n 0, 1), (1, .getfield 48, 3), (4, .iload_n 1, 1), (5, .i2l, 1), (6, .aload_n 0, 1), (7, .getfield 39, 3), (10, .getfield 165, 3), (13, .invokevirtual 186, 3), (16, .ireturn, 1)]
theorem dkX11_why : ∀ q ∈ pgX11_why, decode cX11_why q.1 = .ok q.2 := by decide +kernel
def f_X11_why (this : Nat) (a1 : Int32) (h0 : PH) : Option (Int32 × PH) :=
  cb (f_X3_whyNot (rt this 6) a1.toInt64 (h0.1 (rt this 5) 0) h0) (fun (r1 : Int32) (h2 : PH) => some (r1, h2))
set_option maxRecDepth 100000 in
set_option maxHeartbeats 4000000 in
theorem ct_X11_why (l : Launch) (this : Nat) (a1 : Int32) (h0 : PH) (hk : (kd this).1 = 11) : CT mkI l yX11_why cX11_why 2 (some .int) (rmd 4) [.ref this, .int a1] h0 (f_X11_why this a1 h0) := by
  refine ct_of (by decide) (Nat.le_of_ble_eq_true rfl) ?_
  intro p e s m args below meth c D cA ad A X hr hlk
  have X : Cx p s m args c RX11 cX11_why 2 D cA ad A := X
  unfold f_X11_why
  refine so_pick (L' := [(0, .ref this), (1, .int a1)]) X [0, 1] rfl ?_
  refine so_aload_n (i := 0) X 0 (dkX11_why (0, .aload_n 0, 1) (pgm 0 rfl)) rfl rfl ?_
  refine sf_getR X ff_11_6 lk_571 hk (dkX11_why (1, .getfield 48, 3) (pgm 1 rfl)) ?_
  refine so_iload_n (i := 1) X 1 (dkX11_why (4, .iload_n 1, 1) (pgm 2 rfl)) rfl rfl ?_
  refine so_i2l X (dkX11_why (5, .i2l, 1) (pgm 3 rfl)) ?_
  refine so_aload_n (i := 0) X 0 (dkX11_why (6, .aload_n 0, 1) (pgm 4 rfl)) rfl rfl ?_
  refine sf_getR X ff_11_5 lk_570 hk (dkX11_why (7, .getfield 39, 3) (pgm 5 rfl)) ?_
  refine sf_getI X ff_0_0 lk_338 (fo (rk_11_5 this hk)) (dkX11_why (10, .getfield 165, 3) (pgm 6 rfl)) ?_
  refine so_callV (n := 2) (As := [.long a1.toInt64, .int (h0.1 (rt this 5) 0)]) X (ct_X3_whyNot l (rt this 6) a1.toInt64 (h0.1 (rt this 5) 0) h0 (fo (rk_11_6 this hk))) (fo (rk_11_6 this hk)) (by decide) rfl lk_630 lk_631 lk_632 lk_126 lk_633 (by decide +kernel) rfl rfl rfl (rm_ok (by omega) (by decide)) ⟨Nat.zero_le _, Nat.zero_le _⟩ (Nat.le_of_ble_eq_true rfl) (dkX11_why (13, .invokevirtual 186, 3) (pgm 7 rfl)) (fun r1 h2 => ?_) rfl
  exact so_iret X hr hlk (dkX11_why (16, .ireturn, 1) (pgm 8 rfl))
def pgX11_makeNight : List (Nat × Instr × Nat) := [(0, .aload_n 0, 1), (1, .getfield 48, 3), (4, .iload_n 1, 1), (5, .aload_n 0, 1), (6, .getfield 39, 3), (9, .getfield 165, 3), (12, .invokevirtual 190, 3), (15, .istore_n 2, 1), (16, .aload_n 0, 1), (17, .getfield 39, 3), (20, .invokevirtual 354, 3), (23, .aload_n 0, 1), (24, .getfield 39, 3), (27, .iload_n 2, 1), (28, .aload_n 0, 1), (29, .getfield 20, 3), (32, .invokevirtual 357, 3), (35, .aload_n 0, 1), (36, .getfield 20, 3), (39, .iload_n 2, 1), (40, .invokevirtual 254, 3), (43, .ireturn, 1)]
theorem dkX11_makeNight : ∀ q ∈ pgX11_makeNight, decode cX11_makeNight q.1 = .ok q.2 := by decide +kernel
def f_X11_makeNight (this : Nat) (a1 : Int32) (h0 : PH) : Option (Int32 × PH) :=
  cb (f_X3_grantedBy (rt this 6) a1 (h0.1 (rt this 5) 0) h0) (fun (r1 : Int32) (h2 : PH) => lt r1 (fun (x3 : Int32) => cb (f_X0_remember (rt this 5) h2) (fun (r4 : Unit) (h5 : PH) => cb (f_X0_pass (rt this 5) x3 (rt this 2) h5) (fun (r6 : Unit) (h7 : PH) => cb (f_X8_weightOf (rt this 2) x3 h7) (fun (r8 : Int32) (h9 : PH) => some (r8, h9))))))
set_option maxRecDepth 100000 in
set_option maxHeartbeats 4000000 in
theorem ct_X11_makeNight (l : Launch) (this : Nat) (a1 : Int32) (h0 : PH) (hk : (kd this).1 = 11) : CT mkI l yX11_makeNight cX11_makeNight 3 (some .int) (rmd 4) [.ref this, .int a1] h0 (f_X11_makeNight this a1 h0) := by
  refine ct_of (by decide) (Nat.le_of_ble_eq_true rfl) ?_
  intro p e s m args below meth c D cA ad A X hr hlk
  have X : Cx p s m args c RX11 cX11_makeNight 3 D cA ad A := X
  unfold f_X11_makeNight
  refine so_pick (L' := [(0, .ref this), (1, .int a1)]) X [0, 1] rfl ?_
  refine so_aload_n (i := 0) X 0 (dkX11_makeNight (0, .aload_n 0, 1) (pgm 0 rfl)) rfl rfl ?_
  refine sf_getR X ff_11_6 lk_571 hk (dkX11_makeNight (1, .getfield 48, 3) (pgm 1 rfl)) ?_
  refine so_iload_n (i := 1) X 1 (dkX11_makeNight (4, .iload_n 1, 1) (pgm 2 rfl)) rfl rfl ?_
  refine so_aload_n (i := 0) X 0 (dkX11_makeNight (5, .aload_n 0, 1) (pgm 3 rfl)) rfl rfl ?_
  refine sf_getR X ff_11_5 lk_570 hk (dkX11_makeNight (6, .getfield 39, 3) (pgm 4 rfl)) ?_
  refine sf_getI X ff_0_0 lk_338 (fo (rk_11_5 this hk)) (dkX11_makeNight (9, .getfield 165, 3) (pgm 5 rfl)) ?_
  refine so_callV (n := 2) (As := [.int a1, .int (h0.1 (rt this 5) 0)]) X (ct_X3_grantedBy l (rt this 6) a1 (h0.1 (rt this 5) 0) h0 (fo (rk_11_6 this hk))) (fo (rk_11_6 this hk)) (by decide) rfl lk_752 lk_677 lk_678 lk_126 lk_679 (by decide +kernel) rfl rfl rfl (rm_ok (by omega) (by decide)) ⟨Nat.zero_le _, Nat.zero_le _⟩ (Nat.le_of_ble_eq_true rfl) (dkX11_makeNight (12, .invokevirtual 190, 3) (pgm 6 rfl)) (fun r1 h2 => ?_) rfl
  refine so_istore_n (i := 2) X (dkX11_makeNight (15, .istore_n 2, 1) (pgm 7 rfl)) rfl (by decide) (Lf := fun x3 => [(2, .int x3), (0, .ref this), (1, .int a1)]) (fun _ => rfl) (fun x3 => ?_)
  refine so_aload_n (i := 0) X 1 (dkX11_makeNight (16, .aload_n 0, 1) (pgm 8 rfl)) rfl rfl ?_
  refine sf_getR X ff_11_5 lk_570 hk (dkX11_makeNight (17, .getfield 39, 3) (pgm 9 rfl)) ?_
  refine so_callV (n := 0) (As := []) X (ct_X0_remember l (rt this 5) h2 (fo (rk_11_5 this hk))) (fo (rk_11_5 this hk)) (by decide) rfl lk_753 lk_754 lk_755 lk_125 lk_756 (by decide +kernel) rfl rfl rfl (rm_ok (by omega) (by decide)) ⟨Nat.zero_le _, Nat.zero_le _⟩ (Nat.le_of_ble_eq_true rfl) (dkX11_makeNight (20, .invokevirtual 354, 3) (pgm 10 rfl)) (fun r4 h5 => ?_) rfl
  refine so_aload_n (i := 0) X 1 (dkX11_makeNight (23, .aload_n 0, 1) (pgm 11 rfl)) rfl rfl ?_
  refine sf_getR X ff_11_5 lk_570 hk (dkX11_makeNight (24, .getfield 39, 3) (pgm 12 rfl)) ?_
  refine so_iload_n (i := 2) X 0 (dkX11_makeNight (27, .iload_n 2, 1) (pgm 13 rfl)) rfl rfl ?_
  refine so_aload_n (i := 0) X 1 (dkX11_makeNight (28, .aload_n 0, 1) (pgm 14 rfl)) rfl rfl ?_
  refine sf_getR X ff_11_2 lk_567 hk (dkX11_makeNight (29, .getfield 20, 3) (pgm 15 rfl)) ?_
  refine so_callV (n := 2) (As := [.int x3, .ref (rt this 2)]) X (ct_X0_pass l (rt this 5) x3 (rt this 2) h5 (fo (rk_11_5 this hk)) (fo (rk_11_2 this hk))) (fo (rk_11_5 this hk)) (by decide) rfl lk_758 lk_759 lk_760 lk_125 lk_761 (by decide +kernel) rfl rfl rfl (rm_ok (by omega) (by decide)) ⟨Nat.zero_le _, Nat.zero_le _⟩ (Nat.le_of_ble_eq_true rfl) (dkX11_makeNight (32, .invokevirtual 357, 3) (pgm 16 rfl)) (fun r6 h7 => ?_) rfl
  refine so_aload_n (i := 0) X 1 (dkX11_makeNight (35, .aload_n 0, 1) (pgm 17 rfl)) rfl rfl ?_
  refine sf_getR X ff_11_2 lk_567 hk (dkX11_makeNight (36, .getfield 20, 3) (pgm 18 rfl)) ?_
  refine so_iload_n (i := 2) X 0 (dkX11_makeNight (39, .iload_n 2, 1) (pgm 19 rfl)) rfl rfl ?_
  refine so_callV (n := 1) (As := [.int x3]) X (ct_X8_weightOf l (rt this 2) x3 h7 (fo (rk_11_2 this hk))) (fo (rk_11_2 this hk)) (by decide) rfl lk_740 lk_741 lk_742 lk_122 lk_743 (by decide +kernel) rfl rfl rfl (rm_ok (by omega) (by decide)) ⟨Nat.zero_le _, Nat.zero_le _⟩ (Nat.le_of_ble_eq_true rfl) (dkX11_makeNight (40, .invokevirtual 254, 3) (pgm 20 rfl)) (fun r8 h9 => ?_) rfl
  exact so_iret X hr hlk (dkX11_makeNight (43, .ireturn, 1) (pgm 21 rfl))
def pgX2_settle : List (Nat × Instr × Nat) := [(0, .aload_n 0, 1), (1, .aload_n 0, 1), (2, .getfield 25, 3), (5, .getfield 41, 3), (8, .putfield 37, 3), (11, .aload_n 0, 1), (12, .iconst 1, 1), (13, .putfield 33, 3), (16, .aload_n 0, 1), (17, .iconst 0, 1), (18, .putfield 47, 3), (21, .aload_n 0, 1), (22, .getfield 15, 3), (25, .iconst (-1), 1), (26, .invokestatic 50, 3), (29, .iconst 0, 1), (30, .istore_n 1, 1), (31, .iload_n 1, 1), (32, .aload_n 0, 1), (33, .getfield 21, 3), (36, .getfield 56, 3), (39, .if_icmp .gt 74, 3), (42, .aload_n 0, 1), (43, .getfield 29, 3), (46, .iload_n 1, 1), (47, .i2l, 1), (48, .aload_n 0, 1), (49, .getfield 37, 3), (52, .invokevirtual 61, 3), (55, .ifCond .ne 52, 3), (58, .aload_n 0, 1), (59, .getfield 9, 3), (62, .aload_n 0, 1), (63, .getfield 47, 3), (66, .iload_n 1, 1), (67, .iastore, 1), (68, .aload_n 0, 1), (69, .dup, 1), (70, .getfield 47, 3), (73, .iconst 1, 1), (74, .iadd, 1), (75, .putfield 47, 3), (78, .aload_n 0, 1), (79, .getfield 29, 3), (82, .iload_n 1, 1), (83, .aload_n 0, 1), (84, .getfield 37, 3), (87, .invokevirtual 67, 3), (90, .istore_n 2, 1), (91, .aload_n 0, 1), (92, .getfield 15, 3), (95, .iload_n 2, 1), (96, .aload_n 0, 1), (97, .getfield 15, 3), (100, .iload_n 2, 1), (101, .iaload, 1), (102, .iload_n 1, 1), (103, .invokestatic 71, 3), (106, .iastore, 1), (107, .iinc 1 1, 3), (110, .goto (-79), 3), (113, .aload_n 0, 1), (114, .invokevirtual 74, 3), (117, .return_, 1)]
theorem dkX2_settle : ∀ q ∈ pgX2_settle, decode cX2_settle q.1 = .ok q.2 := by decide +kernel
def b_X2_settle_31 (this : Nat) (j113 : PH → Option (Unit × PH)) (rec31 : (Int32) → PH → Option (Unit × PH)) (s31 : Int32) (hh31 : PH) : Option (Unit × PH) :=
  if (hh31.1 (rt this 0) 8) < s31 then (j113 hh31) else (cb (f_X3_whyNot (rt this 2) s31.toInt64 (hh31.1 this 7) hh31) (fun (r10 : Int32) (h11 : PH) => lt (fun (h12 : PH) => lt (s31 + Int32.ofInt 1) (fun (x13 : Int32) => rec31 x13 h12)) (fun (j107 : PH → Option (Unit × PH)) => if r10 = 0 then (stI h11 (rt this 3) 4096 (h11.1 this 4) s31 (fun (h14 : PH) => lt (pI h14 this 4 ((h14.1 this 4) + (1 : Int32))) (fun (h15 : PH) => cb (f_X3_grantedBy (rt this 2) s31 (h15.1 this 7) h15) (fun (r16 : Int32) (h17 : PH) => lt r16 (fun (x18 : Int32) => ldI h17 (rt this 5) 1024 x18 (fun (x19 : Int32) => cb (f_X2_lesser x19 s31 h17) (fun (r20 : Int32) (h21 : PH) => stI h21 (rt this 5) 1024 x18 r20 (fun (h22 : PH) => j107 h22)))))))) else (j107 h11))))
def f_X2_settle (this : Nat) (h0 : PH) : Option (Unit × PH) :=
  lt (pI h0 this 7 (h0.1 (rt this 1) 0)) (fun (h1 : PH) => lt (pI h1 this 8 (1 : Int32)) (fun (h2 : PH) => lt (pI h2 this 4 (0 : Int32)) (fun (h3 : PH) => cb (f_J7_fill_53178 (rt this 5) 1024 (-1 : Int32) h3) (fun (r4 : Unit) (h5 : PH) => lt (0 : Int32) (fun (x6 : Int32) => lt (fun (h7 : PH) => cb (f_X2_spread this h7) (fun (r8 : Unit) (h9 : PH) => some ((), h9))) (fun (j113 : PH → Option (Unit × PH)) => lp (b_X2_settle_31 this j113) FU x6 h5))))))
set_option maxRecDepth 100000 in
set_option maxHeartbeats 4000000 in
theorem ct_X2_settle (l : Launch) (this : Nat) (h0 : PH) (hk : (kd this).1 = 2) : CT mkV l yX2_settle cX2_settle 3 none (rmd 4) [.ref this] h0 (f_X2_settle this h0) := by
  refine ct_of (by decide) (Nat.le_of_ble_eq_true rfl) ?_
  intro p e s m args below meth c D cA ad A X hr hlk
  have X : Cx p s m args c RX2 cX2_settle 3 D cA ad A := X
  unfold f_X2_settle
  refine so_pick (L' := [(0, .ref this)]) X [0] rfl ?_
  refine so_aload_n (i := 0) X 0 (dkX2_settle (0, .aload_n 0, 1) (pgm 0 rfl)) rfl rfl ?_
  refine so_aload_n (i := 0) X 0 (dkX2_settle (1, .aload_n 0, 1) (pgm 1 rfl)) rfl rfl ?_
  refine sf_getR X ff_2_1 lk_387 hk (dkX2_settle (2, .getfield 25, 3) (pgm 2 rfl)) ?_
  refine sf_getI X ff_0_0 lk_336 (fo (rk_2_1 this hk)) (dkX2_settle (5, .getfield 41, 3) (pgm 3 rfl)) ?_
  refine sf_putI X ff_2_7 ft_2 rfl lk_397 hk rfl rfl (dkX2_settle (8, .putfield 37, 3) (pgm 4 rfl)) (fun h1 => ?_)
  refine so_aload_n (i := 0) X 0 (dkX2_settle (11, .aload_n 0, 1) (pgm 5 rfl)) rfl rfl ?_
  refine so_iconst (v := (1 : Int32)) X (dkX2_settle (12, .iconst 1, 1) (pgm 6 rfl)) ic_1 ?_
  refine sf_putI X ff_2_8 ft_2 rfl lk_398 hk rfl rfl (dkX2_settle (13, .putfield 33, 3) (pgm 7 rfl)) (fun h2 => ?_)
  refine so_aload_n (i := 0) X 0 (dkX2_settle (16, .aload_n 0, 1) (pgm 8 rfl)) rfl rfl ?_
  refine so_iconst (v := (0 : Int32)) X (dkX2_settle (17, .iconst 0, 1) (pgm 9 rfl)) ic_0 ?_
  refine sf_putI X ff_2_4 ft_2 rfl lk_392 hk rfl rfl (dkX2_settle (18, .putfield 47, 3) (pgm 10 rfl)) (fun h3 => ?_)
  refine so_aload_n (i := 0) X 0 (dkX2_settle (21, .aload_n 0, 1) (pgm 11 rfl)) rfl rfl ?_
  refine sf_getR X ff_2_5 lk_395 hk (dkX2_settle (22, .getfield 15, 3) (pgm 12 rfl)) ?_
  refine so_iconst (v := (-1 : Int32)) X (dkX2_settle (25, .iconst (-1), 1) (pgm 13 rfl)) ic_m1 ?_
  refine so_callS (n := 2) (As := [.ref (rt this 5), .int (-1 : Int32)]) X (ct_J7_fill_53178 l (rt this 5) 1024 (-1 : Int32) h3 (rk_2_5 this hk)) lk_674 lk_368 lk_127 lk_369 (by decide +kernel) rfl rfl rfl (rm_ok (by omega) (by decide)) ⟨Nat.zero_le _, Nat.zero_le _⟩ (Nat.le_of_ble_eq_true rfl) (dkX2_settle (26, .invokestatic 50, 3) (pgm 14 rfl)) (fun r4 h5 => ?_) rfl
  refine so_iconst (v := (0 : Int32)) X (dkX2_settle (29, .iconst 0, 1) (pgm 15 rfl)) ic_0 ?_
  refine so_istore_n (i := 1) X (dkX2_settle (30, .istore_n 1, 1) (pgm 16 rfl)) rfl (by decide) (Lf := fun x6 => [(1, .int x6), (0, .ref this)]) (fun _ => rfl) (fun x6 => ?_)
  refine so_join (jf := fun (h7 : PH) => cb (f_X2_spread this h7) (fun (r8 : Unit) (h9 : PH) => some ((), h9))) (fun (j : PH → Option (Unit × PH)) => ∀  (h7 : PH), SWo (QM mkV below args s D cA ad A) p l e (rmd 4) s m args below meth c 0 0 3 D cA ad A 113 [(0, .ref this)] [] h7 (j h7)) ?_ (fun j113 hj113 => ?_)
  · intro h7
    refine so_aload_n (i := 0) X 0 (dkX2_settle (113, .aload_n 0, 1) (pgm 61 rfl)) rfl rfl ?_
    refine so_callV (n := 0) (As := []) X (ct_X2_spread l this h7 hk) hk (by decide) rfl lk_684 lk_686 lk_3 lk_128 lk_687 (by decide +kernel) rfl rfl rfl (rm_ok (by omega) (by decide)) ⟨Nat.zero_le _, Nat.zero_le _⟩ (Nat.le_of_ble_eq_true rfl) (dkX2_settle (114, .invokevirtual 74, 3) (pgm 62 rfl)) (fun r8 h9 => ?_) rfl
    exact so_vret X hr hlk (dkX2_settle (117, .return_, 1) (pgm 63 rfl))
  refine so_pick (L' := [(0, .ref this), (1, .int x6)]) X [1, 0] rfl ?_
  refine so_loop (body := b_X2_settle_31 this j113) (fun (s31 : Int32) => [(0, .ref this), (1, .int s31)]) (fun rec31 hrec31 s31 hh31 => ?_) FU x6 h5
  unfold b_X2_settle_31
  refine so_iload_n (i := 1) X 1 (dkX2_settle (31, .iload_n 1, 1) (pgm 17 rfl)) rfl rfl ?_
  refine so_aload_n (i := 0) X 0 (dkX2_settle (32, .aload_n 0, 1) (pgm 18 rfl)) rfl rfl ?_
  refine sf_getR X ff_2_0 lk_386 hk (dkX2_settle (33, .getfield 21, 3) (pgm 19 rfl)) ?_
  refine sf_getI X ff_8_8 lk_199 (fo (rk_2_0 this hk)) (dkX2_settle (36, .getfield 56, 3) (pgm 20 rfl)) ?_
  refine so_icmp_gt (tgt := 113) X (dkX2_settle (39, .if_icmp .gt 74, 3) (pgm 21 rfl)) rfl (fun _ => ?_) (fun _ => ?_)
  · exact so_pick X [0] rfl (hj113 hh31)
  · refine so_aload_n (i := 0) X 0 (dkX2_settle (42, .aload_n 0, 1) (pgm 22 rfl)) rfl rfl ?_
    refine sf_getR X ff_2_2 lk_388 hk (dkX2_settle (43, .getfield 29, 3) (pgm 23 rfl)) ?_
    refine so_iload_n (i := 1) X 1 (dkX2_settle (46, .iload_n 1, 1) (pgm 24 rfl)) rfl rfl ?_
    refine so_i2l X (dkX2_settle (47, .i2l, 1) (pgm 25 rfl)) ?_
    refine so_aload_n (i := 0) X 0 (dkX2_settle (48, .aload_n 0, 1) (pgm 26 rfl)) rfl rfl ?_
    refine sf_getI X ff_2_7 lk_397 hk (dkX2_settle (49, .getfield 37, 3) (pgm 27 rfl)) ?_
    refine so_callV (n := 2) (As := [.long s31.toInt64, .int (hh31.1 this 7)]) X (ct_X3_whyNot l (rt this 2) s31.toInt64 (hh31.1 this 7) hh31 (fo (rk_2_2 this hk))) (fo (rk_2_2 this hk)) (by decide) rfl lk_675 lk_631 lk_632 lk_126 lk_633 (by decide +kernel) rfl rfl rfl (rm_ok (by omega) (by decide)) ⟨Nat.zero_le _, Nat.zero_le _⟩ (Nat.le_of_ble_eq_true rfl) (dkX2_settle (52, .invokevirtual 61, 3) (pgm 28 rfl)) (fun r10 h11 => ?_) rfl
    refine so_join (jf := fun (h12 : PH) => lt (s31 + Int32.ofInt 1) (fun (x13 : Int32) => rec31 x13 h12)) (fun (j : PH → Option (Unit × PH)) => ∀  (h12 : PH), SWo (QM mkV below args s D cA ad A) p l e (rmd 4) s m args below meth c 0 0 3 D cA ad A 107 [(0, .ref this), (1, .int s31)] [] h12 (j h12)) ?_ (fun j107 hj107 => ?_)
    · intro h12
      refine so_iinc (i := 1) X 1 (dkX2_settle (107, .iinc 1 1, 3) (pgm 59 rfl)) rfl rfl (by decide) (Lf := fun x13 => [(1, .int x13), (0, .ref this)]) (fun _ => rfl) (fun x13 => ?_)
      refine so_goto (tgt := 31) X (dkX2_settle (110, .goto (-79), 3) (pgm 60 rfl)) rfl ?_
      exact so_pick X [1, 0] rfl (hrec31 x13 h12)
    refine so_if_ne (tgt := 107) X (dkX2_settle (55, .ifCond .ne 52, 3) (pgm 29 rfl)) rfl (fun _ => ?_) (fun _ => ?_)
    · exact so_pick X [0, 1] rfl (hj107 h11)
    · refine so_aload_n (i := 0) X 0 (dkX2_settle (58, .aload_n 0, 1) (pgm 30 rfl)) rfl rfl ?_
      refine sf_getR X ff_2_3 lk_389 hk (dkX2_settle (59, .getfield 9, 3) (pgm 31 rfl)) ?_
      refine so_aload_n (i := 0) X 0 (dkX2_settle (62, .aload_n 0, 1) (pgm 32 rfl)) rfl rfl ?_
      refine sf_getI X ff_2_4 lk_392 hk (dkX2_settle (63, .getfield 47, 3) (pgm 33 rfl)) ?_
      refine so_iload_n (i := 1) X 1 (dkX2_settle (66, .iload_n 1, 1) (pgm 34 rfl)) rfl rfl ?_
      refine so_iast X (rk_2_3 this hk) (dkX2_settle (67, .iastore, 1) (pgm 35 rfl)) (fun h14 => ?_)
      refine so_aload_n (i := 0) X 0 (dkX2_settle (68, .aload_n 0, 1) (pgm 36 rfl)) rfl rfl ?_
      refine so_dup X (dkX2_settle (69, .dup, 1) (pgm 37 rfl)) rfl ?_
      refine sf_getI X ff_2_4 lk_392 hk (dkX2_settle (70, .getfield 47, 3) (pgm 38 rfl)) ?_
      refine so_iconst (v := (1 : Int32)) X (dkX2_settle (73, .iconst 1, 1) (pgm 39 rfl)) ic_1 ?_
      refine so_iadd X (dkX2_settle (74, .iadd, 1) (pgm 40 rfl)) ?_
      refine sf_putI X ff_2_4 ft_2 rfl lk_392 hk rfl rfl (dkX2_settle (75, .putfield 47, 3) (pgm 41 rfl)) (fun h15 => ?_)
      refine so_aload_n (i := 0) X 0 (dkX2_settle (78, .aload_n 0, 1) (pgm 42 rfl)) rfl rfl ?_
      refine sf_getR X ff_2_2 lk_388 hk (dkX2_settle (79, .getfield 29, 3) (pgm 43 rfl)) ?_
      refine so_iload_n (i := 1) X 1 (dkX2_settle (82, .iload_n 1, 1) (pgm 44 rfl)) rfl rfl ?_
      refine so_aload_n (i := 0) X 0 (dkX2_settle (83, .aload_n 0, 1) (pgm 45 rfl)) rfl rfl ?_
      refine sf_getI X ff_2_7 lk_397 hk (dkX2_settle (84, .getfield 37, 3) (pgm 46 rfl)) ?_
      refine so_callV (n := 2) (As := [.int s31, .int (h15.1 this 7)]) X (ct_X3_grantedBy l (rt this 2) s31 (h15.1 this 7) h15 (fo (rk_2_2 this hk))) (fo (rk_2_2 this hk)) (by decide) rfl lk_676 lk_677 lk_678 lk_126 lk_679 (by decide +kernel) rfl rfl rfl (rm_ok (by omega) (by decide)) ⟨Nat.zero_le _, Nat.zero_le _⟩ (Nat.le_of_ble_eq_true rfl) (dkX2_settle (87, .invokevirtual 67, 3) (pgm 47 rfl)) (fun r16 h17 => ?_) rfl
      refine so_istore_n (i := 2) X (dkX2_settle (90, .istore_n 2, 1) (pgm 48 rfl)) rfl (by decide) (Lf := fun x18 => [(2, .int x18), (0, .ref this), (1, .int s31)]) (fun _ => rfl) (fun x18 => ?_)
      refine so_aload_n (i := 0) X 1 (dkX2_settle (91, .aload_n 0, 1) (pgm 49 rfl)) rfl rfl ?_
      refine sf_getR X ff_2_5 lk_395 hk (dkX2_settle (92, .getfield 15, 3) (pgm 50 rfl)) ?_
      refine so_iload_n (i := 2) X 0 (dkX2_settle (95, .iload_n 2, 1) (pgm 51 rfl)) rfl rfl ?_
      refine so_aload_n (i := 0) X 1 (dkX2_settle (96, .aload_n 0, 1) (pgm 52 rfl)) rfl rfl ?_
      refine sf_getR X ff_2_5 lk_395 hk (dkX2_settle (97, .getfield 15, 3) (pgm 53 rfl)) ?_
      refine so_iload_n (i := 2) X 0 (dkX2_settle (100, .iload_n 2, 1) (pgm 54 rfl)) rfl rfl ?_
      refine so_iald X (rk_2_5 this hk) (dkX2_settle (101, .iaload, 1) (pgm 55 rfl)) (fun x19 => ?_)
      refine so_iload_n (i := 1) X 2 (dkX2_settle (102, .iload_n 1, 1) (pgm 56 rfl)) rfl rfl ?_
      refine so_callS (n := 2) (As := [.int x19, .int s31]) X (ct_X2_lesser l x19 s31 h17 ) lk_680 lk_681 lk_128 lk_682 (by decide +kernel) rfl rfl rfl (rm_ok (by omega) (by decide)) ⟨Nat.zero_le _, Nat.zero_le _⟩ (Nat.le_of_ble_eq_true rfl) (dkX2_settle (103, .invokestatic 71, 3) (pgm 57 rfl)) (fun r20 h21 => ?_) rfl
      refine so_iast X (rk_2_5 this hk) (dkX2_settle (106, .iastore, 1) (pgm 58 rfl)) (fun h22 => ?_)
      exact so_pick X [1, 2] rfl (hj107 h22)
def pgX2_mostPlan : List (Nat × Instr × Nat) := [(0, .iconst (-1), 1), (1, .istore_n 1, 1), (2, .iconst (-1), 1), (3, .istore_n 2, 1), (4, .iconst 0, 1), (5, .istore_n 3, 1), (6, .iload_n 3, 1), (7, .aload_n 0, 1), (8, .getfield 47, 3), (11, .if_icmp .ge 71, 3), (14, .aload_n 0, 1), (15, .getfield 21, 3), (18, .aload_n 0, 1), (19, .getfield 29, 3), (22, .aload_n 0, 1), (23, .getfield 9, 3), (26, .iload_n 3, 1), (27, .iaload, 1), (28, .aload_n 0, 1), (29, .getfield 37, 3), (32, .invokevirtual 67, 3), (35, .invokevirtual 90, 3), (38, .istore 4, 2), (40, .iload 4, 2), (42, .iload_n 2, 1), (43, .if_icmp .le 16, 3), (46, .aload_n 0, 1), (47, .getfield 9, 3), (50, .iload_n 3, 1), (51, .iaload, 1), (52, .istore_n 1, 1), (53, .iload 4, 2), (55, .istore_n 2, 1), (56, .goto 20, 3), (59, .iload 4, 2), (61, .iload_n 2, 1), (62, .if_icmp .ne 14, 3), (65, .iload_n 1, 1), (66, .aload_n 0, 1), (67, .getfield 9, 3), (70, .iload_n 3, 1), (71, .iaload, 1), (72, .invokestatic 71, 3), (75, .istore_n 1, 1), (76, .iinc 3 1, 3), (79, .goto (-73), 3), (82, .iload_n 1, 1), (83, .ireturn, 1)]
theorem dkX2_mostPlan : ∀ q ∈ pgX2_mostPlan, decode cX2_mostPlan q.1 = .ok q.2 := by decide +kernel
def b_X2_mostPlan_6 (this : Nat) (rec6 : (Int32 × Int32 × Int32) → PH → Option (Int32 × PH)) (s6 : Int32 × Int32 × Int32) (hh6 : PH) : Option (Int32 × PH) :=
  if (hh6.1 this 4) ≤ s6.2.2 then (some (s6.1, hh6)) else (ldI hh6 (rt this 3) 4096 s6.2.2 (fun (x4 : Int32) => cb (f_X3_grantedBy (rt this 2) x4 (hh6.1 this 7) hh6) (fun (r5 : Int32) (h6 : PH) => cb (f_X8_weightOf (rt this 0) r5 h6) (fun (r7 : Int32) (h8 : PH) => lt r7 (fun (x9 : Int32) => lt (fun (y10 : Int32) (y11 : Int32) (h12 : PH) => lt (s6.2.2 + Int32.ofInt 1) (fun (x13 : Int32) => rec6 (y10, y11, x13) h12)) (fun (j76 : Int32 → Int32 → PH → Option (Int32 × PH)) => if x9 ≤ s6.2.1 then (if x9 = s6.2.1 then (ldI h8 (rt this 3) 4096 s6.2.2 (fun (x14 : Int32) => cb (f_X2_lesser s6.1 x14 h8) (fun (r15 : Int32) (h16 : PH) => lt r15 (fun (x17 : Int32) => j76 x17 s6.2.1 h16)))) else (j76 s6.1 s6.2.1 h8)) else (ldI h8 (rt this 3) 4096 s6.2.2 (fun (x18 : Int32) => lt x18 (fun (x19 : Int32) => lt x9 (fun (x20 : Int32) => j76 x19 x20 h8))))))))))
def f_X2_mostPlan (this : Nat) (h0 : PH) : Option (Int32 × PH) :=
  lt (-1 : Int32) (fun (x1 : Int32) => lt (-1 : Int32) (fun (x2 : Int32) => lt (0 : Int32) (fun (x3 : Int32) => lp (b_X2_mostPlan_6 this) FU (x1, x2, x3) h0)))
set_option maxRecDepth 100000 in
set_option maxHeartbeats 4000000 in
theorem ct_X2_mostPlan (l : Launch) (this : Nat) (h0 : PH) (hk : (kd this).1 = 2) : CT mkI l yX2_mostPlan cX2_mostPlan 5 (some .int) (rmd 4) [.ref this] h0 (f_X2_mostPlan this h0) := by
  refine ct_of (by decide) (Nat.le_of_ble_eq_true rfl) ?_
  intro p e s m args below meth c D cA ad A X hr hlk
  have X : Cx p s m args c RX2 cX2_mostPlan 5 D cA ad A := X
  unfold f_X2_mostPlan
  refine so_pick (L' := [(0, .ref this)]) X [0] rfl ?_
  refine so_iconst (v := (-1 : Int32)) X (dkX2_mostPlan (0, .iconst (-1), 1) (pgm 0 rfl)) ic_m1 ?_
  refine so_istore_n (i := 1) X (dkX2_mostPlan (1, .istore_n 1, 1) (pgm 1 rfl)) rfl (by decide) (Lf := fun x1 => [(1, .int x1), (0, .ref this)]) (fun _ => rfl) (fun x1 => ?_)
  refine so_iconst (v := (-1 : Int32)) X (dkX2_mostPlan (2, .iconst (-1), 1) (pgm 2 rfl)) ic_m1 ?_
  refine so_istore_n (i := 2) X (dkX2_mostPlan (3, .istore_n 2, 1) (pgm 3 rfl)) rfl (by decide) (Lf := fun x2 => [(2, .int x2), (1, .int x1), (0, .ref this)]) (fun _ => rfl) (fun x2 => ?_)
  refine so_iconst (v := (0 : Int32)) X (dkX2_mostPlan (4, .iconst 0, 1) (pgm 4 rfl)) ic_0 ?_
  refine so_istore_n (i := 3) X (dkX2_mostPlan (5, .istore_n 3, 1) (pgm 5 rfl)) rfl (by decide) (Lf := fun x3 => [(3, .int x3), (2, .int x2), (1, .int x1), (0, .ref this)]) (fun _ => rfl) (fun x3 => ?_)
  refine so_pick (L' := [(0, .ref this), (1, .int x1), (2, .int x2), (3, .int x3)]) X [3, 2, 1, 0] rfl ?_
  refine so_loop (body := b_X2_mostPlan_6 this) (fun (s6 : Int32 × Int32 × Int32) => [(0, .ref this), (1, .int s6.1), (2, .int s6.2.1), (3, .int s6.2.2)]) (fun rec6 hrec6 s6 hh6 => ?_) FU (x1, x2, x3) h0
  unfold b_X2_mostPlan_6
  refine so_iload_n (i := 3) X 3 (dkX2_mostPlan (6, .iload_n 3, 1) (pgm 6 rfl)) rfl rfl ?_
  refine so_aload_n (i := 0) X 0 (dkX2_mostPlan (7, .aload_n 0, 1) (pgm 7 rfl)) rfl rfl ?_
  refine sf_getI X ff_2_4 lk_392 hk (dkX2_mostPlan (8, .getfield 47, 3) (pgm 8 rfl)) ?_
  refine so_icmp_ge (tgt := 82) X (dkX2_mostPlan (11, .if_icmp .ge 71, 3) (pgm 9 rfl)) rfl (fun _ => ?_) (fun _ => ?_)
  · refine so_iload_n (i := 1) X 1 (dkX2_mostPlan (82, .iload_n 1, 1) (pgm 46 rfl)) rfl rfl ?_
    exact so_iret X hr hlk (dkX2_mostPlan (83, .ireturn, 1) (pgm 47 rfl))
  · refine so_aload_n (i := 0) X 0 (dkX2_mostPlan (14, .aload_n 0, 1) (pgm 10 rfl)) rfl rfl ?_
    refine sf_getR X ff_2_0 lk_386 hk (dkX2_mostPlan (15, .getfield 21, 3) (pgm 11 rfl)) ?_
    refine so_aload_n (i := 0) X 0 (dkX2_mostPlan (18, .aload_n 0, 1) (pgm 12 rfl)) rfl rfl ?_
    refine sf_getR X ff_2_2 lk_388 hk (dkX2_mostPlan (19, .getfield 29, 3) (pgm 13 rfl)) ?_
    refine so_aload_n (i := 0) X 0 (dkX2_mostPlan (22, .aload_n 0, 1) (pgm 14 rfl)) rfl rfl ?_
    refine sf_getR X ff_2_3 lk_389 hk (dkX2_mostPlan (23, .getfield 9, 3) (pgm 15 rfl)) ?_
    refine so_iload_n (i := 3) X 3 (dkX2_mostPlan (26, .iload_n 3, 1) (pgm 16 rfl)) rfl rfl ?_
    refine so_iald X (rk_2_3 this hk) (dkX2_mostPlan (27, .iaload, 1) (pgm 17 rfl)) (fun x4 => ?_)
    refine so_aload_n (i := 0) X 0 (dkX2_mostPlan (28, .aload_n 0, 1) (pgm 18 rfl)) rfl rfl ?_
    refine sf_getI X ff_2_7 lk_397 hk (dkX2_mostPlan (29, .getfield 37, 3) (pgm 19 rfl)) ?_
    refine so_callV (n := 2) (As := [.int x4, .int (hh6.1 this 7)]) X (ct_X3_grantedBy l (rt this 2) x4 (hh6.1 this 7) hh6 (fo (rk_2_2 this hk))) (fo (rk_2_2 this hk)) (by decide) rfl lk_676 lk_677 lk_678 lk_126 lk_679 (by decide +kernel) rfl rfl rfl (rm_ok (by omega) (by decide)) ⟨Nat.zero_le _, Nat.zero_le _⟩ (Nat.le_of_ble_eq_true rfl) (dkX2_mostPlan (32, .invokevirtual 67, 3) (pgm 20 rfl)) (fun r5 h6 => ?_) rfl
    refine so_callV (n := 1) (As := [.int r5]) X (ct_X8_weightOf l (rt this 0) r5 h6 (fo (rk_2_0 this hk))) (fo (rk_2_0 this hk)) (by decide) rfl lk_1240 lk_741 lk_742 lk_122 lk_743 (by decide +kernel) rfl rfl rfl (rm_ok (by omega) (by decide)) ⟨Nat.zero_le _, Nat.zero_le _⟩ (Nat.le_of_ble_eq_true rfl) (dkX2_mostPlan (35, .invokevirtual 90, 3) (pgm 21 rfl)) (fun r7 h8 => ?_) rfl
    refine so_istore (i := 4) X (dkX2_mostPlan (38, .istore 4, 2) (pgm 22 rfl)) (by decide) (Lf := fun x9 => [(4, .int x9), (0, .ref this), (1, .int s6.1), (2, .int s6.2.1), (3, .int s6.2.2)]) (fun _ => rfl) (fun x9 => ?_)
    refine so_iload (i := 4) X 0 (dkX2_mostPlan (40, .iload 4, 2) (pgm 23 rfl)) rfl ?_
    refine so_iload_n (i := 2) X 3 (dkX2_mostPlan (42, .iload_n 2, 1) (pgm 24 rfl)) rfl rfl ?_
    refine so_join (jf := fun (y10 : Int32) (y11 : Int32) (h12 : PH) => lt (s6.2.2 + Int32.ofInt 1) (fun (x13 : Int32) => rec6 (y10, y11, x13) h12)) (fun (j : Int32 → Int32 → PH → Option (Int32 × PH)) => ∀ (y10 : Int32) (y11 : Int32) (h12 : PH), SWo (QM mkI below args s D cA ad A) p l e (rmd 4) s m args below meth c 0 0 5 D cA ad A 76 [(0, .ref this), (1, .int y10), (2, .int y11), (3, .int s6.2.2)] [] h12 (j y10 y11 h12)) ?_ (fun j76 hj76 => ?_)
    · intro y10 y11 h12
      refine so_iinc (i := 3) X 3 (dkX2_mostPlan (76, .iinc 3 1, 3) (pgm 44 rfl)) rfl rfl (by decide) (Lf := fun x13 => [(3, .int x13), (0, .ref this), (1, .int y10), (2, .int y11)]) (fun _ => rfl) (fun x13 => ?_)
      refine so_goto (tgt := 6) X (dkX2_mostPlan (79, .goto (-73), 3) (pgm 45 rfl)) rfl ?_
      exact so_pick X [1, 2, 3, 0] rfl (hrec6 (y10, y11, x13) h12)
    refine so_icmp_le (tgt := 59) X (dkX2_mostPlan (43, .if_icmp .le 16, 3) (pgm 25 rfl)) rfl (fun _ => ?_) (fun _ => ?_)
    · refine so_iload (i := 4) X 0 (dkX2_mostPlan (59, .iload 4, 2) (pgm 34 rfl)) rfl ?_
      refine so_iload_n (i := 2) X 3 (dkX2_mostPlan (61, .iload_n 2, 1) (pgm 35 rfl)) rfl rfl ?_
      refine so_icmp_ne (tgt := 76) X (dkX2_mostPlan (62, .if_icmp .ne 14, 3) (pgm 36 rfl)) rfl (fun _ => ?_) (fun _ => ?_)
      · exact so_pick X [1, 2, 3, 4] rfl (hj76 s6.1 s6.2.1 h8)
      · refine so_iload_n (i := 1) X 2 (dkX2_mostPlan (65, .iload_n 1, 1) (pgm 37 rfl)) rfl rfl ?_
        refine so_aload_n (i := 0) X 1 (dkX2_mostPlan (66, .aload_n 0, 1) (pgm 38 rfl)) rfl rfl ?_
        refine sf_getR X ff_2_3 lk_389 hk (dkX2_mostPlan (67, .getfield 9, 3) (pgm 39 rfl)) ?_
        refine so_iload_n (i := 3) X 4 (dkX2_mostPlan (70, .iload_n 3, 1) (pgm 40 rfl)) rfl rfl ?_
        refine so_iald X (rk_2_3 this hk) (dkX2_mostPlan (71, .iaload, 1) (pgm 41 rfl)) (fun x14 => ?_)
        refine so_callS (n := 2) (As := [.int s6.1, .int x14]) X (ct_X2_lesser l s6.1 x14 h8 ) lk_680 lk_681 lk_128 lk_682 (by decide +kernel) rfl rfl rfl (rm_ok (by omega) (by decide)) ⟨Nat.zero_le _, Nat.zero_le _⟩ (Nat.le_of_ble_eq_true rfl) (dkX2_mostPlan (72, .invokestatic 71, 3) (pgm 42 rfl)) (fun r15 h16 => ?_) rfl
        refine so_istore_n (i := 1) X (dkX2_mostPlan (75, .istore_n 1, 1) (pgm 43 rfl)) rfl (by decide) (Lf := fun x17 => [(1, .int x17), (4, .int x9), (0, .ref this), (2, .int s6.2.1), (3, .int s6.2.2)]) (fun _ => rfl) (fun x17 => ?_)
        exact so_pick X [2, 0, 3, 4] rfl (hj76 x17 s6.2.1 h16)
    · refine so_aload_n (i := 0) X 1 (dkX2_mostPlan (46, .aload_n 0, 1) (pgm 26 rfl)) rfl rfl ?_
      refine sf_getR X ff_2_3 lk_389 hk (dkX2_mostPlan (47, .getfield 9, 3) (pgm 27 rfl)) ?_
      refine so_iload_n (i := 3) X 4 (dkX2_mostPlan (50, .iload_n 3, 1) (pgm 28 rfl)) rfl rfl ?_
      refine so_iald X (rk_2_3 this hk) (dkX2_mostPlan (51, .iaload, 1) (pgm 29 rfl)) (fun x18 => ?_)
      refine so_istore_n (i := 1) X (dkX2_mostPlan (52, .istore_n 1, 1) (pgm 30 rfl)) rfl (by decide) (Lf := fun x19 => [(1, .int x19), (4, .int x9), (0, .ref this), (2, .int s6.2.1), (3, .int s6.2.2)]) (fun _ => rfl) (fun x19 => ?_)
      refine so_iload (i := 4) X 1 (dkX2_mostPlan (53, .iload 4, 2) (pgm 31 rfl)) rfl ?_
      refine so_istore_n (i := 2) X (dkX2_mostPlan (55, .istore_n 2, 1) (pgm 32 rfl)) rfl (by decide) (Lf := fun x20 => [(2, .int x20), (1, .int x19), (4, .int x9), (0, .ref this), (3, .int s6.2.2)]) (fun _ => rfl) (fun x20 => ?_)
      refine so_goto (tgt := 76) X (dkX2_mostPlan (56, .goto 20, 3) (pgm 33 rfl)) rfl ?_
      exact so_pick X [3, 1, 0, 4] rfl (hj76 x19 x20 h8)
def pgX2_followersOf : List (Nat × Instr × Nat) := [(0, .aload_n 0, 1), (1, .getfield 37, 3), (4, .iconst 1, 1), (5, .iload_n 1, 1), (6, .ishl, 1), (7, .iconst (-1), 1), (8, .ixor, 1), (9, .iand, 1), (10, .istore_n 2, 1), (11, .iconst 0, 1), (12, .istore_n 3, 1), (13, .iload_n 3, 1), (14, .aload_n 0, 1), (15, .getfield 47, 3), (18, .if_icmp .ge 43, 3), (21, .aload_n 0, 1), (22, .getfield 29, 3), (25, .aload_n 0, 1), (26, .getfield 9, 3), (29, .iload_n 3, 1), (30, .iaload, 1), (31, .aload_n 0, 1), (32, .getfield 37, 3), (35, .invokevirtual 67, 3), (38, .istore 4, 2), (40, .iload 4, 2), (42, .iload_n 1, 1), (43, .ishr, 1), (44, .iconst 1, 1), (45, .iand, 1), (46, .iconst 1, 1), (47, .if_icmp .ne 8, 3), (50, .iload_n 2, 1), (51, .iload 4, 2), (53, .iand, 1), (54, .istore_n 2, 1), (55, .iinc 3 1, 3), (58, .goto (-45), 3), (61, .iload_n 2, 1), (62, .ireturn, 1)]
theorem dkX2_followersOf : ∀ q ∈ pgX2_followersOf, decode cX2_followersOf q.1 = .ok q.2 := by decide +kernel
def b_X2_followersOf_13 (this : Nat) (a1 : Int32) (rec13 : (Int32 × Int32) → PH → Option (Int32 × PH)) (s13 : Int32 × Int32) (hh13 : PH) : Option (Int32 × PH) :=
  if (hh13.1 this 4) ≤ s13.2 then (some (s13.1, hh13)) else (ldI hh13 (rt this 3) 4096 s13.2 (fun (x3 : Int32) => cb (f_X3_grantedBy (rt this 2) x3 (hh13.1 this 7) hh13) (fun (r4 : Int32) (h5 : PH) => lt r4 (fun (x6 : Int32) => lt (fun (y7 : Int32) (h8 : PH) => lt (s13.2 + Int32.ofInt 1) (fun (x9 : Int32) => rec13 (y7, x9) h8)) (fun (j55 : Int32 → PH → Option (Int32 × PH)) => if ((x6 >>> (a1 &&& 31)) &&& (1 : Int32)) = (1 : Int32) then (lt (s13.1 &&& x6) (fun (x10 : Int32) => j55 x10 h5)) else (j55 s13.1 h5))))))
def f_X2_followersOf (this : Nat) (a1 : Int32) (h0 : PH) : Option (Int32 × PH) :=
  lt ((h0.1 this 7) &&& (((1 : Int32) <<< (a1 &&& 31)) ^^^ (-1 : Int32))) (fun (x1 : Int32) => lt (0 : Int32) (fun (x2 : Int32) => lp (b_X2_followersOf_13 this a1) FU (x1, x2) h0))
set_option maxRecDepth 100000 in
set_option maxHeartbeats 4000000 in
theorem ct_X2_followersOf (l : Launch) (this : Nat) (a1 : Int32) (h0 : PH) (hk : (kd this).1 = 2) : CT mkI l yX2_followersOf cX2_followersOf 5 (some .int) (rmd 4) [.ref this, .int a1] h0 (f_X2_followersOf this a1 h0) := by
  refine ct_of (by decide) (Nat.le_of_ble_eq_true rfl) ?_
  intro p e s m args below meth c D cA ad A X hr hlk
  have X : Cx p s m args c RX2 cX2_followersOf 5 D cA ad A := X
  unfold f_X2_followersOf
  refine so_pick (L' := [(0, .ref this), (1, .int a1)]) X [0, 1] rfl ?_
  refine so_aload_n (i := 0) X 0 (dkX2_followersOf (0, .aload_n 0, 1) (pgm 0 rfl)) rfl rfl ?_
  refine sf_getI X ff_2_7 lk_397 hk (dkX2_followersOf (1, .getfield 37, 3) (pgm 1 rfl)) ?_
  refine so_iconst (v := (1 : Int32)) X (dkX2_followersOf (4, .iconst 1, 1) (pgm 2 rfl)) ic_1 ?_
  refine so_iload_n (i := 1) X 1 (dkX2_followersOf (5, .iload_n 1, 1) (pgm 3 rfl)) rfl rfl ?_
  refine so_ishl X (dkX2_followersOf (6, .ishl, 1) (pgm 4 rfl)) ?_
  refine so_iconst (v := (-1 : Int32)) X (dkX2_followersOf (7, .iconst (-1), 1) (pgm 5 rfl)) ic_m1 ?_
  refine so_ixor X (dkX2_followersOf (8, .ixor, 1) (pgm 6 rfl)) ?_
  refine so_iand X (dkX2_followersOf (9, .iand, 1) (pgm 7 rfl)) ?_
  refine so_istore_n (i := 2) X (dkX2_followersOf (10, .istore_n 2, 1) (pgm 8 rfl)) rfl (by decide) (Lf := fun x1 => [(2, .int x1), (0, .ref this), (1, .int a1)]) (fun _ => rfl) (fun x1 => ?_)
  refine so_iconst (v := (0 : Int32)) X (dkX2_followersOf (11, .iconst 0, 1) (pgm 9 rfl)) ic_0 ?_
  refine so_istore_n (i := 3) X (dkX2_followersOf (12, .istore_n 3, 1) (pgm 10 rfl)) rfl (by decide) (Lf := fun x2 => [(3, .int x2), (2, .int x1), (0, .ref this), (1, .int a1)]) (fun _ => rfl) (fun x2 => ?_)
  refine so_pick (L' := [(0, .ref this), (1, .int a1), (2, .int x1), (3, .int x2)]) X [2, 3, 1, 0] rfl ?_
  refine so_loop (body := b_X2_followersOf_13 this a1) (fun (s13 : Int32 × Int32) => [(0, .ref this), (1, .int a1), (2, .int s13.1), (3, .int s13.2)]) (fun rec13 hrec13 s13 hh13 => ?_) FU (x1, x2) h0
  unfold b_X2_followersOf_13
  refine so_iload_n (i := 3) X 3 (dkX2_followersOf (13, .iload_n 3, 1) (pgm 11 rfl)) rfl rfl ?_
  refine so_aload_n (i := 0) X 0 (dkX2_followersOf (14, .aload_n 0, 1) (pgm 12 rfl)) rfl rfl ?_
  refine sf_getI X ff_2_4 lk_392 hk (dkX2_followersOf (15, .getfield 47, 3) (pgm 13 rfl)) ?_
  refine so_icmp_ge (tgt := 61) X (dkX2_followersOf (18, .if_icmp .ge 43, 3) (pgm 14 rfl)) rfl (fun _ => ?_) (fun _ => ?_)
  · refine so_iload_n (i := 2) X 2 (dkX2_followersOf (61, .iload_n 2, 1) (pgm 38 rfl)) rfl rfl ?_
    exact so_iret X hr hlk (dkX2_followersOf (62, .ireturn, 1) (pgm 39 rfl))
  · refine so_aload_n (i := 0) X 0 (dkX2_followersOf (21, .aload_n 0, 1) (pgm 15 rfl)) rfl rfl ?_
    refine sf_getR X ff_2_2 lk_388 hk (dkX2_followersOf (22, .getfield 29, 3) (pgm 16 rfl)) ?_
    refine so_aload_n (i := 0) X 0 (dkX2_followersOf (25, .aload_n 0, 1) (pgm 17 rfl)) rfl rfl ?_
    refine sf_getR X ff_2_3 lk_389 hk (dkX2_followersOf (26, .getfield 9, 3) (pgm 18 rfl)) ?_
    refine so_iload_n (i := 3) X 3 (dkX2_followersOf (29, .iload_n 3, 1) (pgm 19 rfl)) rfl rfl ?_
    refine so_iald X (rk_2_3 this hk) (dkX2_followersOf (30, .iaload, 1) (pgm 20 rfl)) (fun x3 => ?_)
    refine so_aload_n (i := 0) X 0 (dkX2_followersOf (31, .aload_n 0, 1) (pgm 21 rfl)) rfl rfl ?_
    refine sf_getI X ff_2_7 lk_397 hk (dkX2_followersOf (32, .getfield 37, 3) (pgm 22 rfl)) ?_
    refine so_callV (n := 2) (As := [.int x3, .int (hh13.1 this 7)]) X (ct_X3_grantedBy l (rt this 2) x3 (hh13.1 this 7) hh13 (fo (rk_2_2 this hk))) (fo (rk_2_2 this hk)) (by decide) rfl lk_676 lk_677 lk_678 lk_126 lk_679 (by decide +kernel) rfl rfl rfl (rm_ok (by omega) (by decide)) ⟨Nat.zero_le _, Nat.zero_le _⟩ (Nat.le_of_ble_eq_true rfl) (dkX2_followersOf (35, .invokevirtual 67, 3) (pgm 23 rfl)) (fun r4 h5 => ?_) rfl
    refine so_istore (i := 4) X (dkX2_followersOf (38, .istore 4, 2) (pgm 24 rfl)) (by decide) (Lf := fun x6 => [(4, .int x6), (0, .ref this), (1, .int a1), (2, .int s13.1), (3, .int s13.2)]) (fun _ => rfl) (fun x6 => ?_)
    refine so_iload (i := 4) X 0 (dkX2_followersOf (40, .iload 4, 2) (pgm 25 rfl)) rfl ?_
    refine so_iload_n (i := 1) X 2 (dkX2_followersOf (42, .iload_n 1, 1) (pgm 26 rfl)) rfl rfl ?_
    refine so_ishr X (dkX2_followersOf (43, .ishr, 1) (pgm 27 rfl)) ?_
    refine so_iconst (v := (1 : Int32)) X (dkX2_followersOf (44, .iconst 1, 1) (pgm 28 rfl)) ic_1 ?_
    refine so_iand X (dkX2_followersOf (45, .iand, 1) (pgm 29 rfl)) ?_
    refine so_iconst (v := (1 : Int32)) X (dkX2_followersOf (46, .iconst 1, 1) (pgm 30 rfl)) ic_1 ?_
    refine so_join (jf := fun (y7 : Int32) (h8 : PH) => lt (s13.2 + Int32.ofInt 1) (fun (x9 : Int32) => rec13 (y7, x9) h8)) (fun (j : Int32 → PH → Option (Int32 × PH)) => ∀ (y7 : Int32) (h8 : PH), SWo (QM mkI below args s D cA ad A) p l e (rmd 4) s m args below meth c 0 0 5 D cA ad A 55 [(0, .ref this), (1, .int a1), (2, .int y7), (3, .int s13.2)] [] h8 (j y7 h8)) ?_ (fun j55 hj55 => ?_)
    · intro y7 h8
      refine so_iinc (i := 3) X 3 (dkX2_followersOf (55, .iinc 3 1, 3) (pgm 36 rfl)) rfl rfl (by decide) (Lf := fun x9 => [(3, .int x9), (0, .ref this), (1, .int a1), (2, .int y7)]) (fun _ => rfl) (fun x9 => ?_)
      refine so_goto (tgt := 13) X (dkX2_followersOf (58, .goto (-45), 3) (pgm 37 rfl)) rfl ?_
      exact so_pick X [1, 2, 3, 0] rfl (hrec13 (y7, x9) h8)
    refine so_icmp_ne (tgt := 55) X (dkX2_followersOf (47, .if_icmp .ne 8, 3) (pgm 31 rfl)) rfl (fun _ => ?_) (fun _ => ?_)
    · exact so_pick X [1, 2, 3, 4] rfl (hj55 s13.1 h5)
    · refine so_iload_n (i := 2) X 3 (dkX2_followersOf (50, .iload_n 2, 1) (pgm 32 rfl)) rfl rfl ?_
      refine so_iload (i := 4) X 0 (dkX2_followersOf (51, .iload 4, 2) (pgm 33 rfl)) rfl ?_
      refine so_iand X (dkX2_followersOf (53, .iand, 1) (pgm 34 rfl)) ?_
      refine so_istore_n (i := 2) X (dkX2_followersOf (54, .istore_n 2, 1) (pgm 35 rfl)) rfl (by decide) (Lf := fun x10 => [(2, .int x10), (4, .int x6), (0, .ref this), (1, .int a1), (3, .int s13.2)]) (fun _ => rfl) (fun x10 => ?_)
      exact so_pick X [2, 3, 0, 4] rfl (hj55 x10 h5)
def pgX2_sureCells : List (Nat × Instr × Nat) := [(0, .aload_n 0, 1), (1, .iload_n 1, 1), (2, .invokevirtual 86, 3), (5, .ifCond .ne 5, 3), (8, .iconst (-1), 1), (9, .ireturn, 1), (10, .aload_n 0, 1), (11, .getfield 21, 3), (14, .getfield 56, 3), (17, .istore_n 3, 1), (18, .iconst 0, 1), (19, .istore 4, 2), (21, .iload 4, 2), (23, .aload_n 0, 1), (24, .getfield 47, 3), (27, .if_icmp .ge 57, 3), (30, .aload_n 0, 1), (31, .getfield 21, 3), (34, .aload_n 0, 1), (35, .getfield 9, 3), (38, .iload 4, 2), (40, .iaload, 1), (41, .invokevirtual 99, 3), (44, .istore 5, 2), (46, .iload_n 1, 1), (47, .aload_n 0, 1), (48, .getfield 29, 3), (51, .iload 5, 2), (53, .invokevirtual 102, 3), (56, .iconst (-1), 1), (57, .ixor, 1), (58, .iand, 1), (59, .ifCond .ne 19, 3), (62, .iload_n 3, 1), (63, .iload_n 2, 1), (64, .ifCond .eq 8, 3), (67, .iload 5, 2), (69, .goto 7, 3), (72, .iload 5, 2), (74, .iconst (-1), 1), (75, .ixor, 1), (76, .iand, 1), (77, .istore_n 3, 1), (78, .iinc 4 1, 3), (81, .goto (-60), 3), (84, .iload_n 3, 1), (85, .ireturn, 1)]
theorem dkX2_sureCells : ∀ q ∈ pgX2_sureCells, decode cX2_sureCells q.1 = .ok q.2 := by decide +kernel
def b_X2_sureCells_21 (this : Nat) (a1 : Int32) (a2 : Int32) (rec21 : (Int32 × Int32) → PH → Option (Int32 × PH)) (s21 : Int32 × Int32) (hh21 : PH) : Option (Int32 × PH) :=
  if (hh21.1 this 4) ≤ s21.2 then (some (s21.1, hh21)) else (ldI hh21 (rt this 3) 4096 s21.2 (fun (x5 : Int32) => cb (f_X8_weatherOf (rt this 0) x5 hh21) (fun (r6 : Int32) (h7 : PH) => lt r6 (fun (x8 : Int32) => cb (f_X3_at (rt this 2) x8 h7) (fun (r9 : Int32) (h10 : PH) => lt (fun (y11 : Int32) (h12 : PH) => lt (s21.2 + Int32.ofInt 1) (fun (x13 : Int32) => rec21 (y11, x13) h12)) (fun (j78 : Int32 → PH → Option (Int32 × PH)) => if (a1 &&& (r9 ^^^ (-1 : Int32))) = 0 then (lt (fun (t14 : Int32) (h15 : PH) => lt (s21.1 &&& t14) (fun (x16 : Int32) => j78 x16 h15)) (fun (j76 : Int32 → PH → Option (Int32 × PH)) => if a2 = 0 then (j76 (x8 ^^^ (-1 : Int32)) h10) else (j76 x8 h10))) else (j78 s21.1 h10)))))))
def f_X2_sureCells (this : Nat) (a1 : Int32) (a2 : Int32) (h0 : PH) : Option (Int32 × PH) :=
  cb (f_X2_areTogether this a1 h0) (fun (r1 : Int32) (h2 : PH) => if r1 = 0 then (some ((-1 : Int32), h2)) else (lt (h2.1 (rt this 0) 8) (fun (x3 : Int32) => lt (0 : Int32) (fun (x4 : Int32) => lp (b_X2_sureCells_21 this a1 a2) FU (x3, x4) h2))))
set_option maxRecDepth 100000 in
set_option maxHeartbeats 4000000 in
theorem ct_X2_sureCells (l : Launch) (this : Nat) (a1 : Int32) (a2 : Int32) (h0 : PH) (hk : (kd this).1 = 2) : CT mkI l yX2_sureCells cX2_sureCells 6 (some .int) (rmd 3) [.ref this, .int a1, .int a2] h0 (f_X2_sureCells this a1 a2 h0) := by
  refine ct_of (by decide) (Nat.le_of_ble_eq_true rfl) ?_
  intro p e s m args below meth c D cA ad A X hr hlk
  have X : Cx p s m args c RX2 cX2_sureCells 6 D cA ad A := X
  unfold f_X2_sureCells
  refine so_pick (L' := [(0, .ref this), (1, .int a1), (2, .int a2)]) X [0, 1, 2] rfl ?_
  refine so_aload_n (i := 0) X 0 (dkX2_sureCells (0, .aload_n 0, 1) (pgm 0 rfl)) rfl rfl ?_
  refine so_iload_n (i := 1) X 1 (dkX2_sureCells (1, .iload_n 1, 1) (pgm 1 rfl)) rfl rfl ?_
  refine so_callV (n := 1) (As := [.int a1]) X (ct_X2_areTogether l this a1 h0 hk) hk (by decide) rfl lk_700 lk_702 lk_5 lk_128 lk_703 (by decide +kernel) rfl rfl rfl (rm_ok (by omega) (by decide)) ⟨Nat.zero_le _, Nat.zero_le _⟩ (Nat.le_of_ble_eq_true rfl) (dkX2_sureCells (2, .invokevirtual 86, 3) (pgm 2 rfl)) (fun r1 h2 => ?_) rfl
  refine so_if_ne (tgt := 10) X (dkX2_sureCells (5, .ifCond .ne 5, 3) (pgm 3 rfl)) rfl (fun _ => ?_) (fun _ => ?_)
  · refine so_aload_n (i := 0) X 0 (dkX2_sureCells (10, .aload_n 0, 1) (pgm 6 rfl)) rfl rfl ?_
    refine sf_getR X ff_2_0 lk_386 hk (dkX2_sureCells (11, .getfield 21, 3) (pgm 7 rfl)) ?_
    refine sf_getI X ff_8_8 lk_199 (fo (rk_2_0 this hk)) (dkX2_sureCells (14, .getfield 56, 3) (pgm 8 rfl)) ?_
    refine so_istore_n (i := 3) X (dkX2_sureCells (17, .istore_n 3, 1) (pgm 9 rfl)) rfl (by decide) (Lf := fun x3 => [(3, .int x3), (0, .ref this), (1, .int a1), (2, .int a2)]) (fun _ => rfl) (fun x3 => ?_)
    refine so_iconst (v := (0 : Int32)) X (dkX2_sureCells (18, .iconst 0, 1) (pgm 10 rfl)) ic_0 ?_
    refine so_istore (i := 4) X (dkX2_sureCells (19, .istore 4, 2) (pgm 11 rfl)) (by decide) (Lf := fun x4 => [(4, .int x4), (3, .int x3), (0, .ref this), (1, .int a1), (2, .int a2)]) (fun _ => rfl) (fun x4 => ?_)
    refine so_pick (L' := [(0, .ref this), (1, .int a1), (2, .int a2), (3, .int x3), (4, .int x4)]) X [2, 3, 4, 1, 0] rfl ?_
    refine so_loop (body := b_X2_sureCells_21 this a1 a2) (fun (s21 : Int32 × Int32) => [(0, .ref this), (1, .int a1), (2, .int a2), (3, .int s21.1), (4, .int s21.2)]) (fun rec21 hrec21 s21 hh21 => ?_) FU (x3, x4) h2
    unfold b_X2_sureCells_21
    refine so_iload (i := 4) X 4 (dkX2_sureCells (21, .iload 4, 2) (pgm 12 rfl)) rfl ?_
    refine so_aload_n (i := 0) X 0 (dkX2_sureCells (23, .aload_n 0, 1) (pgm 13 rfl)) rfl rfl ?_
    refine sf_getI X ff_2_4 lk_392 hk (dkX2_sureCells (24, .getfield 47, 3) (pgm 14 rfl)) ?_
    refine so_icmp_ge (tgt := 84) X (dkX2_sureCells (27, .if_icmp .ge 57, 3) (pgm 15 rfl)) rfl (fun _ => ?_) (fun _ => ?_)
    · refine so_iload_n (i := 3) X 3 (dkX2_sureCells (84, .iload_n 3, 1) (pgm 45 rfl)) rfl rfl ?_
      exact so_iret X hr hlk (dkX2_sureCells (85, .ireturn, 1) (pgm 46 rfl))
    · refine so_aload_n (i := 0) X 0 (dkX2_sureCells (30, .aload_n 0, 1) (pgm 16 rfl)) rfl rfl ?_
      refine sf_getR X ff_2_0 lk_386 hk (dkX2_sureCells (31, .getfield 21, 3) (pgm 17 rfl)) ?_
      refine so_aload_n (i := 0) X 0 (dkX2_sureCells (34, .aload_n 0, 1) (pgm 18 rfl)) rfl rfl ?_
      refine sf_getR X ff_2_3 lk_389 hk (dkX2_sureCells (35, .getfield 9, 3) (pgm 19 rfl)) ?_
      refine so_iload (i := 4) X 4 (dkX2_sureCells (38, .iload 4, 2) (pgm 20 rfl)) rfl ?_
      refine so_iald X (rk_2_3 this hk) (dkX2_sureCells (40, .iaload, 1) (pgm 21 rfl)) (fun x5 => ?_)
      refine so_callV (n := 1) (As := [.int x5]) X (ct_X8_weatherOf l (rt this 0) x5 hh21 (fo (rk_2_0 this hk))) (fo (rk_2_0 this hk)) (by decide) rfl lk_1274 lk_641 lk_642 lk_122 lk_643 (by decide +kernel) rfl rfl rfl (rm_ok (by omega) (by decide)) ⟨Nat.zero_le _, Nat.zero_le _⟩ (Nat.le_of_ble_eq_true rfl) (dkX2_sureCells (41, .invokevirtual 99, 3) (pgm 22 rfl)) (fun r6 h7 => ?_) rfl
      refine so_istore (i := 5) X (dkX2_sureCells (44, .istore 5, 2) (pgm 23 rfl)) (by decide) (Lf := fun x8 => [(5, .int x8), (0, .ref this), (1, .int a1), (2, .int a2), (3, .int s21.1), (4, .int s21.2)]) (fun _ => rfl) (fun x8 => ?_)
      refine so_iload_n (i := 1) X 2 (dkX2_sureCells (46, .iload_n 1, 1) (pgm 24 rfl)) rfl rfl ?_
      refine so_aload_n (i := 0) X 1 (dkX2_sureCells (47, .aload_n 0, 1) (pgm 25 rfl)) rfl rfl ?_
      refine sf_getR X ff_2_2 lk_388 hk (dkX2_sureCells (48, .getfield 29, 3) (pgm 26 rfl)) ?_
      refine so_iload (i := 5) X 0 (dkX2_sureCells (51, .iload 5, 2) (pgm 27 rfl)) rfl ?_
      refine so_callV (n := 1) (As := [.int x8]) X (ct_X3_at l (rt this 2) x8 h7 (fo (rk_2_2 this hk))) (fo (rk_2_2 this hk)) (by decide) rfl lk_1275 lk_645 lk_646 lk_126 lk_647 (by decide +kernel) rfl rfl rfl (rm_ok (by omega) (by decide)) ⟨Nat.zero_le _, Nat.zero_le _⟩ (Nat.le_of_ble_eq_true rfl) (dkX2_sureCells (53, .invokevirtual 102, 3) (pgm 28 rfl)) (fun r9 h10 => ?_) rfl
      refine so_iconst (v := (-1 : Int32)) X (dkX2_sureCells (56, .iconst (-1), 1) (pgm 29 rfl)) ic_m1 ?_
      refine so_ixor X (dkX2_sureCells (57, .ixor, 1) (pgm 30 rfl)) ?_
      refine so_iand X (dkX2_sureCells (58, .iand, 1) (pgm 31 rfl)) ?_
      refine so_join (jf := fun (y11 : Int32) (h12 : PH) => lt (s21.2 + Int32.ofInt 1) (fun (x13 : Int32) => rec21 (y11, x13) h12)) (fun (j : Int32 → PH → Option (Int32 × PH)) => ∀ (y11 : Int32) (h12 : PH), SWo (QM mkI below args s D cA ad A) p l e (rmd 3) s m args below meth c 0 0 6 D cA ad A 78 [(0, .ref this), (1, .int a1), (2, .int a2), (3, .int y11), (4, .int s21.2)] [] h12 (j y11 h12)) ?_ (fun j78 hj78 => ?_)
      · intro y11 h12
        refine so_iinc (i := 4) X 4 (dkX2_sureCells (78, .iinc 4 1, 3) (pgm 43 rfl)) rfl rfl (by decide) (Lf := fun x13 => [(4, .int x13), (0, .ref this), (1, .int a1), (2, .int a2), (3, .int y11)]) (fun _ => rfl) (fun x13 => ?_)
        refine so_goto (tgt := 21) X (dkX2_sureCells (81, .goto (-60), 3) (pgm 44 rfl)) rfl ?_
        exact so_pick X [1, 2, 3, 4, 0] rfl (hrec21 (y11, x13) h12)
      refine so_if_ne (tgt := 78) X (dkX2_sureCells (59, .ifCond .ne 19, 3) (pgm 32 rfl)) rfl (fun _ => ?_) (fun _ => ?_)
      · exact so_pick X [1, 2, 3, 4, 5] rfl (hj78 s21.1 h10)
      · refine so_iload_n (i := 3) X 4 (dkX2_sureCells (62, .iload_n 3, 1) (pgm 33 rfl)) rfl rfl ?_
        refine so_iload_n (i := 2) X 3 (dkX2_sureCells (63, .iload_n 2, 1) (pgm 34 rfl)) rfl rfl ?_
        refine so_join (jf := fun (t14 : Int32) (h15 : PH) => lt (s21.1 &&& t14) (fun (x16 : Int32) => j78 x16 h15)) (fun (j : Int32 → PH → Option (Int32 × PH)) => ∀ (t14 : Int32) (h15 : PH), SWo (QM mkI below args s D cA ad A) p l e (rmd 3) s m args below meth c 0 0 6 D cA ad A 76 [(0, .ref this), (1, .int a1), (2, .int a2), (4, .int s21.2)] [.int t14, .int s21.1] h15 (j t14 h15)) ?_ (fun j76 hj76 => ?_)
        · intro t14 h15
          refine so_iand X (dkX2_sureCells (76, .iand, 1) (pgm 41 rfl)) ?_
          refine so_istore_n (i := 3) X (dkX2_sureCells (77, .istore_n 3, 1) (pgm 42 rfl)) rfl (by decide) (Lf := fun x16 => [(3, .int x16), (0, .ref this), (1, .int a1), (2, .int a2), (4, .int s21.2)]) (fun _ => rfl) (fun x16 => ?_)
          exact so_pick X [1, 2, 3, 0, 4] rfl (hj78 x16 h15)
        refine so_if_eq (tgt := 72) X (dkX2_sureCells (64, .ifCond .eq 8, 3) (pgm 35 rfl)) rfl (fun _ => ?_) (fun _ => ?_)
        · refine so_iload (i := 5) X 0 (dkX2_sureCells (72, .iload 5, 2) (pgm 38 rfl)) rfl ?_
          refine so_iconst (v := (-1 : Int32)) X (dkX2_sureCells (74, .iconst (-1), 1) (pgm 39 rfl)) ic_m1 ?_
          refine so_ixor X (dkX2_sureCells (75, .ixor, 1) (pgm 40 rfl)) ?_
          exact so_pick X [1, 2, 3, 5] rfl (hj76 (x8 ^^^ (-1 : Int32)) h10)
        · refine so_iload (i := 5) X 0 (dkX2_sureCells (67, .iload 5, 2) (pgm 36 rfl)) rfl ?_
          refine so_goto (tgt := 76) X (dkX2_sureCells (69, .goto 7, 3) (pgm 37 rfl)) rfl ?_
          exact so_pick X [1, 2, 3, 5] rfl (hj76 x8 h10)
  · refine so_iconst (v := (-1 : Int32)) X (dkX2_sureCells (8, .iconst (-1), 1) (pgm 4 rfl)) ic_m1 ?_
    exact so_iret X hr hlk (dkX2_sureCells (9, .ireturn, 1) (pgm 5 rfl))
def pgX2_weightExpected : List (Nat × Instr × Nat) := [(0, .iload_n 1, 1), (1, .invokestatic 80, 3), (4, .istore_n 3, 1), (5, .iload_n 1, 1), (6, .istore 4, 2), (8, .lconst 0, 1), (9, .lstore 5, 2), (11, .iconst 0, 1), (12, .istore 7, 2), (14, .iload 7, 2), (16, .iconst 1, 1), (17, .iload_n 3, 1), (18, .ishl, 1), (19, .if_icmp .ge 84, 3), (22, .iload 4, 2), (24, .invokestatic 80, 3), (27, .istore 8, 2), (29, .iload_n 2, 1), (30, .iload 8, 2), (32, .invokestatic 105, 3), (35, .bipush 100, 2), (37, .iload_n 2, 1), (38, .isub, 1), (39, .iload_n 3, 1), (40, .iload 8, 2), (42, .isub, 1), (43, .invokestatic 105, 3), (46, .lmul, 1), (47, .lstore 9, 2), (49, .lload 5, 2), (51, .lload 9, 2), (53, .aload_n 0, 1), (54, .getfield 21, 3), (57, .aload_n 0, 1), (58, .getfield 29, 3), (61, .aload_n 0, 1), (62, .getfield 21, 3), (65, .iload 4, 2), (67, .invokevirtual 99, 3), (70, .invokevirtual 102, 3), (73, .aload_n 0, 1), (74, .getfield 25, 3), (77, .getfield 41, 3), (80, .iand, 1), (81, .invokevirtual 90, 3), (84, .i2l, 1), (85, .lmul, 1), (86, .ladd, 1), (87, .lstore 5, 2), (89, .iload 4, 2), (91, .iconst 1, 1), (92, .isub, 1), (93, .iload_n 1, 1), (94, .iand, 1), (95, .istore 4, 2), (97, .iinc 7 1, 3), (100, .goto (-86), 3), (103, .lload 5, 2), (105, .lreturn, 1)]
theorem dkX2_weightExpected : ∀ q ∈ pgX2_weightExpected, decode cX2_weightExpected q.1 = .ok q.2 := by decide +kernel
def b_X2_weightExpected_14 (this : Nat) (a1 : Int32) (a2 : Int32) (x3 : Int32) (rec14 : (Int32 × Int64 × Int32) → PH → Option (Int64 × PH)) (s14 : Int32 × Int64 × Int32) (hh14 : PH) : Option (Int64 × PH) :=
  if ((1 : Int32) <<< (x3 &&& 31)) ≤ s14.2.2 then (some (s14.2.1, hh14)) else (cb (f_J6_bitCount_0f7a4 s14.1 hh14) (fun (r7 : Int32) (h8 : PH) => lt r7 (fun (x9 : Int32) => cb (f_X2_power a2 x9 h8) (fun (r10 : Int64) (h11 : PH) => cb (f_X2_power ((100 : Int32) - a2) (x3 - x9) h11) (fun (r12 : Int64) (h13 : PH) => lt (r10 * r12) (fun (x14 : Int64) => cb (f_X8_weatherOf (rt this 0) s14.1 h13) (fun (r15 : Int32) (h16 : PH) => cb (f_X3_at (rt this 2) r15 h16) (fun (r17 : Int32) (h18 : PH) => cb (f_X8_weightOf (rt this 0) (r17 &&& (h18.1 (rt this 1) 0)) h18) (fun (r19 : Int32) (h20 : PH) => lt (s14.2.1 + (x14 * r19.toInt64)) (fun (x21 : Int64) => lt ((s14.1 - (1 : Int32)) &&& a1) (fun (x22 : Int32) => lt (s14.2.2 + Int32.ofInt 1) (fun (x23 : Int32) => rec14 (x22, x21, x23) h20))))))))))))
def f_X2_weightExpected (this : Nat) (a1 : Int32) (a2 : Int32) (h0 : PH) : Option (Int64 × PH) :=
  cb (f_J6_bitCount_0f7a4 a1 h0) (fun (r1 : Int32) (h2 : PH) => lt r1 (fun (x3 : Int32) => lt a1 (fun (x4 : Int32) => lt (0 : Int64) (fun (x5 : Int64) => lt (0 : Int32) (fun (x6 : Int32) => lp (b_X2_weightExpected_14 this a1 a2 x3) FU (x4, x5, x6) h2)))))
set_option maxRecDepth 100000 in
set_option maxHeartbeats 4000000 in
theorem ct_X2_weightExpected (l : Launch) (this : Nat) (a1 : Int32) (a2 : Int32) (h0 : PH) (hk : (kd this).1 = 2) : CT mkL l yX2_weightExpected cX2_weightExpected 11 (some .long) (rmd 3) [.ref this, .int a1, .int a2] h0 (f_X2_weightExpected this a1 a2 h0) := by
  refine ct_of (by decide) (Nat.le_of_ble_eq_true rfl) ?_
  intro p e s m args below meth c D cA ad A X hr hlk
  have X : Cx p s m args c RX2 cX2_weightExpected 11 D cA ad A := X
  unfold f_X2_weightExpected
  refine so_pick (L' := [(0, .ref this), (1, .int a1), (2, .int a2)]) X [0, 1, 2] rfl ?_
  refine so_iload_n (i := 1) X 1 (dkX2_weightExpected (0, .iload_n 1, 1) (pgm 0 rfl)) rfl rfl ?_
  refine so_callS (n := 1) (As := [.int a1]) X (ct_J6_bitCount_0f7a4 l a1 h0 ) lk_683 lk_635 lk_147 lk_636 (by decide +kernel) rfl rfl rfl (rm_ok (by omega) (by decide)) ⟨Nat.zero_le _, Nat.zero_le _⟩ (Nat.le_of_ble_eq_true rfl) (dkX2_weightExpected (1, .invokestatic 80, 3) (pgm 1 rfl)) (fun r1 h2 => ?_) rfl
  refine so_istore_n (i := 3) X (dkX2_weightExpected (4, .istore_n 3, 1) (pgm 2 rfl)) rfl (by decide) (Lf := fun x3 => [(3, .int x3), (0, .ref this), (1, .int a1), (2, .int a2)]) (fun _ => rfl) (fun x3 => ?_)
  refine so_iload_n (i := 1) X 2 (dkX2_weightExpected (5, .iload_n 1, 1) (pgm 3 rfl)) rfl rfl ?_
  refine so_istore (i := 4) X (dkX2_weightExpected (6, .istore 4, 2) (pgm 4 rfl)) (by decide) (Lf := fun x4 => [(4, .int x4), (3, .int x3), (0, .ref this), (1, .int a1), (2, .int a2)]) (fun _ => rfl) (fun x4 => ?_)
  refine so_lconst (v := (0 : Int64)) X (dkX2_weightExpected (8, .lconst 0, 1) (pgm 5 rfl)) lc_0 ?_
  refine so_lstore (i := 5) X (dkX2_weightExpected (9, .lstore 5, 2) (pgm 6 rfl)) (by decide) (Lf := fun x5 => [(5, .long x5), (4, .int x4), (3, .int x3), (0, .ref this), (1, .int a1), (2, .int a2)]) (fun _ => rfl) (fun x5 => ?_)
  refine so_iconst (v := (0 : Int32)) X (dkX2_weightExpected (11, .iconst 0, 1) (pgm 7 rfl)) ic_0 ?_
  refine so_istore (i := 7) X (dkX2_weightExpected (12, .istore 7, 2) (pgm 8 rfl)) (by decide) (Lf := fun x6 => [(7, .int x6), (5, .long x5), (4, .int x4), (3, .int x3), (0, .ref this), (1, .int a1), (2, .int a2)]) (fun _ => rfl) (fun x6 => ?_)
  refine so_pick (L' := [(0, .ref this), (1, .int a1), (2, .int a2), (3, .int x3), (4, .int x4), (5, .long x5), (7, .int x6)]) X [4, 5, 6, 3, 2, 1, 0] rfl ?_
  refine so_loop (body := b_X2_weightExpected_14 this a1 a2 x3) (fun (s14 : Int32 × Int64 × Int32) => [(0, .ref this), (1, .int a1), (2, .int a2), (3, .int x3), (4, .int s14.1), (5, .long s14.2.1), (7, .int s14.2.2)]) (fun rec14 hrec14 s14 hh14 => ?_) FU (x4, x5, x6) h2
  unfold b_X2_weightExpected_14
  refine so_iload (i := 7) X 6 (dkX2_weightExpected (14, .iload 7, 2) (pgm 9 rfl)) rfl ?_
  refine so_iconst (v := (1 : Int32)) X (dkX2_weightExpected (16, .iconst 1, 1) (pgm 10 rfl)) ic_1 ?_
  refine so_iload_n (i := 3) X 3 (dkX2_weightExpected (17, .iload_n 3, 1) (pgm 11 rfl)) rfl rfl ?_
  refine so_ishl X (dkX2_weightExpected (18, .ishl, 1) (pgm 12 rfl)) ?_
  refine so_icmp_ge (tgt := 103) X (dkX2_weightExpected (19, .if_icmp .ge 84, 3) (pgm 13 rfl)) rfl (fun _ => ?_) (fun _ => ?_)
  · refine so_lload (i := 5) X 5 (dkX2_weightExpected (103, .lload 5, 2) (pgm 57 rfl)) rfl ?_
    exact so_lret X hr hlk (dkX2_weightExpected (105, .lreturn, 1) (pgm 58 rfl))
  · refine so_iload (i := 4) X 4 (dkX2_weightExpected (22, .iload 4, 2) (pgm 14 rfl)) rfl ?_
    refine so_callS (n := 1) (As := [.int s14.1]) X (ct_J6_bitCount_0f7a4 l s14.1 hh14 ) lk_683 lk_635 lk_147 lk_636 (by decide +kernel) rfl rfl rfl (rm_ok (by omega) (by decide)) ⟨Nat.zero_le _, Nat.zero_le _⟩ (Nat.le_of_ble_eq_true rfl) (dkX2_weightExpected (24, .invokestatic 80, 3) (pgm 15 rfl)) (fun r7 h8 => ?_) rfl
    refine so_istore (i := 8) X (dkX2_weightExpected (27, .istore 8, 2) (pgm 16 rfl)) (by decide) (Lf := fun x9 => [(8, .int x9), (0, .ref this), (1, .int a1), (2, .int a2), (3, .int x3), (4, .int s14.1), (5, .long s14.2.1), (7, .int s14.2.2)]) (fun _ => rfl) (fun x9 => ?_)
    refine so_iload_n (i := 2) X 3 (dkX2_weightExpected (29, .iload_n 2, 1) (pgm 17 rfl)) rfl rfl ?_
    refine so_iload (i := 8) X 0 (dkX2_weightExpected (30, .iload 8, 2) (pgm 18 rfl)) rfl ?_
    refine so_callS (n := 2) (As := [.int a2, .int x9]) X (ct_X2_power l a2 x9 h8 ) lk_1293 lk_1294 lk_128 lk_1295 (by decide +kernel) rfl rfl rfl (rm_ok (by omega) (by decide)) ⟨Nat.zero_le _, Nat.zero_le _⟩ (Nat.le_of_ble_eq_true rfl) (dkX2_weightExpected (32, .invokestatic 105, 3) (pgm 19 rfl)) (fun r10 h11 => ?_) rfl
    refine so_bipush (v := (100 : Int32)) X (dkX2_weightExpected (35, .bipush 100, 2) (pgm 20 rfl)) bp_100 ?_
    refine so_iload_n (i := 2) X 3 (dkX2_weightExpected (37, .iload_n 2, 1) (pgm 21 rfl)) rfl rfl ?_
    refine so_isub X (dkX2_weightExpected (38, .isub, 1) (pgm 22 rfl)) ?_
    refine so_iload_n (i := 3) X 4 (dkX2_weightExpected (39, .iload_n 3, 1) (pgm 23 rfl)) rfl rfl ?_
    refine so_iload (i := 8) X 0 (dkX2_weightExpected (40, .iload 8, 2) (pgm 24 rfl)) rfl ?_
    refine so_isub X (dkX2_weightExpected (42, .isub, 1) (pgm 25 rfl)) ?_
    refine so_callS (n := 2) (As := [.int ((100 : Int32) - a2), .int (x3 - x9)]) X (ct_X2_power l ((100 : Int32) - a2) (x3 - x9) h11 ) lk_1293 lk_1294 lk_128 lk_1295 (by decide +kernel) rfl rfl rfl (rm_ok (by omega) (by decide)) ⟨Nat.zero_le _, Nat.zero_le _⟩ (Nat.le_of_ble_eq_true rfl) (dkX2_weightExpected (43, .invokestatic 105, 3) (pgm 26 rfl)) (fun r12 h13 => ?_) rfl
    refine so_lmul X (dkX2_weightExpected (46, .lmul, 1) (pgm 27 rfl)) ?_
    refine so_lstore (i := 9) X (dkX2_weightExpected (47, .lstore 9, 2) (pgm 28 rfl)) (by decide) (Lf := fun x14 => [(9, .long x14), (8, .int x9), (0, .ref this), (1, .int a1), (2, .int a2), (3, .int x3), (4, .int s14.1), (5, .long s14.2.1), (7, .int s14.2.2)]) (fun _ => rfl) (fun x14 => ?_)
    refine so_lload (i := 5) X 7 (dkX2_weightExpected (49, .lload 5, 2) (pgm 29 rfl)) rfl ?_
    refine so_lload (i := 9) X 0 (dkX2_weightExpected (51, .lload 9, 2) (pgm 30 rfl)) rfl ?_
    refine so_aload_n (i := 0) X 2 (dkX2_weightExpected (53, .aload_n 0, 1) (pgm 31 rfl)) rfl rfl ?_
    refine sf_getR X ff_2_0 lk_386 hk (dkX2_weightExpected (54, .getfield 21, 3) (pgm 32 rfl)) ?_
    refine so_aload_n (i := 0) X 2 (dkX2_weightExpected (57, .aload_n 0, 1) (pgm 33 rfl)) rfl rfl ?_
    refine sf_getR X ff_2_2 lk_388 hk (dkX2_weightExpected (58, .getfield 29, 3) (pgm 34 rfl)) ?_
    refine so_aload_n (i := 0) X 2 (dkX2_weightExpected (61, .aload_n 0, 1) (pgm 35 rfl)) rfl rfl ?_
    refine sf_getR X ff_2_0 lk_386 hk (dkX2_weightExpected (62, .getfield 21, 3) (pgm 36 rfl)) ?_
    refine so_iload (i := 4) X 6 (dkX2_weightExpected (65, .iload 4, 2) (pgm 37 rfl)) rfl ?_
    refine so_callV (n := 1) (As := [.int s14.1]) X (ct_X8_weatherOf l (rt this 0) s14.1 h13 (fo (rk_2_0 this hk))) (fo (rk_2_0 this hk)) (by decide) rfl lk_1274 lk_641 lk_642 lk_122 lk_643 (by decide +kernel) rfl rfl rfl (rm_ok (by omega) (by decide)) ⟨Nat.zero_le _, Nat.zero_le _⟩ (Nat.le_of_ble_eq_true rfl) (dkX2_weightExpected (67, .invokevirtual 99, 3) (pgm 38 rfl)) (fun r15 h16 => ?_) rfl
    refine so_callV (n := 1) (As := [.int r15]) X (ct_X3_at l (rt this 2) r15 h16 (fo (rk_2_2 this hk))) (fo (rk_2_2 this hk)) (by decide) rfl lk_1275 lk_645 lk_646 lk_126 lk_647 (by decide +kernel) rfl rfl rfl (rm_ok (by omega) (by decide)) ⟨Nat.zero_le _, Nat.zero_le _⟩ (Nat.le_of_ble_eq_true rfl) (dkX2_weightExpected (70, .invokevirtual 102, 3) (pgm 39 rfl)) (fun r17 h18 => ?_) rfl
    refine so_aload_n (i := 0) X 2 (dkX2_weightExpected (73, .aload_n 0, 1) (pgm 40 rfl)) rfl rfl ?_
    refine sf_getR X ff_2_1 lk_387 hk (dkX2_weightExpected (74, .getfield 25, 3) (pgm 41 rfl)) ?_
    refine sf_getI X ff_0_0 lk_336 (fo (rk_2_1 this hk)) (dkX2_weightExpected (77, .getfield 41, 3) (pgm 42 rfl)) ?_
    refine so_iand X (dkX2_weightExpected (80, .iand, 1) (pgm 43 rfl)) ?_
    refine so_callV (n := 1) (As := [.int (r17 &&& (h18.1 (rt this 1) 0))]) X (ct_X8_weightOf l (rt this 0) (r17 &&& (h18.1 (rt this 1) 0)) h18 (fo (rk_2_0 this hk))) (fo (rk_2_0 this hk)) (by decide) rfl lk_1240 lk_741 lk_742 lk_122 lk_743 (by decide +kernel) rfl rfl rfl (rm_ok (by omega) (by decide)) ⟨Nat.zero_le _, Nat.zero_le _⟩ (Nat.le_of_ble_eq_true rfl) (dkX2_weightExpected (81, .invokevirtual 90, 3) (pgm 44 rfl)) (fun r19 h20 => ?_) rfl
    refine so_i2l X (dkX2_weightExpected (84, .i2l, 1) (pgm 45 rfl)) ?_
    refine so_lmul X (dkX2_weightExpected (85, .lmul, 1) (pgm 46 rfl)) ?_
    refine so_ladd X (dkX2_weightExpected (86, .ladd, 1) (pgm 47 rfl)) ?_
    refine so_lstore (i := 5) X (dkX2_weightExpected (87, .lstore 5, 2) (pgm 48 rfl)) (by decide) (Lf := fun x21 => [(5, .long x21), (9, .long x14), (8, .int x9), (0, .ref this), (1, .int a1), (2, .int a2), (3, .int x3), (4, .int s14.1), (7, .int s14.2.2)]) (fun _ => rfl) (fun x21 => ?_)
    refine so_iload (i := 4) X 7 (dkX2_weightExpected (89, .iload 4, 2) (pgm 49 rfl)) rfl ?_
    refine so_iconst (v := (1 : Int32)) X (dkX2_weightExpected (91, .iconst 1, 1) (pgm 50 rfl)) ic_1 ?_
    refine so_isub X (dkX2_weightExpected (92, .isub, 1) (pgm 51 rfl)) ?_
    refine so_iload_n (i := 1) X 4 (dkX2_weightExpected (93, .iload_n 1, 1) (pgm 52 rfl)) rfl rfl ?_
    refine so_iand X (dkX2_weightExpected (94, .iand, 1) (pgm 53 rfl)) ?_
    refine so_istore (i := 4) X (dkX2_weightExpected (95, .istore 4, 2) (pgm 54 rfl)) (by decide) (Lf := fun x22 => [(4, .int x22), (5, .long x21), (9, .long x14), (8, .int x9), (0, .ref this), (1, .int a1), (2, .int a2), (3, .int x3), (7, .int s14.2.2)]) (fun _ => rfl) (fun x22 => ?_)
    refine so_iinc (i := 7) X 8 (dkX2_weightExpected (97, .iinc 7 1, 3) (pgm 55 rfl)) rfl rfl (by decide) (Lf := fun x23 => [(7, .int x23), (4, .int x22), (5, .long x21), (9, .long x14), (8, .int x9), (0, .ref this), (1, .int a1), (2, .int a2), (3, .int x3)]) (fun _ => rfl) (fun x23 => ?_)
    refine so_goto (tgt := 14) X (dkX2_weightExpected (100, .goto (-86), 3) (pgm 56 rfl)) rfl ?_
    exact so_pick X [5, 6, 7, 8, 1, 2, 0] rfl (hrec14 (x22, x21, x23) h20)
def pgX2_bestByChance : List (Nat × Instr × Nat) := [(0, .iconst (-1), 1), (1, .istore_n 2, 1), (2, .ldc2_w 109, 3), (5, .lstore_n 3, 1), (6, .iconst 0, 1), (7, .istore 5, 2), (9, .iload 5, 2), (11, .aload_n 0, 1), (12, .getfield 47, 3), (15, .if_icmp .ge 91, 3), (18, .aload_n 0, 1), (19, .getfield 9, 3), (22, .iload 5, 2), (24, .iaload, 1), (25, .invokestatic 80, 3), (28, .istore 6, 2), (30, .iload 6, 2), (32, .iconst 3, 1), (33, .if_icmp .gt 67, 3), (36, .aload_n 0, 1), (37, .aload_n 0, 1), (38, .getfield 9, 3), (41, .iload 5, 2), (43, .iaload, 1), (44, .iload_n 1, 1), (45, .invokevirtual 111, 3), (48, .bipush 100, 2), (50, .iconst 3, 1), (51, .iload 6, 2), (53, .isub, 1), (54, .invokestatic 105, 3), (57, .lmul, 1), (58, .lstore 7, 2), (60, .lload 7, 2), (62, .lload_n 3, 1), (63, .lcmp, 1), (64, .ifCond .le 17, 3), (67, .aload_n 0, 1), (68, .getfield 9, 3), (71, .iload 5, 2), (73, .iaload, 1), (74, .istore_n 2, 1), (75, .lload 7, 2), (77, .lstore_n 3, 1), (78, .goto 22, 3), (81, .lload 7, 2), (83, .lload_n 3, 1), (84, .lcmp, 1), (85, .ifCond .ne 15, 3), (88, .iload_n 2, 1), (89, .aload_n 0, 1), (90, .getfield 9, 3), (93, .iload 5, 2), (95, .iaload, 1), (96, .invokestatic 71, 3), (99, .istore_n 2, 1), (100, .iinc 5 1, 3), (103, .goto (-94), 3), (106, .iload_n 2, 1), (107, .ireturn, 1)]
theorem dkX2_bestByChance : ∀ q ∈ pgX2_bestByChance, decode cX2_bestByChance q.1 = .ok q.2 := by decide +kernel
def b_X2_bestByChance_9 (this : Nat) (a1 : Int32) (rec9 : (Int32 × Int64 × Int32) → PH → Option (Int32 × PH)) (s9 : Int32 × Int64 × Int32) (hh9 : PH) : Option (Int32 × PH) :=
  if (hh9.1 this 4) ≤ s9.2.2 then (some (s9.1, hh9)) else (ldI hh9 (rt this 3) 4096 s9.2.2 (fun (x4 : Int32) => cb (f_J6_bitCount_0f7a4 x4 hh9) (fun (r5 : Int32) (h6 : PH) => lt r5 (fun (x7 : Int32) => lt (fun (y8 : Int32) (y9 : Int64) (h10 : PH) => lt (s9.2.2 + Int32.ofInt 1) (fun (x11 : Int32) => rec9 (y8, y9, x11) h10)) (fun (j100 : Int32 → Int64 → PH → Option (Int32 × PH)) => if (3 : Int32) < x7 then (j100 s9.1 s9.2.1 h6) else (ldI h6 (rt this 3) 4096 s9.2.2 (fun (x12 : Int32) => cb (f_X2_weightExpected this x12 a1 h6) (fun (r13 : Int64) (h14 : PH) => cb (f_X2_power (100 : Int32) ((3 : Int32) - x7) h14) (fun (r15 : Int64) (h16 : PH) => lt (r13 * r15) (fun (x17 : Int64) => if (lg_cmp x17 s9.2.1) ≤ 0 then (if (lg_cmp x17 s9.2.1) = 0 then (ldI h16 (rt this 3) 4096 s9.2.2 (fun (x18 : Int32) => cb (f_X2_lesser s9.1 x18 h16) (fun (r19 : Int32) (h20 : PH) => lt r19 (fun (x21 : Int32) => j100 x21 s9.2.1 h20)))) else (j100 s9.1 s9.2.1 h16)) else (ldI h16 (rt this 3) 4096 s9.2.2 (fun (x22 : Int32) => lt x22 (fun (x23 : Int32) => lt x17 (fun (x24 : Int64) => j100 x23 x24 h16))))))))))))))
def f_X2_bestByChance (this : Nat) (a1 : Int32) (h0 : PH) : Option (Int32 × PH) :=
  lt (-1 : Int32) (fun (x1 : Int32) => lt (-1 : Int64) (fun (x2 : Int64) => lt (0 : Int32) (fun (x3 : Int32) => lp (b_X2_bestByChance_9 this a1) FU (x1, x2, x3) h0)))
set_option maxRecDepth 100000 in
set_option maxHeartbeats 4000000 in
theorem ct_X2_bestByChance (l : Launch) (this : Nat) (a1 : Int32) (h0 : PH) (hk : (kd this).1 = 2) : CT mkI l yX2_bestByChance cX2_bestByChance 9 (some .int) (rmd 4) [.ref this, .int a1] h0 (f_X2_bestByChance this a1 h0) := by
  refine ct_of (by decide) (Nat.le_of_ble_eq_true rfl) ?_
  intro p e s m args below meth c D cA ad A X hr hlk
  have X : Cx p s m args c RX2 cX2_bestByChance 9 D cA ad A := X
  unfold f_X2_bestByChance
  refine so_pick (L' := [(0, .ref this), (1, .int a1)]) X [0, 1] rfl ?_
  refine so_iconst (v := (-1 : Int32)) X (dkX2_bestByChance (0, .iconst (-1), 1) (pgm 0 rfl)) ic_m1 ?_
  refine so_istore_n (i := 2) X (dkX2_bestByChance (1, .istore_n 2, 1) (pgm 1 rfl)) rfl (by decide) (Lf := fun x1 => [(2, .int x1), (0, .ref this), (1, .int a1)]) (fun _ => rfl) (fun x1 => ?_)
  refine so_ldc2 X lk_1307 (dkX2_bestByChance (2, .ldc2_w 109, 3) (pgm 2 rfl)) ?_
  refine so_lstore_n (i := 3) X (dkX2_bestByChance (5, .lstore_n 3, 1) (pgm 3 rfl)) rfl (by decide) (Lf := fun x2 => [(3, .long x2), (2, .int x1), (0, .ref this), (1, .int a1)]) (fun _ => rfl) (fun x2 => ?_)
  refine so_iconst (v := (0 : Int32)) X (dkX2_bestByChance (6, .iconst 0, 1) (pgm 4 rfl)) ic_0 ?_
  refine so_istore (i := 5) X (dkX2_bestByChance (7, .istore 5, 2) (pgm 5 rfl)) (by decide) (Lf := fun x3 => [(5, .int x3), (3, .long x2), (2, .int x1), (0, .ref this), (1, .int a1)]) (fun _ => rfl) (fun x3 => ?_)
  refine so_pick (L' := [(0, .ref this), (1, .int a1), (2, .int x1), (3, .long x2), (5, .int x3)]) X [3, 4, 2, 1, 0] rfl ?_
  refine so_loop (body := b_X2_bestByChance_9 this a1) (fun (s9 : Int32 × Int64 × Int32) => [(0, .ref this), (1, .int a1), (2, .int s9.1), (3, .long s9.2.1), (5, .int s9.2.2)]) (fun rec9 hrec9 s9 hh9 => ?_) FU (x1, x2, x3) h0
  unfold b_X2_bestByChance_9
  refine so_iload (i := 5) X 4 (dkX2_bestByChance (9, .iload 5, 2) (pgm 6 rfl)) rfl ?_
  refine so_aload_n (i := 0) X 0 (dkX2_bestByChance (11, .aload_n 0, 1) (pgm 7 rfl)) rfl rfl ?_
  refine sf_getI X ff_2_4 lk_392 hk (dkX2_bestByChance (12, .getfield 47, 3) (pgm 8 rfl)) ?_
  refine so_icmp_ge (tgt := 106) X (dkX2_bestByChance (15, .if_icmp .ge 91, 3) (pgm 9 rfl)) rfl (fun _ => ?_) (fun _ => ?_)
  · refine so_iload_n (i := 2) X 2 (dkX2_bestByChance (106, .iload_n 2, 1) (pgm 58 rfl)) rfl rfl ?_
    exact so_iret X hr hlk (dkX2_bestByChance (107, .ireturn, 1) (pgm 59 rfl))
  · refine so_aload_n (i := 0) X 0 (dkX2_bestByChance (18, .aload_n 0, 1) (pgm 10 rfl)) rfl rfl ?_
    refine sf_getR X ff_2_3 lk_389 hk (dkX2_bestByChance (19, .getfield 9, 3) (pgm 11 rfl)) ?_
    refine so_iload (i := 5) X 4 (dkX2_bestByChance (22, .iload 5, 2) (pgm 12 rfl)) rfl ?_
    refine so_iald X (rk_2_3 this hk) (dkX2_bestByChance (24, .iaload, 1) (pgm 13 rfl)) (fun x4 => ?_)
    refine so_callS (n := 1) (As := [.int x4]) X (ct_J6_bitCount_0f7a4 l x4 hh9 ) lk_683 lk_635 lk_147 lk_636 (by decide +kernel) rfl rfl rfl (rm_ok (by omega) (by decide)) ⟨Nat.zero_le _, Nat.zero_le _⟩ (Nat.le_of_ble_eq_true rfl) (dkX2_bestByChance (25, .invokestatic 80, 3) (pgm 14 rfl)) (fun r5 h6 => ?_) rfl
    refine so_istore (i := 6) X (dkX2_bestByChance (28, .istore 6, 2) (pgm 15 rfl)) (by decide) (Lf := fun x7 => [(6, .int x7), (0, .ref this), (1, .int a1), (2, .int s9.1), (3, .long s9.2.1), (5, .int s9.2.2)]) (fun _ => rfl) (fun x7 => ?_)
    refine so_iload (i := 6) X 0 (dkX2_bestByChance (30, .iload 6, 2) (pgm 16 rfl)) rfl ?_
    refine so_iconst (v := (3 : Int32)) X (dkX2_bestByChance (32, .iconst 3, 1) (pgm 17 rfl)) ic_3 ?_
    refine so_join (jf := fun (y8 : Int32) (y9 : Int64) (h10 : PH) => lt (s9.2.2 + Int32.ofInt 1) (fun (x11 : Int32) => rec9 (y8, y9, x11) h10)) (fun (j : Int32 → Int64 → PH → Option (Int32 × PH)) => ∀ (y8 : Int32) (y9 : Int64) (h10 : PH), SWo (QM mkI below args s D cA ad A) p l e (rmd 4) s m args below meth c 0 0 9 D cA ad A 100 [(0, .ref this), (1, .int a1), (2, .int y8), (3, .long y9), (5, .int s9.2.2)] [] h10 (j y8 y9 h10)) ?_ (fun j100 hj100 => ?_)
    · intro y8 y9 h10
      refine so_iinc (i := 5) X 4 (dkX2_bestByChance (100, .iinc 5 1, 3) (pgm 56 rfl)) rfl rfl (by decide) (Lf := fun x11 => [(5, .int x11), (0, .ref this), (1, .int a1), (2, .int y8), (3, .long y9)]) (fun _ => rfl) (fun x11 => ?_)
      refine so_goto (tgt := 9) X (dkX2_bestByChance (103, .goto (-94), 3) (pgm 57 rfl)) rfl ?_
      exact so_pick X [1, 2, 3, 4, 0] rfl (hrec9 (y8, y9, x11) h10)
    refine so_icmp_gt (tgt := 100) X (dkX2_bestByChance (33, .if_icmp .gt 67, 3) (pgm 18 rfl)) rfl (fun _ => ?_) (fun _ => ?_)
    · exact so_pick X [1, 2, 3, 4, 5] rfl (hj100 s9.1 s9.2.1 h6)
    · refine so_aload_n (i := 0) X 1 (dkX2_bestByChance (36, .aload_n 0, 1) (pgm 19 rfl)) rfl rfl ?_
      refine so_aload_n (i := 0) X 1 (dkX2_bestByChance (37, .aload_n 0, 1) (pgm 20 rfl)) rfl rfl ?_
      refine sf_getR X ff_2_3 lk_389 hk (dkX2_bestByChance (38, .getfield 9, 3) (pgm 21 rfl)) ?_
      refine so_iload (i := 5) X 5 (dkX2_bestByChance (41, .iload 5, 2) (pgm 22 rfl)) rfl ?_
      refine so_iald X (rk_2_3 this hk) (dkX2_bestByChance (43, .iaload, 1) (pgm 23 rfl)) (fun x12 => ?_)
      refine so_iload_n (i := 1) X 2 (dkX2_bestByChance (44, .iload_n 1, 1) (pgm 24 rfl)) rfl rfl ?_
      refine so_callV (n := 2) (As := [.int x12, .int a1]) X (ct_X2_weightExpected l this x12 a1 h6 hk) hk (by decide) rfl lk_1308 lk_1290 lk_1291 lk_128 lk_1292 (by decide +kernel) rfl rfl rfl (rm_ok (by omega) (by decide)) ⟨Nat.zero_le _, Nat.zero_le _⟩ (Nat.le_of_ble_eq_true rfl) (dkX2_bestByChance (45, .invokevirtual 111, 3) (pgm 25 rfl)) (fun r13 h14 => ?_) rfl
      refine so_bipush (v := (100 : Int32)) X (dkX2_bestByChance (48, .bipush 100, 2) (pgm 26 rfl)) bp_100 ?_
      refine so_iconst (v := (3 : Int32)) X (dkX2_bestByChance (50, .iconst 3, 1) (pgm 27 rfl)) ic_3 ?_
      refine so_iload (i := 6) X 0 (dkX2_bestByChance (51, .iload 6, 2) (pgm 28 rfl)) rfl ?_
      refine so_isub X (dkX2_bestByChance (53, .isub, 1) (pgm 29 rfl)) ?_
      refine so_callS (n := 2) (As := [.int (100 : Int32), .int ((3 : Int32) - x7)]) X (ct_X2_power l (100 : Int32) ((3 : Int32) - x7) h14 ) lk_1293 lk_1294 lk_128 lk_1295 (by decide +kernel) rfl rfl rfl (rm_ok (by omega) (by decide)) ⟨Nat.zero_le _, Nat.zero_le _⟩ (Nat.le_of_ble_eq_true rfl) (dkX2_bestByChance (54, .invokestatic 105, 3) (pgm 30 rfl)) (fun r15 h16 => ?_) rfl
      refine so_lmul X (dkX2_bestByChance (57, .lmul, 1) (pgm 31 rfl)) ?_
      refine so_lstore (i := 7) X (dkX2_bestByChance (58, .lstore 7, 2) (pgm 32 rfl)) (by decide) (Lf := fun x17 => [(7, .long x17), (6, .int x7), (0, .ref this), (1, .int a1), (2, .int s9.1), (3, .long s9.2.1), (5, .int s9.2.2)]) (fun _ => rfl) (fun x17 => ?_)
      refine so_lload (i := 7) X 0 (dkX2_bestByChance (60, .lload 7, 2) (pgm 33 rfl)) rfl ?_
      refine so_lload_n (i := 3) X 5 (dkX2_bestByChance (62, .lload_n 3, 1) (pgm 34 rfl)) rfl rfl ?_
      refine so_lcmp X (dkX2_bestByChance (63, .lcmp, 1) (pgm 35 rfl)) ?_
      refine so_if_le (tgt := 81) X (dkX2_bestByChance (64, .ifCond .le 17, 3) (pgm 36 rfl)) rfl (fun _ => ?_) (fun _ => ?_)
      · refine so_lload (i := 7) X 0 (dkX2_bestByChance (81, .lload 7, 2) (pgm 45 rfl)) rfl ?_
        refine so_lload_n (i := 3) X 5 (dkX2_bestByChance (83, .lload_n 3, 1) (pgm 46 rfl)) rfl rfl ?_
        refine so_lcmp X (dkX2_bestByChance (84, .lcmp, 1) (pgm 47 rfl)) ?_
        refine so_if_ne (tgt := 100) X (dkX2_bestByChance (85, .ifCond .ne 15, 3) (pgm 48 rfl)) rfl (fun _ => ?_) (fun _ => ?_)
        · exact so_pick X [2, 3, 4, 5, 6] rfl (hj100 s9.1 s9.2.1 h16)
        · refine so_iload_n (i := 2) X 4 (dkX2_bestByChance (88, .iload_n 2, 1) (pgm 49 rfl)) rfl rfl ?_
          refine so_aload_n (i := 0) X 2 (dkX2_bestByChance (89, .aload_n 0, 1) (pgm 50 rfl)) rfl rfl ?_
          refine sf_getR X ff_2_3 lk_389 hk (dkX2_bestByChance (90, .getfield 9, 3) (pgm 51 rfl)) ?_
          refine so_iload (i := 5) X 6 (dkX2_bestByChance (93, .iload 5, 2) (pgm 52 rfl)) rfl ?_
          refine so_iald X (rk_2_3 this hk) (dkX2_bestByChance (95, .iaload, 1) (pgm 53 rfl)) (fun x18 => ?_)
          refine so_callS (n := 2) (As := [.int s9.1, .int x18]) X (ct_X2_lesser l s9.1 x18 h16 ) lk_680 lk_681 lk_128 lk_682 (by decide +kernel) rfl rfl rfl (rm_ok (by omega) (by decide)) ⟨Nat.zero_le _, Nat.zero_le _⟩ (Nat.le_of_ble_eq_true rfl) (dkX2_bestByChance (96, .invokestatic 71, 3) (pgm 54 rfl)) (fun r19 h20 => ?_) rfl
          refine so_istore_n (i := 2) X (dkX2_bestByChance (99, .istore_n 2, 1) (pgm 55 rfl)) rfl (by decide) (Lf := fun x21 => [(2, .int x21), (7, .long x17), (6, .int x7), (0, .ref this), (1, .int a1), (3, .long s9.2.1), (5, .int s9.2.2)]) (fun _ => rfl) (fun x21 => ?_)
          exact so_pick X [3, 4, 0, 5, 6] rfl (hj100 x21 s9.2.1 h20)
      · refine so_aload_n (i := 0) X 2 (dkX2_bestByChance (67, .aload_n 0, 1) (pgm 37 rfl)) rfl rfl ?_
        refine sf_getR X ff_2_3 lk_389 hk (dkX2_bestByChance (68, .getfield 9, 3) (pgm 38 rfl)) ?_
        refine so_iload (i := 5) X 6 (dkX2_bestByChance (71, .iload 5, 2) (pgm 39 rfl)) rfl ?_
        refine so_iald X (rk_2_3 this hk) (dkX2_bestByChance (73, .iaload, 1) (pgm 40 rfl)) (fun x22 => ?_)
        refine so_istore_n (i := 2) X (dkX2_bestByChance (74, .istore_n 2, 1) (pgm 41 rfl)) rfl (by decide) (Lf := fun x23 => [(2, .int x23), (7, .long x17), (6, .int x7), (0, .ref this), (1, .int a1), (3, .long s9.2.1), (5, .int s9.2.2)]) (fun _ => rfl) (fun x23 => ?_)
        refine so_lload (i := 7) X 1 (dkX2_bestByChance (75, .lload 7, 2) (pgm 42 rfl)) rfl ?_
        refine so_lstore_n (i := 3) X (dkX2_bestByChance (77, .lstore_n 3, 1) (pgm 43 rfl)) rfl (by decide) (Lf := fun x24 => [(3, .long x24), (2, .int x23), (7, .long x17), (6, .int x7), (0, .ref this), (1, .int a1), (5, .int s9.2.2)]) (fun _ => rfl) (fun x24 => ?_)
        refine so_goto (tgt := 100) X (dkX2_bestByChance (78, .goto 22, 3) (pgm 44 rfl)) rfl ?_
        exact so_pick X [4, 5, 1, 0, 6] rfl (hj100 x23 x24 h16)
def pgX7_serve : List (Nat × Instr × Nat) := [(0, .aload_n 0, 1), (1, .getfield 57, 3), (4, .istore_n 2, 1), (5, .iconst 0, 1), (6, .istore_n 3, 1), (7, .iconst 0, 1), (8, .istore 4, 2), (10, .iload 4, 2), (12, .aload_n 0, 1), (13, .getfield 18, 3), (16, .getfield 60, 3), (19, .if_icmp .ge 50, 3), (22, .iload_n 2, 1), (23, .ifCond .eq 46, 3), (26, .iconst 1, 1), (27, .aload_n 0, 1), (28, .iload_n 2, 1), (29, .iload_n 1, 1), (30, .invokevirtual 63, 3), (33, .ishl, 1), (34, .istore 5, 2), (36, .iload_n 2, 1), (37, .iload 5, 2), (39, .iconst (-1), 1), (40, .ixor, 1), (41, .iand, 1), (42, .istore_n 2, 1), (43, .aload_n 0, 1), (44, .getfield 26, 3), (47, .iload_n 3, 1), (48, .iload 5, 2), (50, .ior, 1), (51, .invokevirtual 67, 3), (54, .iconst (-1), 1), (55, .if_icmp .eq 8, 3), (58, .iload_n 3, 1), (59, .iload 5, 2), (61, .ior, 1), (62, .istore_n 3, 1), (63, .iinc 4 1, 3), (66, .goto (-56), 3), (69, .iload_n 3, 1), (70, .ireturn, 1)]
theorem dkX7_serve : ∀ q ∈ pgX7_serve, decode cX7_serve q.1 = .ok q.2 := by decide +kernel
def b_X7_serve_10 (this : Nat) (a1 : Int32) (j69 : Int32 → PH → Option (Int32 × PH)) (rec10 : (Int32 × Int32 × Int32) → PH → Option (Int32 × PH)) (s10 : Int32 × Int32 × Int32) (hh10 : PH) : Option (Int32 × PH) :=
  if (hh10.1 (rt this 0) 5) ≤ s10.2.2 then (j69 s10.2.1 hh10) else (if s10.1 = 0 then (j69 s10.2.1 hh10) else (cb (f_X7_firstOf this s10.1 a1 hh10) (fun (r6 : Int32) (h7 : PH) => lt ((1 : Int32) <<< (r6 &&& 31)) (fun (x8 : Int32) => lt (s10.1 &&& (x8 ^^^ (-1 : Int32))) (fun (x9 : Int32) => cb (f_X2_leastPlan (rt this 2) (s10.2.1 ||| x8) h7) (fun (r10 : Int32) (h11 : PH) => lt (fun (y12 : Int32) (h13 : PH) => lt (s10.2.2 + Int32.ofInt 1) (fun (x14 : Int32) => rec10 (x9, y12, x14) h13)) (fun (j63 : Int32 → PH → Option (Int32 × PH)) => if r10 = (-1 : Int32) then (j63 s10.2.1 h11) else (lt (s10.2.1 ||| x8) (fun (x15 : Int32) => j63 x15 h11)))))))))
def f_X7_serve (this : Nat) (a1 : Int32) (h0 : PH) : Option (Int32 × PH) :=
  lt (h0.1 this 5) (fun (x1 : Int32) => lt (0 : Int32) (fun (x2 : Int32) => lt (0 : Int32) (fun (x3 : Int32) => lt (fun (y4 : Int32) (h5 : PH) => some (y4, h5)) (fun (j69 : Int32 → PH → Option (Int32 × PH)) => lp (b_X7_serve_10 this a1 j69) FU (x1, x2, x3) h0))))
set_option maxRecDepth 100000 in
set_option maxHeartbeats 4000000 in
theorem ct_X7_serve (l : Launch) (this : Nat) (a1 : Int32) (h0 : PH) (hk : (kd this).1 = 7) : CT mkI l yX7_serve cX7_serve 6 (some .int) (rmd 3) [.ref this, .int a1] h0 (f_X7_serve this a1 h0) := by
  refine ct_of (by decide) (Nat.le_of_ble_eq_true rfl) ?_
  intro p e s m args below meth c D cA ad A X hr hlk
  have X : Cx p s m args c RX7 cX7_serve 6 D cA ad A := X
  unfold f_X7_serve
  refine so_pick (L' := [(0, .ref this), (1, .int a1)]) X [0, 1] rfl ?_
  refine so_aload_n (i := 0) X 0 (dkX7_serve (0, .aload_n 0, 1) (pgm 0 rfl)) rfl rfl ?_
  refine sf_getI X ff_7_5 lk_429 hk (dkX7_serve (1, .getfield 57, 3) (pgm 1 rfl)) ?_
  refine so_istore_n (i := 2) X (dkX7_serve (4, .istore_n 2, 1) (pgm 2 rfl)) rfl (by decide) (Lf := fun x1 => [(2, .int x1), (0, .ref this), (1, .int a1)]) (fun _ => rfl) (fun x1 => ?_)
  refine so_iconst (v := (0 : Int32)) X (dkX7_serve (5, .iconst 0, 1) (pgm 3 rfl)) ic_0 ?_
  refine so_istore_n (i := 3) X (dkX7_serve (6, .istore_n 3, 1) (pgm 4 rfl)) rfl (by decide) (Lf := fun x2 => [(3, .int x2), (2, .int x1), (0, .ref this), (1, .int a1)]) (fun _ => rfl) (fun x2 => ?_)
  refine so_iconst (v := (0 : Int32)) X (dkX7_serve (7, .iconst 0, 1) (pgm 5 rfl)) ic_0 ?_
  refine so_istore (i := 4) X (dkX7_serve (8, .istore 4, 2) (pgm 6 rfl)) (by decide) (Lf := fun x3 => [(4, .int x3), (3, .int x2), (2, .int x1), (0, .ref this), (1, .int a1)]) (fun _ => rfl) (fun x3 => ?_)
  refine so_join (jf := fun (y4 : Int32) (h5 : PH) => some (y4, h5)) (fun (j : Int32 → PH → Option (Int32 × PH)) => ∀ (y4 : Int32) (h5 : PH), SWo (QM mkI below args s D cA ad A) p l e (rmd 3) s m args below meth c 0 0 6 D cA ad A 69 [(3, .int y4)] [] h5 (j y4 h5)) ?_ (fun j69 hj69 => ?_)
  · intro y4 h5
    refine so_iload_n (i := 3) X 0 (dkX7_serve (69, .iload_n 3, 1) (pgm 41 rfl)) rfl rfl ?_
    exact so_iret X hr hlk (dkX7_serve (70, .ireturn, 1) (pgm 42 rfl))
  refine so_pick (L' := [(0, .ref this), (1, .int a1), (2, .int x1), (3, .int x2), (4, .int x3)]) X [3, 4, 2, 1, 0] rfl ?_
  refine so_loop (body := b_X7_serve_10 this a1 j69) (fun (s10 : Int32 × Int32 × Int32) => [(0, .ref this), (1, .int a1), (2, .int s10.1), (3, .int s10.2.1), (4, .int s10.2.2)]) (fun rec10 hrec10 s10 hh10 => ?_) FU (x1, x2, x3) h0
  unfold b_X7_serve_10
  refine so_iload (i := 4) X 4 (dkX7_serve (10, .iload 4, 2) (pgm 7 rfl)) rfl ?_
  refine so_aload_n (i := 0) X 0 (dkX7_serve (12, .aload_n 0, 1) (pgm 8 rfl)) rfl rfl ?_
  refine sf_getR X ff_7_0 lk_424 hk (dkX7_serve (13, .getfield 18, 3) (pgm 9 rfl)) ?_
  refine sf_getI X ff_8_5 lk_182 (fo (rk_7_0 this hk)) (dkX7_serve (16, .getfield 60, 3) (pgm 10 rfl)) ?_
  refine so_icmp_ge (tgt := 69) X (dkX7_serve (19, .if_icmp .ge 50, 3) (pgm 11 rfl)) rfl (fun _ => ?_) (fun _ => ?_)
  · exact so_pick X [3] rfl (hj69 s10.2.1 hh10)
  · refine so_iload_n (i := 2) X 2 (dkX7_serve (22, .iload_n 2, 1) (pgm 12 rfl)) rfl rfl ?_
    refine so_if_eq (tgt := 69) X (dkX7_serve (23, .ifCond .eq 46, 3) (pgm 13 rfl)) rfl (fun _ => ?_) (fun _ => ?_)
    · exact so_pick X [3] rfl (hj69 s10.2.1 hh10)
    · refine so_iconst (v := (1 : Int32)) X (dkX7_serve (26, .iconst 1, 1) (pgm 14 rfl)) ic_1 ?_
      refine so_aload_n (i := 0) X 0 (dkX7_serve (27, .aload_n 0, 1) (pgm 15 rfl)) rfl rfl ?_
      refine so_iload_n (i := 2) X 2 (dkX7_serve (28, .iload_n 2, 1) (pgm 16 rfl)) rfl rfl ?_
      refine so_iload_n (i := 1) X 1 (dkX7_serve (29, .iload_n 1, 1) (pgm 17 rfl)) rfl rfl ?_
      refine so_callV (n := 2) (As := [.int s10.1, .int a1]) X (ct_X7_firstOf l this s10.1 a1 hh10 hk) hk (by decide) rfl lk_723 lk_725 lk_8 lk_129 lk_726 (by decide +kernel) rfl rfl rfl (rm_ok (by omega) (by decide)) ⟨Nat.zero_le _, Nat.zero_le _⟩ (Nat.le_of_ble_eq_true rfl) (dkX7_serve (30, .invokevirtual 63, 3) (pgm 18 rfl)) (fun r6 h7 => ?_) rfl
      refine so_ishl X (dkX7_serve (33, .ishl, 1) (pgm 19 rfl)) ?_
      refine so_istore (i := 5) X (dkX7_serve (34, .istore 5, 2) (pgm 20 rfl)) (by decide) (Lf := fun x8 => [(5, .int x8), (0, .ref this), (1, .int a1), (2, .int s10.1), (3, .int s10.2.1), (4, .int s10.2.2)]) (fun _ => rfl) (fun x8 => ?_)
      refine so_iload_n (i := 2) X 3 (dkX7_serve (36, .iload_n 2, 1) (pgm 21 rfl)) rfl rfl ?_
      refine so_iload (i := 5) X 0 (dkX7_serve (37, .iload 5, 2) (pgm 22 rfl)) rfl ?_
      refine so_iconst (v := (-1 : Int32)) X (dkX7_serve (39, .iconst (-1), 1) (pgm 23 rfl)) ic_m1 ?_
      refine so_ixor X (dkX7_serve (40, .ixor, 1) (pgm 24 rfl)) ?_
      refine so_iand X (dkX7_serve (41, .iand, 1) (pgm 25 rfl)) ?_
      refine so_istore_n (i := 2) X (dkX7_serve (42, .istore_n 2, 1) (pgm 26 rfl)) rfl (by decide) (Lf := fun x9 => [(2, .int x9), (5, .int x8), (0, .ref this), (1, .int a1), (3, .int s10.2.1), (4, .int s10.2.2)]) (fun _ => rfl) (fun x9 => ?_)
      refine so_aload_n (i := 0) X 2 (dkX7_serve (43, .aload_n 0, 1) (pgm 27 rfl)) rfl rfl ?_
      refine sf_getR X ff_7_2 lk_426 hk (dkX7_serve (44, .getfield 26, 3) (pgm 28 rfl)) ?_
      refine so_iload_n (i := 3) X 4 (dkX7_serve (47, .iload_n 3, 1) (pgm 29 rfl)) rfl rfl ?_
      refine so_iload (i := 5) X 1 (dkX7_serve (48, .iload 5, 2) (pgm 30 rfl)) rfl ?_
      refine so_ior X (dkX7_serve (50, .ior, 1) (pgm 31 rfl)) ?_
      refine so_callV (n := 1) (As := [.int (s10.2.1 ||| x8)]) X (ct_X2_leastPlan l (rt this 2) (s10.2.1 ||| x8) h7 (fo (rk_7_2 this hk))) (fo (rk_7_2 this hk)) (by decide) rfl lk_735 lk_736 lk_737 lk_128 lk_738 (by decide +kernel) rfl rfl rfl (rm_ok (by omega) (by decide)) ⟨Nat.zero_le _, Nat.zero_le _⟩ (Nat.le_of_ble_eq_true rfl) (dkX7_serve (51, .invokevirtual 67, 3) (pgm 32 rfl)) (fun r10 h11 => ?_) rfl
      refine so_iconst (v := (-1 : Int32)) X (dkX7_serve (54, .iconst (-1), 1) (pgm 33 rfl)) ic_m1 ?_
      refine so_join (jf := fun (y12 : Int32) (h13 : PH) => lt (s10.2.2 + Int32.ofInt 1) (fun (x14 : Int32) => rec10 (x9, y12, x14) h13)) (fun (j : Int32 → PH → Option (Int32 × PH)) => ∀ (y12 : Int32) (h13 : PH), SWo (QM mkI below args s D cA ad A) p l e (rmd 3) s m args below meth c 0 0 6 D cA ad A 63 [(0, .ref this), (1, .int a1), (2, .int x9), (3, .int y12), (4, .int s10.2.2)] [] h13 (j y12 h13)) ?_ (fun j63 hj63 => ?_)
      · intro y12 h13
        refine so_iinc (i := 4) X 4 (dkX7_serve (63, .iinc 4 1, 3) (pgm 39 rfl)) rfl rfl (by decide) (Lf := fun x14 => [(4, .int x14), (0, .ref this), (1, .int a1), (2, .int x9), (3, .int y12)]) (fun _ => rfl) (fun x14 => ?_)
        refine so_goto (tgt := 10) X (dkX7_serve (66, .goto (-56), 3) (pgm 40 rfl)) rfl ?_
        exact so_pick X [1, 2, 3, 4, 0] rfl (hrec10 (x9, y12, x14) h13)
      refine so_icmp_eq (tgt := 63) X (dkX7_serve (55, .if_icmp .eq 8, 3) (pgm 34 rfl)) rfl (fun _ => ?_) (fun _ => ?_)
      · exact so_pick X [2, 3, 0, 4, 5] rfl (hj63 s10.2.1 h11)
      · refine so_iload_n (i := 3) X 4 (dkX7_serve (58, .iload_n 3, 1) (pgm 35 rfl)) rfl rfl ?_
        refine so_iload (i := 5) X 1 (dkX7_serve (59, .iload 5, 2) (pgm 36 rfl)) rfl ?_
        refine so_ior X (dkX7_serve (61, .ior, 1) (pgm 37 rfl)) ?_
        refine so_istore_n (i := 3) X (dkX7_serve (62, .istore_n 3, 1) (pgm 38 rfl)) rfl (by decide) (Lf := fun x15 => [(3, .int x15), (2, .int x9), (5, .int x8), (0, .ref this), (1, .int a1), (4, .int s10.2.2)]) (fun _ => rfl) (fun x15 => ?_)
        exact so_pick X [3, 4, 1, 0, 5] rfl (hj63 x15 h11)
def pgX11_night : List (Nat × Instr × Nat) := [(0, .aload_n 0, 1), (1, .getfield 48, 3), (4, .iload_n 1, 1), (5, .i2l, 1), (6, .aload_n 0, 1), (7, .getfield 39, 3), (10, .getfield 165, 3), (13, .invokevirtual 186, 3), (16, .istore_n 2, 1), (17, .iload_n 2, 1), (18, .ifCond .ne 11, 3), (21, .aload_n 0, 1), (22, .iload_n 1, 1), (23, .invokevirtual 351, 3), (26, .goto 5, 3), (29, .iload_n 2, 1), (30, .ineg, 1), (31, .ireturn, 1)]
theorem dkX11_night : ∀ q ∈ pgX11_night, decode cX11_night q.1 = .ok q.2 := by decide +kernel
def f_X11_night (this : Nat) (a1 : Int32) (h0 : PH) : Option (Int32 × PH) :=
  cb (f_X3_whyNot (rt this 6) a1.toInt64 (h0.1 (rt this 5) 0) h0) (fun (r1 : Int32) (h2 : PH) => lt r1 (fun (x3 : Int32) => lt (fun (t4 : Int32) (h5 : PH) => some (t4, h5)) (fun (j31 : Int32 → PH → Option (Int32 × PH)) => if x3 = 0 then (cb (f_X11_makeNight this a1 h2) (fun (r6 : Int32) (h7 : PH) => j31 r6 h7)) else (j31 (-x3) h2))))
set_option maxRecDepth 100000 in
set_option maxHeartbeats 4000000 in
theorem ct_X11_night (l : Launch) (this : Nat) (a1 : Int32) (h0 : PH) (hk : (kd this).1 = 11) : CT mkI l yX11_night cX11_night 3 (some .int) (rmd 5) [.ref this, .int a1] h0 (f_X11_night this a1 h0) := by
  refine ct_of (by decide) (Nat.le_of_ble_eq_true rfl) ?_
  intro p e s m args below meth c D cA ad A X hr hlk
  have X : Cx p s m args c RX11 cX11_night 3 D cA ad A := X
  unfold f_X11_night
  refine so_pick (L' := [(0, .ref this), (1, .int a1)]) X [0, 1] rfl ?_
  refine so_aload_n (i := 0) X 0 (dkX11_night (0, .aload_n 0, 1) (pgm 0 rfl)) rfl rfl ?_
  refine sf_getR X ff_11_6 lk_571 hk (dkX11_night (1, .getfield 48, 3) (pgm 1 rfl)) ?_
  refine so_iload_n (i := 1) X 1 (dkX11_night (4, .iload_n 1, 1) (pgm 2 rfl)) rfl rfl ?_
  refine so_i2l X (dkX11_night (5, .i2l, 1) (pgm 3 rfl)) ?_
  refine so_aload_n (i := 0) X 0 (dkX11_night (6, .aload_n 0, 1) (pgm 4 rfl)) rfl rfl ?_
  refine sf_getR X ff_11_5 lk_570 hk (dkX11_night (7, .getfield 39, 3) (pgm 5 rfl)) ?_
  refine sf_getI X ff_0_0 lk_338 (fo (rk_11_5 this hk)) (dkX11_night (10, .getfield 165, 3) (pgm 6 rfl)) ?_
  refine so_callV (n := 2) (As := [.long a1.toInt64, .int (h0.1 (rt this 5) 0)]) X (ct_X3_whyNot l (rt this 6) a1.toInt64 (h0.1 (rt this 5) 0) h0 (fo (rk_11_6 this hk))) (fo (rk_11_6 this hk)) (by decide) rfl lk_630 lk_631 lk_632 lk_126 lk_633 (by decide +kernel) rfl rfl rfl (rm_ok (by omega) (by decide)) ⟨Nat.zero_le _, Nat.zero_le _⟩ (Nat.le_of_ble_eq_true rfl) (dkX11_night (13, .invokevirtual 186, 3) (pgm 7 rfl)) (fun r1 h2 => ?_) rfl
  refine so_istore_n (i := 2) X (dkX11_night (16, .istore_n 2, 1) (pgm 8 rfl)) rfl (by decide) (Lf := fun x3 => [(2, .int x3), (0, .ref this), (1, .int a1)]) (fun _ => rfl) (fun x3 => ?_)
  refine so_iload_n (i := 2) X 0 (dkX11_night (17, .iload_n 2, 1) (pgm 9 rfl)) rfl rfl ?_
  refine so_join (jf := fun (t4 : Int32) (h5 : PH) => some (t4, h5)) (fun (j : Int32 → PH → Option (Int32 × PH)) => ∀ (t4 : Int32) (h5 : PH), SWo (QM mkI below args s D cA ad A) p l e (rmd 5) s m args below meth c 0 0 3 D cA ad A 31 [] [.int t4] h5 (j t4 h5)) ?_ (fun j31 hj31 => ?_)
  · intro t4 h5
    exact so_iret X hr hlk (dkX11_night (31, .ireturn, 1) (pgm 17 rfl))
  refine so_if_ne (tgt := 29) X (dkX11_night (18, .ifCond .ne 11, 3) (pgm 10 rfl)) rfl (fun _ => ?_) (fun _ => ?_)
  · refine so_iload_n (i := 2) X 0 (dkX11_night (29, .iload_n 2, 1) (pgm 15 rfl)) rfl rfl ?_
    refine so_ineg X (dkX11_night (30, .ineg, 1) (pgm 16 rfl)) ?_
    exact so_pick X [] rfl (hj31 (-x3) h2)
  · refine so_aload_n (i := 0) X 1 (dkX11_night (21, .aload_n 0, 1) (pgm 11 rfl)) rfl rfl ?_
    refine so_iload_n (i := 1) X 2 (dkX11_night (22, .iload_n 1, 1) (pgm 12 rfl)) rfl rfl ?_
    refine so_callV (n := 1) (As := [.int a1]) X (ct_X11_makeNight l this a1 h2 hk) hk (by decide) rfl lk_748 lk_750 lk_11 lk_121 lk_751 (by decide +kernel) rfl rfl rfl (rm_ok (by omega) (by decide)) ⟨Nat.zero_le _, Nat.zero_le _⟩ (Nat.le_of_ble_eq_true rfl) (dkX11_night (23, .invokevirtual 351, 3) (pgm 13 rfl)) (fun r6 h7 => ?_) rfl
    refine so_goto (tgt := 31) X (dkX11_night (26, .goto 5, 3) (pgm 14 rfl)) rfl ?_
    exact so_pick X [] rfl (hj31 r6 h7)
def pgX2_settled : List (Nat × Instr × Nat) := [(0, .aload_n 0, 1), (1, .getfield 33, 3), (4, .ifCond .eq 17, 3), (7, .aload_n 0, 1), (8, .getfield 37, 3), (11, .aload_n 0, 1), (12, .getfield 25, 3), (15, .getfield 41, 3), (18, .if_icmp .eq 7, 3), (21, .aload_n 0, 1), (22, .invokevirtual 44, 3), (25, .aload_n 0, 1), (26, .areturn, 1)]
theorem dkX2_settled : ∀ q ∈ pgX2_settled, decode cX2_settled q.1 = .ok q.2 := by decide +kernel
def f_X2_settled (this : Nat) (h0 : PH) : Option (Unit × PH) :=
  lt (fun (h1 : PH) => some ((), h1)) (fun (j25 : PH → Option (Unit × PH)) => lt (fun (h2 : PH) => cb (f_X2_settle this h2) (fun (r3 : Unit) (h4 : PH) => j25 h4)) (fun (j21 : PH → Option (Unit × PH)) => if (h0.1 this 8) = 0 then (j21 h0) else (if (h0.1 this 7) = (h0.1 (rt this 1) 0) then (j25 h0) else (j21 h0))))
set_option maxRecDepth 100000 in
set_option maxHeartbeats 4000000 in
theorem ct_X2_settled (l : Launch) (this : Nat) (h0 : PH) (hk : (kd this).1 = 2) : CT (mkT this) l yX2_settled cX2_settled 1 (some (.object "RainWishes$Choices")) (rmd 5) [.ref this] h0 (f_X2_settled this h0) := by
  refine ct_of (by decide) (Nat.le_of_ble_eq_true rfl) ?_
  intro p e s m args below meth c D cA ad A X hr hlk
  have X : Cx p s m args c RX2 cX2_settled 1 D cA ad A := X
  unfold f_X2_settled
  refine so_pick (L' := [(0, .ref this)]) X [0] rfl ?_
  refine so_aload_n (i := 0) X 0 (dkX2_settled (0, .aload_n 0, 1) (pgm 0 rfl)) rfl rfl ?_
  refine sf_getI X ff_2_8 lk_398 hk (dkX2_settled (1, .getfield 33, 3) (pgm 1 rfl)) ?_
  refine so_join (jf := fun (h1 : PH) => some ((), h1)) (fun (j : PH → Option (Unit × PH)) => ∀  (h1 : PH), SWo (QM (mkT this) below args s D cA ad A) p l e (rmd 5) s m args below meth c 0 0 1 D cA ad A 25 [(0, .ref this)] [] h1 (j h1)) ?_ (fun j25 hj25 => ?_)
  · intro h1
    refine so_aload_n (i := 0) X 0 (dkX2_settled (25, .aload_n 0, 1) (pgm 11 rfl)) rfl rfl ?_
    exact so_tret X hr hlk (dkX2_settled (26, .areturn, 1) (pgm 12 rfl))
  refine so_join (jf := fun (h2 : PH) => cb (f_X2_settle this h2) (fun (r3 : Unit) (h4 : PH) => j25 h4)) (fun (j : PH → Option (Unit × PH)) => ∀  (h2 : PH), SWo (QM (mkT this) below args s D cA ad A) p l e (rmd 5) s m args below meth c 0 0 1 D cA ad A 21 [(0, .ref this)] [] h2 (j h2)) ?_ (fun j21 hj21 => ?_)
  · intro h2
    refine so_aload_n (i := 0) X 0 (dkX2_settled (21, .aload_n 0, 1) (pgm 9 rfl)) rfl rfl ?_
    refine so_callV (n := 0) (As := []) X (ct_X2_settle l this h2 hk) hk (by decide) rfl lk_670 lk_672 lk_2 lk_128 lk_673 (by decide +kernel) rfl rfl rfl (rm_ok (by omega) (by decide)) ⟨Nat.zero_le _, Nat.zero_le _⟩ (Nat.le_of_ble_eq_true rfl) (dkX2_settled (22, .invokevirtual 44, 3) (pgm 10 rfl)) (fun r3 h4 => ?_) rfl
    exact so_pick X [0] rfl (hj25 h4)
  refine so_if_eq (tgt := 21) X (dkX2_settled (4, .ifCond .eq 17, 3) (pgm 2 rfl)) rfl (fun _ => ?_) (fun _ => ?_)
  · exact so_pick X [0] rfl (hj21 h0)
  · refine so_aload_n (i := 0) X 0 (dkX2_settled (7, .aload_n 0, 1) (pgm 3 rfl)) rfl rfl ?_
    refine sf_getI X ff_2_7 lk_397 hk (dkX2_settled (8, .getfield 37, 3) (pgm 4 rfl)) ?_
    refine so_aload_n (i := 0) X 0 (dkX2_settled (11, .aload_n 0, 1) (pgm 5 rfl)) rfl rfl ?_
    refine sf_getR X ff_2_1 lk_387 hk (dkX2_settled (12, .getfield 25, 3) (pgm 6 rfl)) ?_
    refine sf_getI X ff_0_0 lk_336 (fo (rk_2_1 this hk)) (dkX2_settled (15, .getfield 41, 3) (pgm 7 rfl)) ?_
    refine so_icmp_eq (tgt := 25) X (dkX2_settled (18, .if_icmp .eq 7, 3) (pgm 8 rfl)) rfl (fun _ => ?_) (fun _ => ?_)
    · exact so_pick X [0] rfl (hj25 h0)
    · exact so_pick X [0] rfl (hj21 h0)
def pgX7_servedAsAsked : List (Nat × Instr × Nat) := [(0, .aload_n 0, 1), (1, .invokevirtual 30, 3), (4, .aload_n 0, 1), (5, .iload_n 1, 1), (6, .invokevirtual 33, 3), (9, .ireturn, 1)]
theorem dkX7_servedAsAsked : ∀ q ∈ pgX7_servedAsAsked, decode cX7_servedAsAsked q.1 = .ok q.2 := by decide +kernel
def f_X7_servedAsAsked (this : Nat) (a1 : Int32) (h0 : PH) : Option (Int32 × PH) :=
  cb (f_X7_sayAsItIs this h0) (fun (r1 : Unit) (h2 : PH) => cb (f_X7_serve this a1 h2) (fun (r3 : Int32) (h4 : PH) => some (r3, h4)))
set_option maxRecDepth 100000 in
set_option maxHeartbeats 4000000 in
theorem ct_X7_servedAsAsked (l : Launch) (this : Nat) (a1 : Int32) (h0 : PH) (hk : (kd this).1 = 7) : CT mkI l yX7_servedAsAsked cX7_servedAsAsked 2 (some .int) (rmd 4) [.ref this, .int a1] h0 (f_X7_servedAsAsked this a1 h0) := by
  refine ct_of (by decide) (Nat.le_of_ble_eq_true rfl) ?_
  intro p e s m args below meth c D cA ad A X hr hlk
  have X : Cx p s m args c RX7 cX7_servedAsAsked 2 D cA ad A := X
  unfold f_X7_servedAsAsked
  refine so_pick (L' := [(0, .ref this), (1, .int a1)]) X [0, 1] rfl ?_
  refine so_aload_n (i := 0) X 0 (dkX7_servedAsAsked (0, .aload_n 0, 1) (pgm 0 rfl)) rfl rfl ?_
  refine so_callV (n := 0) (As := []) X (ct_X7_sayAsItIs l this h0 hk) hk (by decide) rfl lk_712 lk_714 lk_6 lk_129 lk_715 (by decide +kernel) rfl rfl rfl (rm_ok (by omega) (by decide)) ⟨Nat.zero_le _, Nat.zero_le _⟩ (Nat.le_of_ble_eq_true rfl) (dkX7_servedAsAsked (1, .invokevirtual 30, 3) (pgm 1 rfl)) (fun r1 h2 => ?_) rfl
  refine so_aload_n (i := 0) X 0 (dkX7_servedAsAsked (4, .aload_n 0, 1) (pgm 2 rfl)) rfl rfl ?_
  refine so_iload_n (i := 1) X 1 (dkX7_servedAsAsked (5, .iload_n 1, 1) (pgm 3 rfl)) rfl rfl ?_
  refine so_callV (n := 1) (As := [.int a1]) X (ct_X7_serve l this a1 h2 hk) hk (by decide) rfl lk_719 lk_721 lk_7 lk_129 lk_722 (by decide +kernel) rfl rfl rfl (rm_ok (by omega) (by decide)) ⟨Nat.zero_le _, Nat.zero_le _⟩ (Nat.le_of_ble_eq_true rfl) (dkX7_servedAsAsked (6, .invokevirtual 33, 3) (pgm 4 rfl)) (fun r3 h4 => ?_) rfl
  exact so_iret X hr hlk (dkX7_servedAsAsked (9, .ireturn, 1) (pgm 5 rfl))
def pgX7_findGain : List (Nat × Instr × Nat) := [(0, .aload_n 0, 1), (1, .iload_n 1, 1), (2, .aload_n 0, 1), (3, .iload_n 2, 1), (4, .invokevirtual 86, 3), (7, .invokevirtual 89, 3), (10, .istore_n 3, 1), (11, .aload_n 0, 1), (12, .iconst 0, 1), (13, .putfield 92, 3), (16, .aload_n 0, 1), (17, .iconst (-1), 1), (18, .putfield 95, 3), (21, .iconst 1, 1), (22, .istore 4, 2), (24, .iload 4, 2), (26, .iconst 3, 1), (27, .if_icmp .gt 96, 3), (30, .iconst 0, 1), (31, .istore 5, 2), (33, .iload 5, 2), (35, .aload_n 0, 1), (36, .getfield 18, 3), (39, .getfield 60, 3), (42, .if_icmp .ge 75, 3), (45, .aload_n 0, 1), (46, .getfield 18, 3), (49, .getfield 75, 3), (52, .iload 5, 2), (54, .iaload, 1), (55, .iload_n 1, 1), (56, .if_icmp .ne 55, 3), (59, .aload_n 0, 1), (60, .iload 5, 2), (62, .iload 4, 2), (64, .invokevirtual 98, 3), (67, .ifCond .eq 44, 3), (70, .aload_n 0, 1), (71, .iload_n 1, 1), (72, .aload_n 0, 1), (73, .iload_n 2, 1), (74, .invokevirtual 33, 3), (77, .invokevirtual 89, 3), (80, .iload_n 3, 1), (81, .isub, 1), (82, .istore 6, 2), (84, .iload 6, 2), (86, .aload_n 0, 1), (87, .getfield 92, 3), (90, .if_icmp .le 21, 3), (93, .aload_n 0, 1), (94, .iload 6, 2), (96, .putfield 92, 3), (99, .aload_n 0, 1), (100, .bipush 10, 2), (102, .iload 4, 2), (104, .imul, 1), (105, .iload 5, 2), (107, .iadd, 1), (108, .putfield 95, 3), (111, .iinc 5 1, 3), (114, .goto (-81), 3), (117, .iinc 4 1, 3), (120, .goto (-96), 3), (123, .return_, 1)]
theorem dkX7_findGain : ∀ q ∈ pgX7_findGain, decode cX7_findGain q.1 = .ok q.2 := by decide +kernel
def b_X7_findGain_33 (this : Nat) (a1 : Int32) (a2 : Int32) (x5 : Int32) (s24 : Int32) (j117 : PH → Option (Unit × PH)) (rec33 : (Int32) → PH → Option (Unit × PH)) (s33 : Int32) (hh33 : PH) : Option (Unit × PH) :=
  if (hh33.1 (rt this 0) 5) ≤ s33 then (j117 hh33) else (ldI hh33 (rt (rt this 0) 12) 10 s33 (fun (x12 : Int32) => lt (fun (h13 : PH) => lt (s33 + Int32.ofInt 1) (fun (x14 : Int32) => rec33 x14 h13)) (fun (j111 : PH → Option (Unit × PH)) => if x12 = a1 then (cb (f_X7_sayOtherwise this s33 s24 hh33) (fun (r15 : Int32) (h16 : PH) => if r15 = 0 then (j111 h16) else (cb (f_X7_serve this a2 h16) (fun (r17 : Int32) (h18 : PH) => cb (f_X7_weightFor this a1 r17 h18) (fun (r19 : Int32) (h20 : PH) => lt (r19 - x5) (fun (x21 : Int32) => if x21 ≤ (h20.1 this 6) then (j111 h20) else (lt (pI h20 this 6 x21) (fun (h22 : PH) => lt (pI h22 this 7 (((10 : Int32) * s24) + s33)) (fun (h23 : PH) => j111 h23))))))))) else (j111 hh33))))
def b_X7_findGain_24 (this : Nat) (a1 : Int32) (a2 : Int32) (x5 : Int32) (rec24 : (Int32) → PH → Option (Unit × PH)) (s24 : Int32) (hh24 : PH) : Option (Unit × PH) :=
  if (3 : Int32) < s24 then (some ((), hh24)) else (lt (0 : Int32) (fun (x9 : Int32) => lt (fun (h10 : PH) => lt (s24 + Int32.ofInt 1) (fun (x11 : Int32) => rec24 x11 h10)) (fun (j117 : PH → Option (Unit × PH)) => lp (b_X7_findGain_33 this a1 a2 x5 s24 j117) FU x9 hh24)))
def f_X7_findGain (this : Nat) (a1 : Int32) (a2 : Int32) (h0 : PH) : Option (Unit × PH) :=
  cb (f_X7_servedAsAsked this a2 h0) (fun (r1 : Int32) (h2 : PH) => cb (f_X7_weightFor this a1 r1 h2) (fun (r3 : Int32) (h4 : PH) => lt r3 (fun (x5 : Int32) => lt (pI h4 this 6 (0 : Int32)) (fun (h6 : PH) => lt (pI h6 this 7 (-1 : Int32)) (fun (h7 : PH) => lt (1 : Int32) (fun (x8 : Int32) => lp (b_X7_findGain_24 this a1 a2 x5) FU x8 h7))))))
set_option maxRecDepth 100000 in
set_option maxHeartbeats 4000000 in
theorem ct_X7_findGain (l : Launch) (this : Nat) (a1 : Int32) (a2 : Int32) (h0 : PH) (hk : (kd this).1 = 7) : CT mkV l yX7_findGain cX7_findGain 7 none (rmd 5) [.ref this, .int a1, .int a2] h0 (f_X7_findGain this a1 a2 h0) := by
  refine ct_of (by decide) (Nat.le_of_ble_eq_true rfl) ?_
  intro p e s m args below meth c D cA ad A X hr hlk
  have X : Cx p s m args c RX7 cX7_findGain 7 D cA ad A := X
  unfold f_X7_findGain
  refine so_pick (L' := [(0, .ref this), (1, .int a1), (2, .int a2)]) X [0, 1, 2] rfl ?_
  refine so_aload_n (i := 0) X 0 (dkX7_findGain (0, .aload_n 0, 1) (pgm 0 rfl)) rfl rfl ?_
  refine so_iload_n (i := 1) X 1 (dkX7_findGain (1, .iload_n 1, 1) (pgm 1 rfl)) rfl rfl ?_
  refine so_aload_n (i := 0) X 0 (dkX7_findGain (2, .aload_n 0, 1) (pgm 2 rfl)) rfl rfl ?_
  refine so_iload_n (i := 2) X 2 (dkX7_findGain (3, .iload_n 2, 1) (pgm 3 rfl)) rfl rfl ?_
  refine so_callV (n := 1) (As := [.int a2]) X (ct_X7_servedAsAsked l this a2 h0 hk) hk (by decide) rfl lk_1348 lk_709 lk_710 lk_129 lk_711 (by decide +kernel) rfl rfl rfl (rm_ok (by omega) (by decide)) ⟨Nat.zero_le _, Nat.zero_le _⟩ (Nat.le_of_ble_eq_true rfl) (dkX7_findGain (4, .invokevirtual 86, 3) (pgm 4 rfl)) (fun r1 h2 => ?_) rfl
  refine so_callV (n := 2) (As := [.int a1, .int r1]) X (ct_X7_weightFor l this a1 r1 h2 hk) hk (by decide) rfl lk_1349 lk_1334 lk_1335 lk_129 lk_1336 (by decide +kernel) rfl rfl rfl (rm_ok (by omega) (by decide)) ⟨Nat.zero_le _, Nat.zero_le _⟩ (Nat.le_of_ble_eq_true rfl) (dkX7_findGain (7, .invokevirtual 89, 3) (pgm 5 rfl)) (fun r3 h4 => ?_) rfl
  refine so_istore_n (i := 3) X (dkX7_findGain (10, .istore_n 3, 1) (pgm 6 rfl)) rfl (by decide) (Lf := fun x5 => [(3, .int x5), (0, .ref this), (1, .int a1), (2, .int a2)]) (fun _ => rfl) (fun x5 => ?_)
  refine so_aload_n (i := 0) X 1 (dkX7_findGain (11, .aload_n 0, 1) (pgm 7 rfl)) rfl rfl ?_
  refine so_iconst (v := (0 : Int32)) X (dkX7_findGain (12, .iconst 0, 1) (pgm 8 rfl)) ic_0 ?_
  refine sf_putI X ff_7_6 ft_7 rfl lk_430 hk rfl rfl (dkX7_findGain (13, .putfield 92, 3) (pgm 9 rfl)) (fun h6 => ?_)
  refine so_aload_n (i := 0) X 1 (dkX7_findGain (16, .aload_n 0, 1) (pgm 10 rfl)) rfl rfl ?_
  refine so_iconst (v := (-1 : Int32)) X (dkX7_findGain (17, .iconst (-1), 1) (pgm 11 rfl)) ic_m1 ?_
  refine sf_putI X ff_7_7 ft_7 rfl lk_432 hk rfl rfl (dkX7_findGain (18, .putfield 95, 3) (pgm 12 rfl)) (fun h7 => ?_)
  refine so_iconst (v := (1 : Int32)) X (dkX7_findGain (21, .iconst 1, 1) (pgm 13 rfl)) ic_1 ?_
  refine so_istore (i := 4) X (dkX7_findGain (22, .istore 4, 2) (pgm 14 rfl)) (by decide) (Lf := fun x8 => [(4, .int x8), (3, .int x5), (0, .ref this), (1, .int a1), (2, .int a2)]) (fun _ => rfl) (fun x8 => ?_)
  refine so_pick (L' := [(0, .ref this), (1, .int a1), (2, .int a2), (3, .int x5), (4, .int x8)]) X [2, 3, 4, 1, 0] rfl ?_
  refine so_loop (body := b_X7_findGain_24 this a1 a2 x5) (fun (s24 : Int32) => [(0, .ref this), (1, .int a1), (2, .int a2), (3, .int x5), (4, .int s24)]) (fun rec24 hrec24 s24 hh24 => ?_) FU x8 h7
  unfold b_X7_findGain_24
  refine so_iload (i := 4) X 4 (dkX7_findGain (24, .iload 4, 2) (pgm 15 rfl)) rfl ?_
  refine so_iconst (v := (3 : Int32)) X (dkX7_findGain (26, .iconst 3, 1) (pgm 16 rfl)) ic_3 ?_
  refine so_icmp_gt (tgt := 123) X (dkX7_findGain (27, .if_icmp .gt 96, 3) (pgm 17 rfl)) rfl (fun _ => ?_) (fun _ => ?_)
  · exact so_vret X hr hlk (dkX7_findGain (123, .return_, 1) (pgm 64 rfl))
  · refine so_iconst (v := (0 : Int32)) X (dkX7_findGain (30, .iconst 0, 1) (pgm 18 rfl)) ic_0 ?_
    refine so_istore (i := 5) X (dkX7_findGain (31, .istore 5, 2) (pgm 19 rfl)) (by decide) (Lf := fun x9 => [(5, .int x9), (0, .ref this), (1, .int a1), (2, .int a2), (3, .int x5), (4, .int s24)]) (fun _ => rfl) (fun x9 => ?_)
    refine so_join (jf := fun (h10 : PH) => lt (s24 + Int32.ofInt 1) (fun (x11 : Int32) => rec24 x11 h10)) (fun (j : PH → Option (Unit × PH)) => ∀  (h10 : PH), SWo (QM mkV below args s D cA ad A) p l e (rmd 5) s m args below meth c 0 0 7 D cA ad A 117 [(0, .ref this), (1, .int a1), (2, .int a2), (3, .int x5), (4, .int s24)] [] h10 (j h10)) ?_ (fun j117 hj117 => ?_)
    · intro h10
      refine so_iinc (i := 4) X 4 (dkX7_findGain (117, .iinc 4 1, 3) (pgm 62 rfl)) rfl rfl (by decide) (Lf := fun x11 => [(4, .int x11), (0, .ref this), (1, .int a1), (2, .int a2), (3, .int x5)]) (fun _ => rfl) (fun x11 => ?_)
      refine so_goto (tgt := 24) X (dkX7_findGain (120, .goto (-96), 3) (pgm 63 rfl)) rfl ?_
      exact so_pick X [1, 2, 3, 4, 0] rfl (hrec24 x11 h10)
    refine so_pick (L' := [(0, .ref this), (1, .int a1), (2, .int a2), (3, .int x5), (4, .int s24), (5, .int x9)]) X [1, 2, 3, 4, 5, 0] rfl ?_
    refine so_loop (body := b_X7_findGain_33 this a1 a2 x5 s24 j117) (fun (s33 : Int32) => [(0, .ref this), (1, .int a1), (2, .int a2), (3, .int x5), (4, .int s24), (5, .int s33)]) (fun rec33 hrec33 s33 hh33 => ?_) FU x9 hh24
    unfold b_X7_findGain_33
    refine so_iload (i := 5) X 5 (dkX7_findGain (33, .iload 5, 2) (pgm 20 rfl)) rfl ?_
    refine so_aload_n (i := 0) X 0 (dkX7_findGain (35, .aload_n 0, 1) (pgm 21 rfl)) rfl rfl ?_
    refine sf_getR X ff_7_0 lk_424 hk (dkX7_findGain (36, .getfield 18, 3) (pgm 22 rfl)) ?_
    refine sf_getI X ff_8_5 lk_182 (fo (rk_7_0 this hk)) (dkX7_findGain (39, .getfield 60, 3) (pgm 23 rfl)) ?_
    refine so_icmp_ge (tgt := 117) X (dkX7_findGain (42, .if_icmp .ge 75, 3) (pgm 24 rfl)) rfl (fun _ => ?_) (fun _ => ?_)
    · exact so_pick X [0, 1, 2, 3, 4] rfl (hj117 hh33)
    · refine so_aload_n (i := 0) X 0 (dkX7_findGain (45, .aload_n 0, 1) (pgm 25 rfl)) rfl rfl ?_
      refine sf_getR X ff_7_0 lk_424 hk (dkX7_findGain (46, .getfield 18, 3) (pgm 26 rfl)) ?_
      refine sf_getR X ff_8_12 lk_208 (fo (rk_7_0 this hk)) (dkX7_findGain (49, .getfield 75, 3) (pgm 27 rfl)) ?_
      refine so_iload (i := 5) X 5 (dkX7_findGain (52, .iload 5, 2) (pgm 28 rfl)) rfl ?_
      refine so_iald X (rk_8_12 (rt this 0) (fo (rk_7_0 this hk))) (dkX7_findGain (54, .iaload, 1) (pgm 29 rfl)) (fun x12 => ?_)
      refine so_iload_n (i := 1) X 1 (dkX7_findGain (55, .iload_n 1, 1) (pgm 30 rfl)) rfl rfl ?_
      refine so_join (jf := fun (h13 : PH) => lt (s33 + Int32.ofInt 1) (fun (x14 : Int32) => rec33 x14 h13)) (fun (j : PH → Option (Unit × PH)) => ∀  (h13 : PH), SWo (QM mkV below args s D cA ad A) p l e (rmd 5) s m args below meth c 0 0 7 D cA ad A 111 [(0, .ref this), (1, .int a1), (2, .int a2), (3, .int x5), (4, .int s24), (5, .int s33)] [] h13 (j h13)) ?_ (fun j111 hj111 => ?_)
      · intro h13
        refine so_iinc (i := 5) X 5 (dkX7_findGain (111, .iinc 5 1, 3) (pgm 60 rfl)) rfl rfl (by decide) (Lf := fun x14 => [(5, .int x14), (0, .ref this), (1, .int a1), (2, .int a2), (3, .int x5), (4, .int s24)]) (fun _ => rfl) (fun x14 => ?_)
        refine so_goto (tgt := 33) X (dkX7_findGain (114, .goto (-81), 3) (pgm 61 rfl)) rfl ?_
        exact so_pick X [1, 2, 3, 4, 5, 0] rfl (hrec33 x14 h13)
      refine so_icmp_ne (tgt := 111) X (dkX7_findGain (56, .if_icmp .ne 55, 3) (pgm 31 rfl)) rfl (fun _ => ?_) (fun _ => ?_)
      · exact so_pick X [0, 1, 2, 3, 4, 5] rfl (hj111 hh33)
      · refine so_aload_n (i := 0) X 0 (dkX7_findGain (59, .aload_n 0, 1) (pgm 32 rfl)) rfl rfl ?_
        refine so_iload (i := 5) X 5 (dkX7_findGain (60, .iload 5, 2) (pgm 33 rfl)) rfl ?_
        refine so_iload (i := 4) X 4 (dkX7_findGain (62, .iload 4, 2) (pgm 34 rfl)) rfl ?_
        refine so_callV (n := 2) (As := [.int s33, .int s24]) X (ct_X7_sayOtherwise l this s33 s24 hh33 hk) hk (by decide) rfl lk_1350 lk_1352 lk_41 lk_129 lk_1353 (by decide +kernel) rfl rfl rfl (rm_ok (by omega) (by decide)) ⟨Nat.zero_le _, Nat.zero_le _⟩ (Nat.le_of_ble_eq_true rfl) (dkX7_findGain (64, .invokevirtual 98, 3) (pgm 35 rfl)) (fun r15 h16 => ?_) rfl
        refine so_if_eq (tgt := 111) X (dkX7_findGain (67, .ifCond .eq 44, 3) (pgm 36 rfl)) rfl (fun _ => ?_) (fun _ => ?_)
        · exact so_pick X [0, 1, 2, 3, 4, 5] rfl (hj111 h16)
        · refine so_aload_n (i := 0) X 0 (dkX7_findGain (70, .aload_n 0, 1) (pgm 37 rfl)) rfl rfl ?_
          refine so_iload_n (i := 1) X 1 (dkX7_findGain (71, .iload_n 1, 1) (pgm 38 rfl)) rfl rfl ?_
          refine so_aload_n (i := 0) X 0 (dkX7_findGain (72, .aload_n 0, 1) (pgm 39 rfl)) rfl rfl ?_
          refine so_iload_n (i := 2) X 2 (dkX7_findGain (73, .iload_n 2, 1) (pgm 40 rfl)) rfl rfl ?_
          refine so_callV (n := 1) (As := [.int a2]) X (ct_X7_serve l this a2 h16 hk) hk (by decide) rfl lk_719 lk_721 lk_7 lk_129 lk_722 (by decide +kernel) rfl rfl rfl (rm_ok (by omega) (by decide)) ⟨Nat.zero_le _, Nat.zero_le _⟩ (Nat.le_of_ble_eq_true rfl) (dkX7_findGain (74, .invokevirtual 33, 3) (pgm 41 rfl)) (fun r17 h18 => ?_) rfl
          refine so_callV (n := 2) (As := [.int a1, .int r17]) X (ct_X7_weightFor l this a1 r17 h18 hk) hk (by decide) rfl lk_1349 lk_1334 lk_1335 lk_129 lk_1336 (by decide +kernel) rfl rfl rfl (rm_ok (by omega) (by decide)) ⟨Nat.zero_le _, Nat.zero_le _⟩ (Nat.le_of_ble_eq_true rfl) (dkX7_findGain (77, .invokevirtual 89, 3) (pgm 42 rfl)) (fun r19 h20 => ?_) rfl
          refine so_iload_n (i := 3) X 3 (dkX7_findGain (80, .iload_n 3, 1) (pgm 43 rfl)) rfl rfl ?_
          refine so_isub X (dkX7_findGain (81, .isub, 1) (pgm 44 rfl)) ?_
          refine so_istore (i := 6) X (dkX7_findGain (82, .istore 6, 2) (pgm 45 rfl)) (by decide) (Lf := fun x21 => [(6, .int x21), (0, .ref this), (1, .int a1), (2, .int a2), (3, .int x5), (4, .int s24), (5, .int s33)]) (fun _ => rfl) (fun x21 => ?_)
          refine so_iload (i := 6) X 0 (dkX7_findGain (84, .iload 6, 2) (pgm 46 rfl)) rfl ?_
          refine so_aload_n (i := 0) X 1 (dkX7_findGain (86, .aload_n 0, 1) (pgm 47 rfl)) rfl rfl ?_
          refine sf_getI X ff_7_6 lk_430 hk (dkX7_findGain (87, .getfield 92, 3) (pgm 48 rfl)) ?_
          refine so_icmp_le (tgt := 111) X (dkX7_findGain (90, .if_icmp .le 21, 3) (pgm 49 rfl)) rfl (fun _ => ?_) (fun _ => ?_)
          · exact so_pick X [1, 2, 3, 4, 5, 6] rfl (hj111 h20)
          · refine so_aload_n (i := 0) X 1 (dkX7_findGain (93, .aload_n 0, 1) (pgm 50 rfl)) rfl rfl ?_
            refine so_iload (i := 6) X 0 (dkX7_findGain (94, .iload 6, 2) (pgm 51 rfl)) rfl ?_
            refine sf_putI X ff_7_6 ft_7 rfl lk_430 hk rfl rfl (dkX7_findGain (96, .putfield 92, 3) (pgm 52 rfl)) (fun h22 => ?_)
            refine so_aload_n (i := 0) X 1 (dkX7_findGain (99, .aload_n 0, 1) (pgm 53 rfl)) rfl rfl ?_
            refine so_bipush (v := (10 : Int32)) X (dkX7_findGain (100, .bipush 10, 2) (pgm 54 rfl)) bp_10 ?_
            refine so_iload (i := 4) X 5 (dkX7_findGain (102, .iload 4, 2) (pgm 55 rfl)) rfl ?_
            refine so_imul X (dkX7_findGain (104, .imul, 1) (pgm 56 rfl)) ?_
            refine so_iload (i := 5) X 6 (dkX7_findGain (105, .iload 5, 2) (pgm 57 rfl)) rfl ?_
            refine so_iadd X (dkX7_findGain (107, .iadd, 1) (pgm 58 rfl)) ?_
            refine sf_putI X ff_7_7 ft_7 rfl lk_432 hk rfl rfl (dkX7_findGain (108, .putfield 95, 3) (pgm 59 rfl)) (fun h23 => ?_)
            exact so_pick X [1, 2, 3, 4, 5, 6] rfl (hj111 h23)
def pgX11_plans : List (Nat × Instr × Nat) := [(0, .aload_n 0, 1), (1, .getfield 57, 3), (4, .invokevirtual 194, 3), (7, .getfield 198, 3), (10, .ireturn, 1)]
theorem dkX11_plans : ∀ q ∈ pgX11_plans, decode cX11_plans q.1 = .ok q.2 := by decide +kernel
def f_X11_plans (this : Nat) (h0 : PH) : Option (Int32 × PH) :=
  cb (f_X2_settled (rt this 7) h0) (fun (r1 : Unit) (h2 : PH) => some ((h2.1 (rt this 7) 4), h2))
set_option maxRecDepth 100000 in
set_option maxHeartbeats 4000000 in
theorem ct_X11_plans (l : Launch) (this : Nat) (h0 : PH) (hk : (kd this).1 = 11) : CT mkI l yX11_plans cX11_plans 1 (some .int) (rmd 6) [.ref this] h0 (f_X11_plans this h0) := by
  refine ct_of (by decide) (Nat.le_of_ble_eq_true rfl) ?_
  intro p e s m args below meth c D cA ad A X hr hlk
  have X : Cx p s m args c RX11 cX11_plans 1 D cA ad A := X
  unfold f_X11_plans
  refine so_pick (L' := [(0, .ref this)]) X [0] rfl ?_
  refine so_aload_n (i := 0) X 0 (dkX11_plans (0, .aload_n 0, 1) (pgm 0 rfl)) rfl rfl ?_
  refine sf_getR X ff_11_7 lk_572 hk (dkX11_plans (1, .getfield 57, 3) (pgm 1 rfl)) ?_
  refine so_callV (n := 0) (As := []) X (ct_X2_settled l (rt this 7) h0 (fo (rk_11_7 this hk))) (fo (rk_11_7 this hk)) (by decide) rfl lk_666 lk_667 lk_668 lk_128 lk_669 (by decide +kernel) rfl rfl rfl (rm_ok (by omega) (by decide)) ⟨Nat.zero_le _, Nat.zero_le _⟩ (Nat.le_of_ble_eq_true rfl) (dkX11_plans (4, .invokevirtual 194, 3) (pgm 2 rfl)) (fun r1 h2 => ?_) rfl
  refine sf_getI X ff_2_4 lk_394 (fo (rk_11_7 this hk)) (dkX11_plans (7, .getfield 198, 3) (pgm 3 rfl)) ?_
  exact so_iret X hr hlk (dkX11_plans (10, .ireturn, 1) (pgm 4 rfl))
def pgX11_nights : List (Nat × Instr × Nat) := [(0, .aload_n 0, 1), (1, .getfield 57, 3), (4, .invokevirtual 194, 3), (7, .invokevirtual 257, 3), (10, .ireturn, 1)]
theorem dkX11_nights : ∀ q ∈ pgX11_nights, decode cX11_nights q.1 = .ok q.2 := by decide +kernel
def f_X11_nights (this : Nat) (h0 : PH) : Option (Int32 × PH) :=
  cb (f_X2_settled (rt this 7) h0) (fun (r1 : Unit) (h2 : PH) => cb (f_X2_nightsForAll (rt this 7) h2) (fun (r3 : Int32) (h4 : PH) => some (r3, h4)))
set_option maxRecDepth 100000 in
set_option maxHeartbeats 4000000 in
theorem ct_X11_nights (l : Launch) (this : Nat) (h0 : PH) (hk : (kd this).1 = 11) : CT mkI l yX11_nights cX11_nights 1 (some .int) (rmd 6) [.ref this] h0 (f_X11_nights this h0) := by
  refine ct_of (by decide) (Nat.le_of_ble_eq_true rfl) ?_
  intro p e s m args below meth c D cA ad A X hr hlk
  have X : Cx p s m args c RX11 cX11_nights 1 D cA ad A := X
  unfold f_X11_nights
  refine so_pick (L' := [(0, .ref this)]) X [0] rfl ?_
  refine so_aload_n (i := 0) X 0 (dkX11_nights (0, .aload_n 0, 1) (pgm 0 rfl)) rfl rfl ?_
  refine sf_getR X ff_11_7 lk_572 hk (dkX11_nights (1, .getfield 57, 3) (pgm 1 rfl)) ?_
  refine so_callV (n := 0) (As := []) X (ct_X2_settled l (rt this 7) h0 (fo (rk_11_7 this hk))) (fo (rk_11_7 this hk)) (by decide) rfl lk_666 lk_667 lk_668 lk_128 lk_669 (by decide +kernel) rfl rfl rfl (rm_ok (by omega) (by decide)) ⟨Nat.zero_le _, Nat.zero_le _⟩ (Nat.le_of_ble_eq_true rfl) (dkX11_nights (4, .invokevirtual 194, 3) (pgm 2 rfl)) (fun r1 h2 => ?_) rfl
  refine so_callV (n := 0) (As := []) X (ct_X2_nightsForAll l (rt this 7) h2 (fo (rk_11_7 this hk))) (fo (rk_11_7 this hk)) (by decide) rfl lk_692 lk_693 lk_694 lk_128 lk_695 (by decide +kernel) rfl rfl rfl (rm_ok (by omega) (by decide)) ⟨Nat.zero_le _, Nat.zero_le _⟩ (Nat.le_of_ble_eq_true rfl) (dkX11_nights (7, .invokevirtual 257, 3) (pgm 3 rfl)) (fun r3 h4 => ?_) rfl
  exact so_iret X hr hlk (dkX11_nights (10, .ireturn, 1) (pgm 4 rfl))
def pgX11_bestRule : List (Nat × Instr × Nat) := [(0, .aload_n 0, 1), (1, .getfield 57, 3), (4, .invokevirtual 194, 3), (7, .pop, 1), (8, .iconst 0, 1), (9, .istore_n 1, 1), (10, .iconst (-1), 1), (11, .istore_n 2, 1), (12, .iconst 0, 1), (13, .istore_n 3, 1), (14, .iload_n 3, 1), (15, .iconst 4, 1), (16, .if_icmp .ge 37, 3), (19, .aload_n 0, 1), (20, .getfield 20, 3), (23, .aload_n 0, 1), (24, .getfield 66, 3), (27, .iload_n 3, 1), (28, .invokevirtual 290, 3), (31, .invokevirtual 254, 3), (34, .istore 4, 2), (36, .iload 4, 2), (38, .iload_n 2, 1), (39, .if_icmp .le 8, 3), (42, .iload_n 3, 1), (43, .istore_n 1, 1), (44, .iload 4, 2), (46, .istore_n 2, 1), (47, .iinc 3 1, 3), (50, .goto (-36), 3), (53, .iload_n 1, 1), (54, .ireturn, 1)]
theorem dkX11_bestRule : ∀ q ∈ pgX11_bestRule, decode cX11_bestRule q.1 = .ok q.2 := by decide +kernel
def b_X11_bestRule_14 (this : Nat) (rec14 : (Int32 × Int32 × Int32) → PH → Option (Int32 × PH)) (s14 : Int32 × Int32 × Int32) (hh14 : PH) : Option (Int32 × PH) :=
  if (4 : Int32) ≤ s14.2.2 then (some (s14.1, hh14)) else (cb (f_X7_servedAsAsked (rt this 8) s14.2.2 hh14) (fun (r6 : Int32) (h7 : PH) => cb (f_X8_weightOf (rt this 2) r6 h7) (fun (r8 : Int32) (h9 : PH) => lt r8 (fun (x10 : Int32) => lt (fun (y11 : Int32) (y12 : Int32) (h13 : PH) => lt (s14.2.2 + Int32.ofInt 1) (fun (x14 : Int32) => rec14 (y11, y12, x14) h13)) (fun (j47 : Int32 → Int32 → PH → Option (Int32 × PH)) => if x10 ≤ s14.2.1 then (j47 s14.1 s14.2.1 h9) else (lt s14.2.2 (fun (x15 : Int32) => lt x10 (fun (x16 : Int32) => j47 x15 x16 h9))))))))
def f_X11_bestRule (this : Nat) (h0 : PH) : Option (Int32 × PH) :=
  cb (f_X2_settled (rt this 7) h0) (fun (r1 : Unit) (h2 : PH) => lt (0 : Int32) (fun (x3 : Int32) => lt (-1 : Int32) (fun (x4 : Int32) => lt (0 : Int32) (fun (x5 : Int32) => lp (b_X11_bestRule_14 this) FU (x3, x4, x5) h2))))
set_option maxRecDepth 100000 in
set_option maxHeartbeats 4000000 in
theorem ct_X11_bestRule (l : Launch) (this : Nat) (h0 : PH) (hk : (kd this).1 = 11) : CT mkI l yX11_bestRule cX11_bestRule 5 (some .int) (rmd 6) [.ref this] h0 (f_X11_bestRule this h0) := by
  refine ct_of (by decide) (Nat.le_of_ble_eq_true rfl) ?_
  intro p e s m args below meth c D cA ad A X hr hlk
  have X : Cx p s m args c RX11 cX11_bestRule 5 D cA ad A := X
  unfold f_X11_bestRule
  refine so_pick (L' := [(0, .ref this)]) X [0] rfl ?_
  refine so_aload_n (i := 0) X 0 (dkX11_bestRule (0, .aload_n 0, 1) (pgm 0 rfl)) rfl rfl ?_
  refine sf_getR X ff_11_7 lk_572 hk (dkX11_bestRule (1, .getfield 57, 3) (pgm 1 rfl)) ?_
  refine so_callV (n := 0) (As := []) X (ct_X2_settled l (rt this 7) h0 (fo (rk_11_7 this hk))) (fo (rk_11_7 this hk)) (by decide) rfl lk_666 lk_667 lk_668 lk_128 lk_669 (by decide +kernel) rfl rfl rfl (rm_ok (by omega) (by decide)) ⟨Nat.zero_le _, Nat.zero_le _⟩ (Nat.le_of_ble_eq_true rfl) (dkX11_bestRule (4, .invokevirtual 194, 3) (pgm 2 rfl)) (fun r1 h2 => ?_) rfl
  refine so_pop X (dkX11_bestRule (7, .pop, 1) (pgm 3 rfl)) rfl ?_
  refine so_iconst (v := (0 : Int32)) X (dkX11_bestRule (8, .iconst 0, 1) (pgm 4 rfl)) ic_0 ?_
  refine so_istore_n (i := 1) X (dkX11_bestRule (9, .istore_n 1, 1) (pgm 5 rfl)) rfl (by decide) (Lf := fun x3 => [(1, .int x3), (0, .ref this)]) (fun _ => rfl) (fun x3 => ?_)
  refine so_iconst (v := (-1 : Int32)) X (dkX11_bestRule (10, .iconst (-1), 1) (pgm 6 rfl)) ic_m1 ?_
  refine so_istore_n (i := 2) X (dkX11_bestRule (11, .istore_n 2, 1) (pgm 7 rfl)) rfl (by decide) (Lf := fun x4 => [(2, .int x4), (1, .int x3), (0, .ref this)]) (fun _ => rfl) (fun x4 => ?_)
  refine so_iconst (v := (0 : Int32)) X (dkX11_bestRule (12, .iconst 0, 1) (pgm 8 rfl)) ic_0 ?_
  refine so_istore_n (i := 3) X (dkX11_bestRule (13, .istore_n 3, 1) (pgm 9 rfl)) rfl (by decide) (Lf := fun x5 => [(3, .int x5), (2, .int x4), (1, .int x3), (0, .ref this)]) (fun _ => rfl) (fun x5 => ?_)
  refine so_pick (L' := [(0, .ref this), (1, .int x3), (2, .int x4), (3, .int x5)]) X [3, 2, 1, 0] rfl ?_
  refine so_loop (body := b_X11_bestRule_14 this) (fun (s14 : Int32 × Int32 × Int32) => [(0, .ref this), (1, .int s14.1), (2, .int s14.2.1), (3, .int s14.2.2)]) (fun rec14 hrec14 s14 hh14 => ?_) FU (x3, x4, x5) h2
  unfold b_X11_bestRule_14
  refine so_iload_n (i := 3) X 3 (dkX11_bestRule (14, .iload_n 3, 1) (pgm 10 rfl)) rfl rfl ?_
  refine so_iconst (v := (4 : Int32)) X (dkX11_bestRule (15, .iconst 4, 1) (pgm 11 rfl)) ic_4 ?_
  refine so_icmp_ge (tgt := 53) X (dkX11_bestRule (16, .if_icmp .ge 37, 3) (pgm 12 rfl)) rfl (fun _ => ?_) (fun _ => ?_)
  · refine so_iload_n (i := 1) X 1 (dkX11_bestRule (53, .iload_n 1, 1) (pgm 30 rfl)) rfl rfl ?_
    exact so_iret X hr hlk (dkX11_bestRule (54, .ireturn, 1) (pgm 31 rfl))
  · refine so_aload_n (i := 0) X 0 (dkX11_bestRule (19, .aload_n 0, 1) (pgm 13 rfl)) rfl rfl ?_
    refine sf_getR X ff_11_2 lk_567 hk (dkX11_bestRule (20, .getfield 20, 3) (pgm 14 rfl)) ?_
    refine so_aload_n (i := 0) X 0 (dkX11_bestRule (23, .aload_n 0, 1) (pgm 15 rfl)) rfl rfl ?_
    refine sf_getR X ff_11_8 lk_573 hk (dkX11_bestRule (24, .getfield 66, 3) (pgm 16 rfl)) ?_
    refine so_iload_n (i := 3) X 3 (dkX11_bestRule (27, .iload_n 3, 1) (pgm 17 rfl)) rfl rfl ?_
    refine so_callV (n := 1) (As := [.int s14.2.2]) X (ct_X7_servedAsAsked l (rt this 8) s14.2.2 hh14 (fo (rk_11_8 this hk))) (fo (rk_11_8 this hk)) (by decide) rfl lk_708 lk_709 lk_710 lk_129 lk_711 (by decide +kernel) rfl rfl rfl (rm_ok (by omega) (by decide)) ⟨Nat.zero_le _, Nat.zero_le _⟩ (Nat.le_of_ble_eq_true rfl) (dkX11_bestRule (28, .invokevirtual 290, 3) (pgm 18 rfl)) (fun r6 h7 => ?_) rfl
    refine so_callV (n := 1) (As := [.int r6]) X (ct_X8_weightOf l (rt this 2) r6 h7 (fo (rk_11_2 this hk))) (fo (rk_11_2 this hk)) (by decide) rfl lk_740 lk_741 lk_742 lk_122 lk_743 (by decide +kernel) rfl rfl rfl (rm_ok (by omega) (by decide)) ⟨Nat.zero_le _, Nat.zero_le _⟩ (Nat.le_of_ble_eq_true rfl) (dkX11_bestRule (31, .invokevirtual 254, 3) (pgm 19 rfl)) (fun r8 h9 => ?_) rfl
    refine so_istore (i := 4) X (dkX11_bestRule (34, .istore 4, 2) (pgm 20 rfl)) (by decide) (Lf := fun x10 => [(4, .int x10), (0, .ref this), (1, .int s14.1), (2, .int s14.2.1), (3, .int s14.2.2)]) (fun _ => rfl) (fun x10 => ?_)
    refine so_iload (i := 4) X 0 (dkX11_bestRule (36, .iload 4, 2) (pgm 21 rfl)) rfl ?_
    refine so_iload_n (i := 2) X 3 (dkX11_bestRule (38, .iload_n 2, 1) (pgm 22 rfl)) rfl rfl ?_
    refine so_join (jf := fun (y11 : Int32) (y12 : Int32) (h13 : PH) => lt (s14.2.2 + Int32.ofInt 1) (fun (x14 : Int32) => rec14 (y11, y12, x14) h13)) (fun (j : Int32 → Int32 → PH → Option (Int32 × PH)) => ∀ (y11 : Int32) (y12 : Int32) (h13 : PH), SWo (QM mkI below args s D cA ad A) p l e (rmd 6) s m args below meth c 0 0 5 D cA ad A 47 [(0, .ref this), (1, .int y11), (2, .int y12), (3, .int s14.2.2)] [] h13 (j y11 y12 h13)) ?_ (fun j47 hj47 => ?_)
    · intro y11 y12 h13
      refine so_iinc (i := 3) X 3 (dkX11_bestRule (47, .iinc 3 1, 3) (pgm 28 rfl)) rfl rfl (by decide) (Lf := fun x14 => [(3, .int x14), (0, .ref this), (1, .int y11), (2, .int y12)]) (fun _ => rfl) (fun x14 => ?_)
      refine so_goto (tgt := 14) X (dkX11_bestRule (50, .goto (-36), 3) (pgm 29 rfl)) rfl ?_
      exact so_pick X [1, 2, 3, 0] rfl (hrec14 (y11, y12, x14) h13)
    refine so_icmp_le (tgt := 47) X (dkX11_bestRule (39, .if_icmp .le 8, 3) (pgm 23 rfl)) rfl (fun _ => ?_) (fun _ => ?_)
    · exact so_pick X [1, 2, 3, 4] rfl (hj47 s14.1 s14.2.1 h9)
    · refine so_iload_n (i := 3) X 4 (dkX11_bestRule (42, .iload_n 3, 1) (pgm 24 rfl)) rfl rfl ?_
      refine so_istore_n (i := 1) X (dkX11_bestRule (43, .istore_n 1, 1) (pgm 25 rfl)) rfl (by decide) (Lf := fun x15 => [(1, .int x15), (4, .int x10), (0, .ref this), (2, .int s14.2.1), (3, .int s14.2.2)]) (fun _ => rfl) (fun x15 => ?_)
      refine so_iload (i := 4) X 1 (dkX11_bestRule (44, .iload 4, 2) (pgm 26 rfl)) rfl ?_
      refine so_istore_n (i := 2) X (dkX11_bestRule (46, .istore_n 2, 1) (pgm 27 rfl)) rfl (by decide) (Lf := fun x16 => [(2, .int x16), (1, .int x15), (4, .int x10), (0, .ref this), (3, .int s14.2.2)]) (fun _ => rfl) (fun x16 => ?_)
      exact so_pick X [3, 1, 0, 4] rfl (hj47 x15 x16 h9)

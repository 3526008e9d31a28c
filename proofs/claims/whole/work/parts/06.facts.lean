theorem bp_m10 : (Int8.ofInt (-10)).toInt32 = (-10 : Int32) := by decide
theorem bp_6 : (Int8.ofInt 6).toInt32 = (6 : Int32) := by decide
theorem bp_7 : (Int8.ofInt 7).toInt32 = (7 : Int32) := by decide
theorem bp_8 : (Int8.ofInt 8).toInt32 = (8 : Int32) := by decide
theorem bp_9 : (Int8.ofInt 9).toInt32 = (9 : Int32) := by decide
theorem bp_10 : (Int8.ofInt 10).toInt32 = (10 : Int32) := by decide
theorem bp_11 : (Int8.ofInt 11).toInt32 = (11 : Int32) := by decide
theorem bp_12 : (Int8.ofInt 12).toInt32 = (12 : Int32) := by decide
theorem bp_13 : (Int8.ofInt 13).toInt32 = (13 : Int32) := by decide
theorem bp_14 : (Int8.ofInt 14).toInt32 = (14 : Int32) := by decide
theorem bp_15 : (Int8.ofInt 15).toInt32 = (15 : Int32) := by decide
theorem bp_16 : (Int8.ofInt 16).toInt32 = (16 : Int32) := by decide
theorem bp_17 : (Int8.ofInt 17).toInt32 = (17 : Int32) := by decide
theorem bp_18 : (Int8.ofInt 18).toInt32 = (18 : Int32) := by decide
theorem bp_20 : (Int8.ofInt 20).toInt32 = (20 : Int32) := by decide
theorem bp_24 : (Int8.ofInt 24).toInt32 = (24 : Int32) := by decide
theorem bp_30 : (Int8.ofInt 30).toInt32 = (30 : Int32) := by decide
theorem bp_32 : (Int8.ofInt 32).toInt32 = (32 : Int32) := by decide
theorem bp_34 : (Int8.ofInt 34).toInt32 = (34 : Int32) := by decide
theorem bp_40 : (Int8.ofInt 40).toInt32 = (40 : Int32) := by decide
theorem bp_41 : (Int8.ofInt 41).toInt32 = (41 : Int32) := by decide
theorem bp_42 : (Int8.ofInt 42).toInt32 = (42 : Int32) := by decide
theorem bp_43 : (Int8.ofInt 43).toInt32 = (43 : Int32) := by decide
theorem bp_44 : (Int8.ofInt 44).toInt32 = (44 : Int32) := by decide
theorem bp_45 : (Int8.ofInt 45).toInt32 = (45 : Int32) := by decide
theorem bp_48 : (Int8.ofInt 48).toInt32 = (48 : Int32) := by decide
theorem bp_54 : (Int8.ofInt 54).toInt32 = (54 : Int32) := by decide
theorem bp_57 : (Int8.ofInt 57).toInt32 = (57 : Int32) := by decide
theorem bp_58 : (Int8.ofInt 58).toInt32 = (58 : Int32) := by decide
theorem bp_59 : (Int8.ofInt 59).toInt32 = (59 : Int32) := by decide
theorem bp_60 : (Int8.ofInt 60).toInt32 = (60 : Int32) := by decide
theorem bp_61 : (Int8.ofInt 61).toInt32 = (61 : Int32) := by decide
theorem bp_62 : (Int8.ofInt 62).toInt32 = (62 : Int32) := by decide
theorem bp_63 : (Int8.ofInt 63).toInt32 = (63 : Int32) := by decide
theorem bp_64 : (Int8.ofInt 64).toInt32 = (64 : Int32) := by decide
theorem bp_65 : (Int8.ofInt 65).toInt32 = (65 : Int32) := by decide
theorem bp_66 : (Int8.ofInt 66).toInt32 = (66 : Int32) := by decide
theorem bp_91 : (Int8.ofInt 91).toInt32 = (91 : Int32) := by decide
theorem bp_93 : (Int8.ofInt 93).toInt32 = (93 : Int32) := by decide
theorem bp_97 : (Int8.ofInt 97).toInt32 = (97 : Int32) := by decide
theorem bp_99 : (Int8.ofInt 99).toInt32 = (99 : Int32) := by decide
theorem bp_100 : (Int8.ofInt 100).toInt32 = (100 : Int32) := by decide
theorem bp_122 : (Int8.ofInt 122).toInt32 = (122 : Int32) := by decide
theorem ic_m1 : Int32.ofInt (-1) = (-1 : Int32) := by decide
theorem ic_0 : Int32.ofInt 0 = (0 : Int32) := by decide
theorem ic_1 : Int32.ofInt 1 = (1 : Int32) := by decide
theorem ic_2 : Int32.ofInt 2 = (2 : Int32) := by decide
theorem ic_3 : Int32.ofInt 3 = (3 : Int32) := by decide
theorem ic_4 : Int32.ofInt 4 = (4 : Int32) := by decide
theorem ic_5 : Int32.ofInt 5 = (5 : Int32) := by decide
theorem lc_0 : Int64.ofNat ((0 : Fin 2) : Nat) = (0 : Int64) := by decide
theorem lc_1 : Int64.ofNat ((1 : Fin 2) : Nat) = (1 : Int64) := by decide
theorem sp_200 : (Int16.ofInt 200).toInt32 = (200 : Int32) := by decide
theorem sp_219 : (Int16.ofInt 219).toInt32 = (219 : Int32) := by decide
theorem sp_236 : (Int16.ofInt 236).toInt32 = (236 : Int32) := by decide
theorem sp_255 : (Int16.ofInt 255).toInt32 = (255 : Int32) := by decide
theorem sp_300 : (Int16.ofInt 300).toInt32 = (300 : Int32) := by decide
theorem sp_400 : (Int16.ofInt 400).toInt32 = (400 : Int32) := by decide
theorem sp_900 : (Int16.ofInt 900).toInt32 = (900 : Int32) := by decide
theorem sp_999 : (Int16.ofInt 999).toInt32 = (999 : Int32) := by decide
theorem sp_1000 : (Int16.ofInt 1000).toInt32 = (1000 : Int32) := by decide
theorem sp_1023 : (Int16.ofInt 1023).toInt32 = (1023 : Int32) := by decide
theorem sp_1024 : (Int16.ofInt 1024).toInt32 = (1024 : Int32) := by decide
theorem sp_1200 : (Int16.ofInt 1200).toInt32 = (1200 : Int32) := by decide
theorem sp_4095 : (Int16.ofInt 4095).toInt32 = (4095 : Int32) := by decide
theorem sp_4096 : (Int16.ofInt 4096).toInt32 = (4096 : Int32) := by decide
theorem sp_12345 : (Int16.ofInt 12345).toInt32 = (12345 : Int32) := by decide
theorem ft_0 : FT TX0 6 tyX0 := ⟨tyX0_ok, nmX0⟩
theorem ft_1 : FT TX1 9 tyX1 := ⟨tyX1_ok, nmX1⟩
theorem ft_2 : FT TX2 9 tyX2 := ⟨tyX2_ok, nmX2⟩
theorem ft_4 : FT TX4 4 tyX4 := ⟨tyX4_ok, nmX4⟩
theorem ft_5 : FT TX5 7 tyX5 := ⟨tyX5_ok, nmX5⟩
theorem ft_6 : FT TX6 12 tyX6 := ⟨tyX6_ok, nmX6⟩
theorem ft_7 : FT TX7 8 tyX7 := ⟨tyX7_ok, nmX7⟩
theorem ft_8 : FT TX8 16 tyX8 := ⟨tyX8_ok, nmX8⟩
theorem ft_9 : FT TX9 5 tyX9 := ⟨tyX9_ok, nmX9⟩
theorem ft_10 : FT TX10 3 tyX10 := ⟨tyX10_ok, nmX10⟩
theorem ft_11 : FT TX11 16 tyX11 := ⟨tyX11_ok, nmX11⟩
theorem ft_12 : FT TX12 39 tyX12 := ⟨tyX12_ok, nmX12⟩
theorem ff_0_0 : FF 0 0 RX0 TX0 6 0 := ⟨iw_0, rfl, by decide, by decide, rfl, by decide⟩
theorem ff_0_1 : FF 0 1 RX0 TX0 6 2 := ⟨iw_0, rfl, by decide, by decide, rfl, by decide⟩
theorem ff_0_2 : FF 0 2 RX0 TX0 6 2 := ⟨iw_0, rfl, by decide, by decide, rfl, by decide⟩
theorem ff_0_3 : FF 0 3 RX0 TX0 6 0 := ⟨iw_0, rfl, by decide, by decide, rfl, by decide⟩
theorem ff_0_4 : FF 0 4 RX0 TX0 6 0 := ⟨iw_0, rfl, by decide, by decide, rfl, by decide⟩
theorem ff_0_5 : FF 0 5 RX0 TX0 6 2 := ⟨iw_0, rfl, by decide, by decide, rfl, by decide⟩
theorem ff_1_0 : FF 1 0 RX1 TX1 9 2 := ⟨iw_1, rfl, by decide, by decide, rfl, by decide⟩
theorem ff_1_1 : FF 1 1 RX1 TX1 9 2 := ⟨iw_1, rfl, by decide, by decide, rfl, by decide⟩
theorem ff_1_2 : FF 1 2 RX1 TX1 9 2 := ⟨iw_1, rfl, by decide, by decide, rfl, by decide⟩
theorem ff_1_3 : FF 1 3 RX1 TX1 9 2 := ⟨iw_1, rfl, by decide, by decide, rfl, by decide⟩
theorem ff_1_4 : FF 1 4 RX1 TX1 9 2 := ⟨iw_1, rfl, by decide, by decide, rfl, by decide⟩
theorem ff_1_5 : FF 1 5 RX1 TX1 9 2 := ⟨iw_1, rfl, by decide, by decide, rfl, by decide⟩
theorem ff_1_6 : FF 1 6 RX1 TX1 9 2 := ⟨iw_1, rfl, by decide, by decide, rfl, by decide⟩
theorem ff_1_7 : FF 1 7 RX1 TX1 9 0 := ⟨iw_1, rfl, by decide, by decide, rfl, by decide⟩
theorem ff_1_8 : FF 1 8 RX1 TX1 9 0 := ⟨iw_1, rfl, by decide, by decide, rfl, by decide⟩
theorem ff_2_0 : FF 2 0 RX2 TX2 9 2 := ⟨iw_2, rfl, by decide, by decide, rfl, by decide⟩
theorem ff_2_1 : FF 2 1 RX2 TX2 9 2 := ⟨iw_2, rfl, by decide, by decide, rfl, by decide⟩
theorem ff_2_2 : FF 2 2 RX2 TX2 9 2 := ⟨iw_2, rfl, by decide, by decide, rfl, by decide⟩
theorem ff_2_3 : FF 2 3 RX2 TX2 9 2 := ⟨iw_2, rfl, by decide, by decide, rfl, by decide⟩
theorem ff_2_4 : FF 2 4 RX2 TX2 9 0 := ⟨iw_2, rfl, by decide, by decide, rfl, by decide⟩
theorem ff_2_5 : FF 2 5 RX2 TX2 9 2 := ⟨iw_2, rfl, by decide, by decide, rfl, by decide⟩
theorem ff_2_6 : FF 2 6 RX2 TX2 9 2 := ⟨iw_2, rfl, by decide, by decide, rfl, by decide⟩
theorem ff_2_7 : FF 2 7 RX2 TX2 9 0 := ⟨iw_2, rfl, by decide, by decide, rfl, by decide⟩
theorem ff_2_8 : FF 2 8 RX2 TX2 9 0 := ⟨iw_2, rfl, by decide, by decide, rfl, by decide⟩
theorem ff_3_0 : FF 3 0 RX3 TX3 3 2 := ⟨iw_3, rfl, by decide, by decide, rfl, by decide⟩
theorem ff_3_1 : FF 3 1 RX3 TX3 3 2 := ⟨iw_3, rfl, by decide, by decide, rfl, by decide⟩
theorem ff_3_2 : FF 3 2 RX3 TX3 3 2 := ⟨iw_3, rfl, by decide, by decide, rfl, by decide⟩
theorem ff_4_0 : FF 4 0 RX4 TX4 4 2 := ⟨iw_4, rfl, by decide, by decide, rfl, by decide⟩
theorem ff_4_1 : FF 4 1 RX4 TX4 4 0 := ⟨iw_4, rfl, by decide, by decide, rfl, by decide⟩
theorem ff_4_2 : FF 4 2 RX4 TX4 4 2 := ⟨iw_4, rfl, by decide, by decide, rfl, by decide⟩
theorem ff_4_3 : FF 4 3 RX4 TX4 4 2 := ⟨iw_4, rfl, by decide, by decide, rfl, by decide⟩
theorem ff_5_0 : FF 5 0 RX5 TX5 7 2 := ⟨iw_5, rfl, by decide, by decide, rfl, by decide⟩
theorem ff_5_1 : FF 5 1 RX5 TX5 7 2 := ⟨iw_5, rfl, by decide, by decide, rfl, by decide⟩
theorem ff_5_2 : FF 5 2 RX5 TX5 7 0 := ⟨iw_5, rfl, by decide, by decide, rfl, by decide⟩
theorem ff_5_3 : FF 5 3 RX5 TX5 7 0 := ⟨iw_5, rfl, by decide, by decide, rfl, by decide⟩
theorem ff_5_4 : FF 5 4 RX5 TX5 7 0 := ⟨iw_5, rfl, by decide, by decide, rfl, by decide⟩
theorem ff_5_5 : FF 5 5 RX5 TX5 7 0 := ⟨iw_5, rfl, by decide, by decide, rfl, by decide⟩
theorem ff_5_6 : FF 5 6 RX5 TX5 7 0 := ⟨iw_5, rfl, by decide, by decide, rfl, by decide⟩
theorem ff_6_0 : FF 6 0 RX6 TX6 12 2 := ⟨iw_6, rfl, by decide, by decide, rfl, by decide⟩
theorem ff_6_1 : FF 6 1 RX6 TX6 12 2 := ⟨iw_6, rfl, by decide, by decide, rfl, by decide⟩
theorem ff_6_2 : FF 6 2 RX6 TX6 12 2 := ⟨iw_6, rfl, by decide, by decide, rfl, by decide⟩
theorem ff_6_3 : FF 6 3 RX6 TX6 12 0 := ⟨iw_6, rfl, by decide, by decide, rfl, by decide⟩
theorem ff_6_4 : FF 6 4 RX6 TX6 12 0 := ⟨iw_6, rfl, by decide, by decide, rfl, by decide⟩
theorem ff_6_5 : FF 6 5 RX6 TX6 12 0 := ⟨iw_6, rfl, by decide, by decide, rfl, by decide⟩
theorem ff_6_6 : FF 6 6 RX6 TX6 12 0 := ⟨iw_6, rfl, by decide, by decide, rfl, by decide⟩
theorem ff_6_7 : FF 6 7 RX6 TX6 12 0 := ⟨iw_6, rfl, by decide, by decide, rfl, by decide⟩
theorem ff_6_8 : FF 6 8 RX6 TX6 12 0 := ⟨iw_6, rfl, by decide, by decide, rfl, by decide⟩
theorem ff_6_9 : FF 6 9 RX6 TX6 12 0 := ⟨iw_6, rfl, by decide, by decide, rfl, by decide⟩
theorem ff_6_10 : FF 6 10 RX6 TX6 12 0 := ⟨iw_6, rfl, by decide, by decide, rfl, by decide⟩
theorem ff_6_11 : FF 6 11 RX6 TX6 12 0 := ⟨iw_6, rfl, by decide, by decide, rfl, by decide⟩
theorem ff_7_0 : FF 7 0 RX7 TX7 8 2 := ⟨iw_7, rfl, by decide, by decide, rfl, by decide⟩
theorem ff_7_1 : FF 7 1 RX7 TX7 8 2 := ⟨iw_7, rfl, by decide, by decide, rfl, by decide⟩
theorem ff_7_2 : FF 7 2 RX7 TX7 8 2 := ⟨iw_7, rfl, by decide, by decide, rfl, by decide⟩
theorem ff_7_3 : FF 7 3 RX7 TX7 8 2 := ⟨iw_7, rfl, by decide, by decide, rfl, by decide⟩
theorem ff_7_4 : FF 7 4 RX7 TX7 8 2 := ⟨iw_7, rfl, by decide, by decide, rfl, by decide⟩
theorem ff_7_5 : FF 7 5 RX7 TX7 8 0 := ⟨iw_7, rfl, by decide, by decide, rfl, by decide⟩
theorem ff_7_6 : FF 7 6 RX7 TX7 8 0 := ⟨iw_7, rfl, by decide, by decide, rfl, by decide⟩
theorem ff_7_7 : FF 7 7 RX7 TX7 8 0 := ⟨iw_7, rfl, by decide, by decide, rfl, by decide⟩
theorem ff_8_0 : FF 8 0 RX8 TX8 16 0 := ⟨iw_8, rfl, by decide, by decide, rfl, by decide⟩
theorem ff_8_1 : FF 8 1 RX8 TX8 16 0 := ⟨iw_8, rfl, by decide, by decide, rfl, by decide⟩
theorem ff_8_2 : FF 8 2 RX8 TX8 16 0 := ⟨iw_8, rfl, by decide, by decide, rfl, by decide⟩
theorem ff_8_3 : FF 8 3 RX8 TX8 16 0 := ⟨iw_8, rfl, by decide, by decide, rfl, by decide⟩
theorem ff_8_4 : FF 8 4 RX8 TX8 16 0 := ⟨iw_8, rfl, by decide, by decide, rfl, by decide⟩
theorem ff_8_5 : FF 8 5 RX8 TX8 16 0 := ⟨iw_8, rfl, by decide, by decide, rfl, by decide⟩
theorem ff_8_6 : FF 8 6 RX8 TX8 16 0 := ⟨iw_8, rfl, by decide, by decide, rfl, by decide⟩
theorem ff_8_7 : FF 8 7 RX8 TX8 16 0 := ⟨iw_8, rfl, by decide, by decide, rfl, by decide⟩
theorem ff_8_8 : FF 8 8 RX8 TX8 16 0 := ⟨iw_8, rfl, by decide, by decide, rfl, by decide⟩
theorem ff_8_9 : FF 8 9 RX8 TX8 16 0 := ⟨iw_8, rfl, by decide, by decide, rfl, by decide⟩
theorem ff_8_10 : FF 8 10 RX8 TX8 16 0 := ⟨iw_8, rfl, by decide, by decide, rfl, by decide⟩
theorem ff_8_11 : FF 8 11 RX8 TX8 16 0 := ⟨iw_8, rfl, by decide, by decide, rfl, by decide⟩
theorem ff_8_12 : FF 8 12 RX8 TX8 16 2 := ⟨iw_8, rfl, by decide, by decide, rfl, by decide⟩
theorem ff_8_13 : FF 8 13 RX8 TX8 16 2 := ⟨iw_8, rfl, by decide, by decide, rfl, by decide⟩
theorem ff_8_14 : FF 8 14 RX8 TX8 16 2 := ⟨iw_8, rfl, by decide, by decide, rfl, by decide⟩
theorem ff_8_15 : FF 8 15 RX8 TX8 16 2 := ⟨iw_8, rfl, by decide, by decide, rfl, by decide⟩
theorem ff_9_0 : FF 9 0 RX9 TX9 5 2 := ⟨iw_9, rfl, by decide, by decide, rfl, by decide⟩
theorem ff_9_1 : FF 9 1 RX9 TX9 5 0 := ⟨iw_9, rfl, by decide, by decide, rfl, by decide⟩
theorem ff_9_2 : FF 9 2 RX9 TX9 5 0 := ⟨iw_9, rfl, by decide, by decide, rfl, by decide⟩
theorem ff_9_3 : FF 9 3 RX9 TX9 5 0 := ⟨iw_9, rfl, by decide, by decide, rfl, by decide⟩
theorem ff_9_4 : FF 9 4 RX9 TX9 5 0 := ⟨iw_9, rfl, by decide, by decide, rfl, by decide⟩
theorem ff_10_0 : FF 10 0 RX10 TX10 3 0 := ⟨iw_10, rfl, by decide, by decide, rfl, by decide⟩
theorem ff_10_1 : FF 10 1 RX10 TX10 3 0 := ⟨iw_10, rfl, by decide, by decide, rfl, by decide⟩
theorem ff_10_2 : FF 10 2 RX10 TX10 3 2 := ⟨iw_10, rfl, by decide, by decide, rfl, by decide⟩
theorem ff_11_0 : FF 11 0 RX11 TX11 16 2 := ⟨iw_11, rfl, by decide, by decide, rfl, by decide⟩
theorem ff_11_1 : FF 11 1 RX11 TX11 16 0 := ⟨iw_11, rfl, by decide, by decide, rfl, by decide⟩
theorem ff_11_2 : FF 11 2 RX11 TX11 16 2 := ⟨iw_11, rfl, by decide, by decide, rfl, by decide⟩
theorem ff_11_4 : FF 11 4 RX11 TX11 16 2 := ⟨iw_11, rfl, by decide, by decide, rfl, by decide⟩
theorem ff_11_5 : FF 11 5 RX11 TX11 16 2 := ⟨iw_11, rfl, by decide, by decide, rfl, by decide⟩
theorem ff_11_6 : FF 11 6 RX11 TX11 16 2 := ⟨iw_11, rfl, by decide, by decide, rfl, by decide⟩
theorem ff_11_7 : FF 11 7 RX11 TX11 16 2 := ⟨iw_11, rfl, by decide, by decide, rfl, by decide⟩
theorem ff_11_8 : FF 11 8 RX11 TX11 16 2 := ⟨iw_11, rfl, by decide, by decide, rfl, by decide⟩
theorem ff_12_0 : FF 12 0 RX12 TX12 39 2 := ⟨iw_12, rfl, by decide, by decide, rfl, by decide⟩
theorem ff_12_1 : FF 12 1 RX12 TX12 39 2 := ⟨iw_12, rfl, by decide, by decide, rfl, by decide⟩
theorem ff_12_2 : FF 12 2 RX12 TX12 39 2 := ⟨iw_12, rfl, by decide, by decide, rfl, by decide⟩
theorem ff_12_3 : FF 12 3 RX12 TX12 39 2 := ⟨iw_12, rfl, by decide, by decide, rfl, by decide⟩
theorem ff_12_4 : FF 12 4 RX12 TX12 39 2 := ⟨iw_12, rfl, by decide, by decide, rfl, by decide⟩
theorem ff_12_5 : FF 12 5 RX12 TX12 39 0 := ⟨iw_12, rfl, by decide, by decide, rfl, by decide⟩
theorem ff_12_6 : FF 12 6 RX12 TX12 39 2 := ⟨iw_12, rfl, by decide, by decide, rfl, by decide⟩
theorem ff_12_7 : FF 12 7 RX12 TX12 39 0 := ⟨iw_12, rfl, by decide, by decide, rfl, by decide⟩
theorem ff_12_8 : FF 12 8 RX12 TX12 39 0 := ⟨iw_12, rfl, by decide, by decide, rfl, by decide⟩
theorem ff_12_9 : FF 12 9 RX12 TX12 39 0 := ⟨iw_12, rfl, by decide, by decide, rfl, by decide⟩
theorem ff_12_10 : FF 12 10 RX12 TX12 39 0 := ⟨iw_12, rfl, by decide, by decide, rfl, by decide⟩
theorem ff_12_11 : FF 12 11 RX12 TX12 39 0 := ⟨iw_12, rfl, by decide, by decide, rfl, by decide⟩
theorem ff_12_12 : FF 12 12 RX12 TX12 39 0 := ⟨iw_12, rfl, by decide, by decide, rfl, by decide⟩
theorem ff_12_13 : FF 12 13 RX12 TX12 39 0 := ⟨iw_12, rfl, by decide, by decide, rfl, by decide⟩
theorem ff_12_14 : FF 12 14 RX12 TX12 39 0 := ⟨iw_12, rfl, by decide, by decide, rfl, by decide⟩
theorem ff_12_15 : FF 12 15 RX12 TX12 39 0 := ⟨iw_12, rfl, by decide, by decide, rfl, by decide⟩
theorem ff_12_16 : FF 12 16 RX12 TX12 39 0 := ⟨iw_12, rfl, by decide, by decide, rfl, by decide⟩
theorem ff_12_17 : FF 12 17 RX12 TX12 39 0 := ⟨iw_12, rfl, by decide, by decide, rfl, by decide⟩
theorem ff_12_18 : FF 12 18 RX12 TX12 39 2 := ⟨iw_12, rfl, by decide, by decide, rfl, by decide⟩
theorem ff_12_19 : FF 12 19 RX12 TX12 39 2 := ⟨iw_12, rfl, by decide, by decide, rfl, by decide⟩
theorem ff_12_20 : FF 12 20 RX12 TX12 39 2 := ⟨iw_12, rfl, by decide, by decide, rfl, by decide⟩
theorem ff_12_21 : FF 12 21 RX12 TX12 39 2 := ⟨iw_12, rfl, by decide, by decide, rfl, by decide⟩
theorem ff_12_22 : FF 12 22 RX12 TX12 39 2 := ⟨iw_12, rfl, by decide, by decide, rfl, by decide⟩
theorem ff_12_23 : FF 12 23 RX12 TX12 39 2 := ⟨iw_12, rfl, by decide, by decide, rfl, by decide⟩
theorem ff_12_24 : FF 12 24 RX12 TX12 39 2 := ⟨iw_12, rfl, by decide, by decide, rfl, by decide⟩
theorem ff_12_25 : FF 12 25 RX12 TX12 39 2 := ⟨iw_12, rfl, by decide, by decide, rfl, by decide⟩
theorem ff_12_26 : FF 12 26 RX12 TX12 39 2 := ⟨iw_12, rfl, by decide, by decide, rfl, by decide⟩
theorem ff_12_27 : FF 12 27 RX12 TX12 39 2 := ⟨iw_12, rfl, by decide, by decide, rfl, by decide⟩
theorem ff_12_28 : FF 12 28 RX12 TX12 39 2 := ⟨iw_12, rfl, by decide, by decide, rfl, by decide⟩
theorem ff_12_29 : FF 12 29 RX12 TX12 39 0 := ⟨iw_12, rfl, by decide, by decide, rfl, by decide⟩
theorem ff_12_30 : FF 12 30 RX12 TX12 39 2 := ⟨iw_12, rfl, by decide, by decide, rfl, by decide⟩
theorem ff_12_31 : FF 12 31 RX12 TX12 39 2 := ⟨iw_12, rfl, by decide, by decide, rfl, by decide⟩
theorem ff_12_32 : FF 12 32 RX12 TX12 39 2 := ⟨iw_12, rfl, by decide, by decide, rfl, by decide⟩
theorem ff_12_33 : FF 12 33 RX12 TX12 39 0 := ⟨iw_12, rfl, by decide, by decide, rfl, by decide⟩
theorem ff_12_34 : FF 12 34 RX12 TX12 39 0 := ⟨iw_12, rfl, by decide, by decide, rfl, by decide⟩
theorem ff_12_35 : FF 12 35 RX12 TX12 39 2 := ⟨iw_12, rfl, by decide, by decide, rfl, by decide⟩
theorem ff_12_36 : FF 12 36 RX12 TX12 39 2 := ⟨iw_12, rfl, by decide, by decide, rfl, by decide⟩
theorem ff_12_37 : FF 12 37 RX12 TX12 39 2 := ⟨iw_12, rfl, by decide, by decide, rfl, by decide⟩
theorem ff_12_38 : FF 12 38 RX12 TX12 39 2 := ⟨iw_12, rfl, by decide, by decide, rfl, by decide⟩
theorem rk_0_1 (i : Nat) (h : (kd i).1 = 0) : kd (rt i 1) = (13, 10) := by
  have hh : ∀ i, i < NC → (kd i).1 = 0 → kd (rt i 1) = (13, 10) := by decide +kernel
  exact hh i (kd_lt h (by decide)) h
theorem rk_0_2 (i : Nat) (h : (kd i).1 = 0) : kd (rt i 2) = (13, 6) := by
  have hh : ∀ i, i < NC → (kd i).1 = 0 → kd (rt i 2) = (13, 6) := by decide +kernel
  exact hh i (kd_lt h (by decide)) h
theorem rk_0_5 (i : Nat) (h : (kd i).1 = 0) : kd (rt i 5) = (17, 10) := by
  have hh : ∀ i, i < NC → (kd i).1 = 0 → kd (rt i 5) = (17, 10) := by decide +kernel
  exact hh i (kd_lt h (by decide)) h
theorem re_0_5 (i : Nat) (h : (kd i).1 = 0) : ∀ q, q < 10 → kd (rt (rt i 5) q) = (13, 17) := by
  have hh : ∀ i, i < NC → (kd i).1 = 0 → ∀ q, q < 10 → kd (rt (rt i 5) q) = (13, 17) := by decide +kernel
  exact hh i (kd_lt h (by decide)) h
theorem rk_1_0 (i : Nat) (h : (kd i).1 = 1) : kd (rt i 0) = (8, 0) := by
  have hh : ∀ i, i < NC → (kd i).1 = 1 → kd (rt i 0) = (8, 0) := by decide +kernel
  exact hh i (kd_lt h (by decide)) h
theorem rk_1_1 (i : Nat) (h : (kd i).1 = 1) : kd (rt i 1) = (2, 0) := by
  have hh : ∀ i, i < NC → (kd i).1 = 1 → kd (rt i 1) = (2, 0) := by decide +kernel
  exact hh i (kd_lt h (by decide)) h
theorem rk_1_2 (i : Nat) (h : (kd i).1 = 1) : kd (rt i 2) = (13, 5) := by
  have hh : ∀ i, i < NC → (kd i).1 = 1 → kd (rt i 2) = (13, 5) := by decide +kernel
  exact hh i (kd_lt h (by decide)) h
theorem rk_1_3 (i : Nat) (h : (kd i).1 = 1) : kd (rt i 3) = (13, 5) := by
  have hh : ∀ i, i < NC → (kd i).1 = 1 → kd (rt i 3) = (13, 5) := by decide +kernel
  exact hh i (kd_lt h (by decide)) h
theorem rk_1_4 (i : Nat) (h : (kd i).1 = 1) : kd (rt i 4) = (13, 32) := by
  have hh : ∀ i, i < NC → (kd i).1 = 1 → kd (rt i 4) = (13, 32) := by decide +kernel
  exact hh i (kd_lt h (by decide)) h
theorem rk_1_5 (i : Nat) (h : (kd i).1 = 1) : kd (rt i 5) = (17, 25) := by
  have hh : ∀ i, i < NC → (kd i).1 = 1 → kd (rt i 5) = (17, 25) := by decide +kernel
  exact hh i (kd_lt h (by decide)) h
theorem re_1_5 (i : Nat) (h : (kd i).1 = 1) : ∀ q, q < 25 → kd (rt (rt i 5) q) = (13, 14) := by
  have hh : ∀ i, i < NC → (kd i).1 = 1 → ∀ q, q < 25 → kd (rt (rt i 5) q) = (13, 14) := by decide +kernel
  exact hh i (kd_lt h (by decide)) h
theorem rk_1_6 (i : Nat) (h : (kd i).1 = 1) : kd (rt i 6) = (13, 25) := by
  have hh : ∀ i, i < NC → (kd i).1 = 1 → kd (rt i 6) = (13, 25) := by decide +kernel
  exact hh i (kd_lt h (by decide)) h
theorem rk_2_0 (i : Nat) (h : (kd i).1 = 2) : kd (rt i 0) = (8, 0) := by
  have hh : ∀ i, i < NC → (kd i).1 = 2 → kd (rt i 0) = (8, 0) := by decide +kernel
  exact hh i (kd_lt h (by decide)) h
theorem rk_2_1 (i : Nat) (h : (kd i).1 = 2) : kd (rt i 1) = (0, 0) := by
  have hh : ∀ i, i < NC → (kd i).1 = 2 → kd (rt i 1) = (0, 0) := by decide +kernel
  exact hh i (kd_lt h (by decide)) h
theorem rk_2_2 (i : Nat) (h : (kd i).1 = 2) : kd (rt i 2) = (3, 0) := by
  have hh : ∀ i, i < NC → (kd i).1 = 2 → kd (rt i 2) = (3, 0) := by decide +kernel
  exact hh i (kd_lt h (by decide)) h
theorem rk_2_3 (i : Nat) (h : (kd i).1 = 2) : kd (rt i 3) = (13, 4096) := by
  have hh : ∀ i, i < NC → (kd i).1 = 2 → kd (rt i 3) = (13, 4096) := by decide +kernel
  exact hh i (kd_lt h (by decide)) h
theorem rk_2_5 (i : Nat) (h : (kd i).1 = 2) : kd (rt i 5) = (13, 1024) := by
  have hh : ∀ i, i < NC → (kd i).1 = 2 → kd (rt i 5) = (13, 1024) := by decide +kernel
  exact hh i (kd_lt h (by decide)) h
theorem rk_2_6 (i : Nat) (h : (kd i).1 = 2) : kd (rt i 6) = (13, 1024) := by
  have hh : ∀ i, i < NC → (kd i).1 = 2 → kd (rt i 6) = (13, 1024) := by decide +kernel
  exact hh i (kd_lt h (by decide)) h
theorem rk_3_0 (i : Nat) (h : (kd i).1 = 3) : kd (rt i 0) = (8, 0) := by
  have hh : ∀ i, i < NC → (kd i).1 = 3 → kd (rt i 0) = (8, 0) := by decide +kernel
  exact hh i (kd_lt h (by decide)) h
theorem rk_3_1 (i : Nat) (h : (kd i).1 = 3) : kd (rt i 1) = (13, 4096) := by
  have hh : ∀ i, i < NC → (kd i).1 = 3 → kd (rt i 1) = (13, 4096) := by decide +kernel
  exact hh i (kd_lt h (by decide)) h
theorem rk_3_2 (i : Nat) (h : (kd i).1 = 3) : kd (rt i 2) = (13, 900) := by
  have hh : ∀ i, i < NC → (kd i).1 = 3 → kd (rt i 2) = (13, 900) := by decide +kernel
  exact hh i (kd_lt h (by decide)) h
theorem rk_4_0 (i : Nat) (h : (kd i).1 = 4) : kd (rt i 0) = (13, 6) := by
  have hh : ∀ i, i < NC → (kd i).1 = 4 → kd (rt i 0) = (13, 6) := by decide +kernel
  exact hh i (kd_lt h (by decide)) h
theorem rk_4_2 (i : Nat) (h : (kd i).1 = 4) : kd (rt i 2) = (18, 7) := by
  have hh : ∀ i, i < NC → (kd i).1 = 4 → kd (rt i 2) = (18, 7) := by decide +kernel
  exact hh i (kd_lt h (by decide)) h
theorem re_4_2 (i : Nat) (h : (kd i).1 = 4) : ∀ q, q < 7 → kd (rt (rt i 2) q) = (16, 7) := by
  have hh : ∀ i, i < NC → (kd i).1 = 4 → ∀ q, q < 7 → kd (rt (rt i 2) q) = (16, 7) := by decide +kernel
  exact hh i (kd_lt h (by decide)) h
theorem rk_4_3 (i : Nat) (h : (kd i).1 = 4) : kd (rt i 3) = (16, 7) := by
  have hh : ∀ i, i < NC → (kd i).1 = 4 → kd (rt i 3) = (16, 7) := by decide +kernel
  exact hh i (kd_lt h (by decide)) h
theorem rk_5_0 (i : Nat) (h : (kd i).1 = 5) : kd (rt i 0) = (8, 0) := by
  have hh : ∀ i, i < NC → (kd i).1 = 5 → kd (rt i 0) = (8, 0) := by decide +kernel
  exact hh i (kd_lt h (by decide)) h
theorem rk_5_1 (i : Nat) (h : (kd i).1 = 5) : kd (rt i 1) = (13, 12) := by
  have hh : ∀ i, i < NC → (kd i).1 = 5 → kd (rt i 1) = (13, 12) := by decide +kernel
  exact hh i (kd_lt h (by decide)) h
theorem rk_6_0 (i : Nat) (h : (kd i).1 = 6) : kd (rt i 0) = (9, 0) := by
  have hh : ∀ i, i < NC → (kd i).1 = 6 → kd (rt i 0) = (9, 0) := by decide +kernel
  exact hh i (kd_lt h (by decide)) h
theorem rk_6_1 (i : Nat) (h : (kd i).1 = 6) : kd (rt i 1) = (8, 0) := by
  have hh : ∀ i, i < NC → (kd i).1 = 6 → kd (rt i 1) = (8, 0) := by decide +kernel
  exact hh i (kd_lt h (by decide)) h
theorem rk_6_2 (i : Nat) (h : (kd i).1 = 6) : kd (rt i 2) = (13, 900) := by
  have hh : ∀ i, i < NC → (kd i).1 = 6 → kd (rt i 2) = (13, 900) := by decide +kernel
  exact hh i (kd_lt h (by decide)) h
theorem rk_7_0 (i : Nat) (h : (kd i).1 = 7) : kd (rt i 0) = (8, 0) := by
  have hh : ∀ i, i < NC → (kd i).1 = 7 → kd (rt i 0) = (8, 0) := by decide +kernel
  exact hh i (kd_lt h (by decide)) h
theorem rk_7_1 (i : Nat) (h : (kd i).1 = 7) : kd (rt i 1) = (0, 0) := by
  have hh : ∀ i, i < NC → (kd i).1 = 7 → kd (rt i 1) = (0, 0) := by decide +kernel
  exact hh i (kd_lt h (by decide)) h
theorem rk_7_2 (i : Nat) (h : (kd i).1 = 7) : kd (rt i 2) = (2, 0) := by
  have hh : ∀ i, i < NC → (kd i).1 = 7 → kd (rt i 2) = (2, 0) := by decide +kernel
  exact hh i (kd_lt h (by decide)) h
theorem rk_7_3 (i : Nat) (h : (kd i).1 = 7) : kd (rt i 3) = (13, 10) := by
  have hh : ∀ i, i < NC → (kd i).1 = 7 → kd (rt i 3) = (13, 10) := by decide +kernel
  exact hh i (kd_lt h (by decide)) h
theorem rk_7_4 (i : Nat) (h : (kd i).1 = 7) : kd (rt i 4) = (13, 10) := by
  have hh : ∀ i, i < NC → (kd i).1 = 7 → kd (rt i 4) = (13, 10) := by decide +kernel
  exact hh i (kd_lt h (by decide)) h
theorem rk_8_12 (i : Nat) (h : (kd i).1 = 8) : kd (rt i 12) = (13, 10) := by
  have hh : ∀ i, i < NC → (kd i).1 = 8 → kd (rt i 12) = (13, 10) := by decide +kernel
  exact hh i (kd_lt h (by decide)) h
theorem rk_8_13 (i : Nat) (h : (kd i).1 = 8) : kd (rt i 13) = (13, 10) := by
  have hh : ∀ i, i < NC → (kd i).1 = 8 → kd (rt i 13) = (13, 10) := by decide +kernel
  exact hh i (kd_lt h (by decide)) h
theorem rk_8_14 (i : Nat) (h : (kd i).1 = 8) : kd (rt i 14) = (13, 11) := by
  have hh : ∀ i, i < NC → (kd i).1 = 8 → kd (rt i 14) = (13, 11) := by decide +kernel
  exact hh i (kd_lt h (by decide)) h
theorem rk_8_15 (i : Nat) (h : (kd i).1 = 8) : kd (rt i 15) = (13, 900) := by
  have hh : ∀ i, i < NC → (kd i).1 = 8 → kd (rt i 15) = (13, 900) := by decide +kernel
  exact hh i (kd_lt h (by decide)) h
theorem rk_9_0 (i : Nat) (h : (kd i).1 = 9) : kd (rt i 0) = (14, 900) := by
  have hh : ∀ i, i < NC → (kd i).1 = 9 → kd (rt i 0) = (14, 900) := by decide +kernel
  exact hh i (kd_lt h (by decide)) h
theorem rk_10_2 (i : Nat) (h : (kd i).1 = 10) : kd (rt i 2) = (16, 30) := by
  have hh : ∀ i, i < NC → (kd i).1 = 10 → kd (rt i 2) = (16, 30) := by decide +kernel
  exact hh i (kd_lt h (by decide)) h
theorem rk_11_0 (i : Nat) (h : (kd i).1 = 11) : kd (rt i 0) = (14, 900) := by
  have hh : ∀ i, i < NC → (kd i).1 = 11 → kd (rt i 0) = (14, 900) := by decide +kernel
  exact hh i (kd_lt h (by decide)) h
theorem rk_11_2 (i : Nat) (h : (kd i).1 = 11) : kd (rt i 2) = (8, 0) := by
  have hh : ∀ i, i < NC → (kd i).1 = 11 → kd (rt i 2) = (8, 0) := by decide +kernel
  exact hh i (kd_lt h (by decide)) h
theorem rk_11_4 (i : Nat) (h : (kd i).1 = 11) : kd (rt i 4) = (6, 0) := by
  have hh : ∀ i, i < NC → (kd i).1 = 11 → kd (rt i 4) = (6, 0) := by decide +kernel
  exact hh i (kd_lt h (by decide)) h
theorem rk_11_5 (i : Nat) (h : (kd i).1 = 11) : kd (rt i 5) = (0, 0) := by
  have hh : ∀ i, i < NC → (kd i).1 = 11 → kd (rt i 5) = (0, 0) := by decide +kernel
  exact hh i (kd_lt h (by decide)) h
theorem rk_11_6 (i : Nat) (h : (kd i).1 = 11) : kd (rt i 6) = (3, 0) := by
  have hh : ∀ i, i < NC → (kd i).1 = 11 → kd (rt i 6) = (3, 0) := by decide +kernel
  exact hh i (kd_lt h (by decide)) h
theorem rk_11_7 (i : Nat) (h : (kd i).1 = 11) : kd (rt i 7) = (2, 0) := by
  have hh : ∀ i, i < NC → (kd i).1 = 11 → kd (rt i 7) = (2, 0) := by decide +kernel
  exact hh i (kd_lt h (by decide)) h
theorem rk_11_8 (i : Nat) (h : (kd i).1 = 11) : kd (rt i 8) = (7, 0) := by
  have hh : ∀ i, i < NC → (kd i).1 = 11 → kd (rt i 8) = (7, 0) := by decide +kernel
  exact hh i (kd_lt h (by decide)) h
theorem rk_12_0 (i : Nat) (h : (kd i).1 = 12) : kd (rt i 0) = (13, 1200) := by
  have hh : ∀ i, i < NC → (kd i).1 = 12 → kd (rt i 0) = (13, 1200) := by decide +kernel
  exact hh i (kd_lt h (by decide)) h
theorem rk_12_1 (i : Nat) (h : (kd i).1 = 12) : kd (rt i 1) = (13, 1200) := by
  have hh : ∀ i, i < NC → (kd i).1 = 12 → kd (rt i 1) = (13, 1200) := by decide +kernel
  exact hh i (kd_lt h (by decide)) h
theorem rk_12_2 (i : Nat) (h : (kd i).1 = 12) : kd (rt i 2) = (13, 3600) := by
  have hh : ∀ i, i < NC → (kd i).1 = 12 → kd (rt i 2) = (13, 3600) := by decide +kernel
  exact hh i (kd_lt h (by decide)) h
theorem rk_12_3 (i : Nat) (h : (kd i).1 = 12) : kd (rt i 3) = (13, 17) := by
  have hh : ∀ i, i < NC → (kd i).1 = 12 → kd (rt i 3) = (13, 17) := by decide +kernel
  exact hh i (kd_lt h (by decide)) h
theorem rk_12_4 (i : Nat) (h : (kd i).1 = 12) : kd (rt i 4) = (15, 3) := by
  have hh : ∀ i, i < NC → (kd i).1 = 12 → kd (rt i 4) = (15, 3) := by decide +kernel
  exact hh i (kd_lt h (by decide)) h
theorem rk_12_6 (i : Nat) (h : (kd i).1 = 12) : kd (rt i 6) = (13, 900) := by
  have hh : ∀ i, i < NC → (kd i).1 = 12 → kd (rt i 6) = (13, 900) := by decide +kernel
  exact hh i (kd_lt h (by decide)) h
theorem rk_12_18 (i : Nat) (h : (kd i).1 = 12) : kd (rt i 18) = (15, 40960) := by
  have hh : ∀ i, i < NC → (kd i).1 = 12 → kd (rt i 18) = (15, 40960) := by decide +kernel
  exact hh i (kd_lt h (by decide)) h
theorem rk_12_19 (i : Nat) (h : (kd i).1 = 12) : kd (rt i 19) = (13, 4096) := by
  have hh : ∀ i, i < NC → (kd i).1 = 12 → kd (rt i 19) = (13, 4096) := by decide +kernel
  exact hh i (kd_lt h (by decide)) h
theorem rk_12_20 (i : Nat) (h : (kd i).1 = 12) : kd (rt i 20) = (13, 64) := by
  have hh : ∀ i, i < NC → (kd i).1 = 12 → kd (rt i 20) = (13, 64) := by decide +kernel
  exact hh i (kd_lt h (by decide)) h
theorem rk_12_21 (i : Nat) (h : (kd i).1 = 12) : kd (rt i 21) = (13, 4096) := by
  have hh : ∀ i, i < NC → (kd i).1 = 12 → kd (rt i 21) = (13, 4096) := by decide +kernel
  exact hh i (kd_lt h (by decide)) h
theorem rk_12_22 (i : Nat) (h : (kd i).1 = 12) : kd (rt i 22) = (15, 1024) := by
  have hh : ∀ i, i < NC → (kd i).1 = 12 → kd (rt i 22) = (15, 1024) := by decide +kernel
  exact hh i (kd_lt h (by decide)) h
theorem rk_12_23 (i : Nat) (h : (kd i).1 = 12) : kd (rt i 23) = (13, 1024) := by
  have hh : ∀ i, i < NC → (kd i).1 = 12 → kd (rt i 23) = (13, 1024) := by decide +kernel
  exact hh i (kd_lt h (by decide)) h
theorem rk_12_24 (i : Nat) (h : (kd i).1 = 12) : kd (rt i 24) = (13, 10) := by
  have hh : ∀ i, i < NC → (kd i).1 = 12 → kd (rt i 24) = (13, 10) := by decide +kernel
  exact hh i (kd_lt h (by decide)) h
theorem rk_12_25 (i : Nat) (h : (kd i).1 = 12) : kd (rt i 25) = (13, 10) := by
  have hh : ∀ i, i < NC → (kd i).1 = 12 → kd (rt i 25) = (13, 10) := by decide +kernel
  exact hh i (kd_lt h (by decide)) h
theorem rk_12_26 (i : Nat) (h : (kd i).1 = 12) : kd (rt i 26) = (13, 10) := by
  have hh : ∀ i, i < NC → (kd i).1 = 12 → kd (rt i 26) = (13, 10) := by decide +kernel
  exact hh i (kd_lt h (by decide)) h
theorem rk_12_27 (i : Nat) (h : (kd i).1 = 12) : kd (rt i 27) = (13, 3) := by
  have hh : ∀ i, i < NC → (kd i).1 = 12 → kd (rt i 27) = (13, 3) := by decide +kernel
  exact hh i (kd_lt h (by decide)) h
theorem rk_12_28 (i : Nat) (h : (kd i).1 = 12) : kd (rt i 28) = (13, 3) := by
  have hh : ∀ i, i < NC → (kd i).1 = 12 → kd (rt i 28) = (13, 3) := by decide +kernel
  exact hh i (kd_lt h (by decide)) h
theorem rk_12_30 (i : Nat) (h : (kd i).1 = 12) : kd (rt i 30) = (16, 2496) := by
  have hh : ∀ i, i < NC → (kd i).1 = 12 → kd (rt i 30) = (16, 2496) := by decide +kernel
  exact hh i (kd_lt h (by decide)) h
theorem rk_12_31 (i : Nat) (h : (kd i).1 = 12) : kd (rt i 31) = (13, 25) := by
  have hh : ∀ i, i < NC → (kd i).1 = 12 → kd (rt i 31) = (13, 25) := by decide +kernel
  exact hh i (kd_lt h (by decide)) h
theorem rk_12_32 (i : Nat) (h : (kd i).1 = 12) : kd (rt i 32) = (13, 25) := by
  have hh : ∀ i, i < NC → (kd i).1 = 12 → kd (rt i 32) = (13, 25) := by decide +kernel
  exact hh i (kd_lt h (by decide)) h
theorem rk_12_35 (i : Nat) (h : (kd i).1 = 12) : kd (rt i 35) = (16, 49) := by
  have hh : ∀ i, i < NC → (kd i).1 = 12 → kd (rt i 35) = (16, 49) := by decide +kernel
  exact hh i (kd_lt h (by decide)) h
theorem rk_12_36 (i : Nat) (h : (kd i).1 = 12) : kd (rt i 36) = (13, 4) := by
  have hh : ∀ i, i < NC → (kd i).1 = 12 → kd (rt i 36) = (13, 4) := by decide +kernel
  exact hh i (kd_lt h (by decide)) h
theorem rk_12_37 (i : Nat) (h : (kd i).1 = 12) : kd (rt i 37) = (13, 4) := by
  have hh : ∀ i, i < NC → (kd i).1 = 12 → kd (rt i 37) = (13, 4) := by decide +kernel
  exact hh i (kd_lt h (by decide)) h
theorem rk_12_38 (i : Nat) (h : (kd i).1 = 12) : kd (rt i 38) = (16, 120) := by
  have hh : ∀ i, i < NC → (kd i).1 = 12 → kd (rt i 38) = (16, 120) := by decide +kernel
  exact hh i (kd_lt h (by decide)) h

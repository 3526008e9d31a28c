theorem bp_m10 : (Int8.ofInt (-10)).toInt32 = (-10 : Int32) := by decide
theorem bp_6 : (Int8.ofInt 6).toInt32 = (6 : Int32) := by decide
theorem bp_7 : (Int8.ofInt 7).toInt32 = (7 : Int32) := by decide
theorem bp_8 : (Int8.ofInt 8).toInt32 = (8 : Int32) := by decide
theorem bp_9 : (Int8.ofInt 9).toInt32 = (9 : Int32) := by decide
theorem bp_10 : (Int8.ofInt 10).toInt32 = (10 : Int32) := by decide
theorem bp_11 : (Int8.ofInt 11).toInt32 = (11 : Int32) := by decide
theorem bp_12 : (Int8.ofInt 12).toInt32 = (12 : Int32) := by decide
theorem bp_13 : (Int8.ofInt 13).toInt32 = (13 : Int32) := by decide
theorem bp_14 : (Int8.ofInt 14).toInt32 = (14 : Int32) := by decide
theorem bp_15 : (Int8.ofInt 15).toInt32 = (15 : Int32) := by decide
theorem bp_16 : (Int8.ofInt 16).toInt32 = (16 : Int32) := by decide
theorem bp_17 : (Int8.ofInt 17).toInt32 = (17 : Int32) := by decide
theorem bp_18 : (Int8.ofInt 18).toInt32 = (18 : Int32) := by decide
theorem bp_20 : (Int8.ofInt 20).toInt32 = (20 : Int32) := by decide
theorem bp_24 : (Int8.ofInt 24).toInt32 = (24 : Int32) := by decide
theorem bp_30 : (Int8.ofInt 30).toInt32 = (30 : Int32) := by decide
theorem bp_32 : (Int8.ofInt 32).toInt32 = (32 : Int32) := by decide
theorem bp_34 : (Int8.ofInt 34).toInt32 = (34 : Int32) := by decide
theorem bp_40 : (Int8.ofInt 40).toInt32 = (40 : Int32) := by decide
theorem bp_41 : (Int8.ofInt 41).toInt32 = (41 : Int32) := by decide
theorem bp_42 : (Int8.ofInt 42).toInt32 = (42 : Int32) := by decide
theorem bp_43 : (Int8.ofInt 43).toInt32 = (43 : Int32) := by decide
theorem bp_44 : (Int8.ofInt 44).toInt32 = (44 : Int32) := by decide
theorem bp_45 : (Int8.ofInt 45).toInt32 = (45 : Int32) := by decide
theorem bp_48 : (Int8.ofInt 48).toInt32 = (48 : Int32) := by decide
theorem bp_54 : (Int8.ofInt 54).toInt32 = (54 : Int32) := by decide
theorem bp_57 : (Int8.ofInt 57).toInt32 = (57 : Int32) := by decide
theorem bp_58 : (Int8.ofInt 58).toInt32 = (58 : Int32) := by decide
theorem bp_59 : (Int8.ofInt 59).toInt32 = (59 : Int32) := by decide
theorem bp_60 : (Int8.ofInt 60).toInt32 = (60 : Int32) := by decide
theorem bp_61 : (Int8.ofInt 61).toInt32 = (61 : Int32) := by decide
theorem bp_62 : (Int8.ofInt 62).toInt32 = (62 : Int32) := by decide
theorem bp_63 : (Int8.ofInt 63).toInt32 = (63 : Int32) := by decide
theorem bp_64 : (Int8.ofInt 64).toInt32 = (64 : Int32) := by decide
theorem bp_65 : (Int8.ofInt 65).toInt32 = (65 : Int32) := by decide
theorem bp_66 : (Int8.ofInt 66).toInt32 = (66 : Int32) := by decide
theorem bp_91 : (Int8.ofInt 91).toInt32 = (91 : Int32) := by decide
theorem bp_93 : (Int8.ofInt 93).toInt32 = (93 : Int32) := by decide
theorem bp_97 : (Int8.ofInt 97).toInt32 = (97 : Int32) := by decide
theorem bp_99 : (Int8.ofInt 99).toInt32 = (99 : Int32) := by decide
theorem bp_100 : (Int8.ofInt 100).toInt32 = (100 : Int32) := by decide
theorem bp_122 : (Int8.ofInt 122).toInt32 = (122 : Int32) := by decide
theorem ic_m1 : Int32.ofInt (-1) = (-1 : Int32) := by decide
theorem ic_0 : Int32.ofInt 0 = (0 : Int32) := by decide
theorem ic_1 : Int32.ofInt 1 = (1 : Int32) := by decide
theorem ic_2 : Int32.ofInt 2 = (2 : Int32) := by decide
theorem ic_3 : Int32.ofInt 3 = (3 : Int32) := by decide
theorem ic_4 : Int32.ofInt 4 = (4 : Int32) := by decide
theorem ic_5 : Int32.ofInt 5 = (5 : Int32) := by decide
theorem lc_0 : Int64.ofNat ((0 : Fin 2) : Nat) = (0 : Int64) := by decide
theorem lc_1 : Int64.ofNat ((1 : Fin 2) : Nat) = (1 : Int64) := by decide
theorem sp_200 : (Int16.ofInt 200).toInt32 = (200 : Int32) := by decide
theorem sp_219 : (Int16.ofInt 219).toInt32 = (219 : Int32) := by decide
theorem sp_236 : (Int16.ofInt 236).toInt32 = (236 : Int32) := by decide
theorem sp_255 : (Int16.ofInt 255).toInt32 = (255 : Int32) := by decide
theorem sp_300 : (Int16.ofInt 300).toInt32 = (300 : Int32) := by decide
theorem sp_400 : (Int16.ofInt 400).toInt32 = (400 : Int32) := by decide
theorem sp_900 : (Int16.ofInt 900).toInt32 = (900 : Int32) := by decide
theorem sp_999 : (Int16.ofInt 999).toInt32 = (999 : Int32) := by decide
theorem sp_1000 : (Int16.ofInt 1000).toInt32 = (1000 : Int32) := by decide
theorem sp_1023 : (Int16.ofInt 1023).toInt32 = (1023 : Int32) := by decide
theorem sp_1024 : (Int16.ofInt 1024).toInt32 = (1024 : Int32) := by decide
theorem sp_1200 : (Int16.ofInt 1200).toInt32 = (1200 : Int32) := by decide
theorem sp_4095 : (Int16.ofInt 4095).toInt32 = (4095 : Int32) := by decide
theorem sp_4096 : (Int16.ofInt 4096).toInt32 = (4096 : Int32) := by decide
theorem sp_12345 : (Int16.ofInt 12345).toInt32 = (12345 : Int32) := by decide
theorem lk_0 : Cond.selects RX11 yX11_lay yX11_lay ∈ WSG := lk 0 (by decide +kernel) (by decide +kernel)
theorem lk_1 : Cond.selects RX3 yX3_truthOf yX3_truthOf ∈ WSG := lk 1 (by decide +kernel) (by decide +kernel)
theorem lk_2 : Cond.selects RX2 yX2_settle yX2_settle ∈ WSG := lk 2 (by decide +kernel) (by decide +kernel)
theorem lk_3 : Cond.selects RX2 yX2_spread yX2_spread ∈ WSG := lk 3 (by decide +kernel) (by decide +kernel)
theorem lk_4 : Cond.selects RX2 yX2_nightsFor yX2_nightsFor ∈ WSG := lk 4 (by decide +kernel) (by decide +kernel)
theorem lk_5 : Cond.selects RX2 yX2_areTogether yX2_areTogether ∈ WSG := lk 5 (by decide +kernel) (by decide +kernel)
theorem lk_6 : Cond.selects RX7 yX7_sayAsItIs yX7_sayAsItIs ∈ WSG := lk 6 (by decide +kernel) (by decide +kernel)
theorem lk_7 : Cond.selects RX7 yX7_serve yX7_serve ∈ WSG := lk 7 (by decide +kernel) (by decide +kernel)
theorem lk_8 : Cond.selects RX7 yX7_firstOf yX7_firstOf ∈ WSG := lk 8 (by decide +kernel) (by decide +kernel)
theorem lk_9 : Cond.selects RX7 yX7_turnOf yX7_turnOf ∈ WSG := lk 9 (by decide +kernel) (by decide +kernel)
theorem lk_10 : Cond.selects RX7 yX7_openOf yX7_openOf ∈ WSG := lk 10 (by decide +kernel) (by decide +kernel)
theorem lk_11 : Cond.selects RX11 yX11_makeNight yX11_makeNight ∈ WSG := lk 11 (by decide +kernel) (by decide +kernel)
theorem lk_13 : Cond.selects RX9 yX9_runEnd yX9_runEnd ∈ WSG := lk 13 (by decide +kernel) (by decide +kernel)
theorem lk_14 : Cond.selects RX6 yX6_readSky yX6_readSky ∈ WSG := lk 14 (by decide +kernel) (by decide +kernel)
theorem lk_15 : Cond.selects RX6 yX6_take yX6_take ∈ WSG := lk 15 (by decide +kernel) (by decide +kernel)
theorem lk_16 : Cond.selects RX6 yX6_refuse yX6_refuse ∈ WSG := lk 16 (by decide +kernel) (by decide +kernel)
theorem lk_17 : Cond.selects RX6 yX6_takeNumber yX6_takeNumber ∈ WSG := lk 17 (by decide +kernel) (by decide +kernel)
theorem lk_18 : Cond.selects RX6 yX6_endLine yX6_endLine ∈ WSG := lk 18 (by decide +kernel) (by decide +kernel)
theorem lk_19 : Cond.selects RX6 yX6_readLine yX6_readLine ∈ WSG := lk 19 (by decide +kernel) (by decide +kernel)
theorem lk_20 : Cond.selects RX6 yX6_readWish yX6_readWish ∈ WSG := lk 20 (by decide +kernel) (by decide +kernel)
theorem lk_21 : Cond.selects RX6 yX6_readOperand yX6_readOperand ∈ WSG := lk 21 (by decide +kernel) (by decide +kernel)
theorem lk_22 : Cond.selects RX6 yX6_open yX6_open ∈ WSG := lk 22 (by decide +kernel) (by decide +kernel)
theorem lk_23 : Cond.selects RX6 yX6_await yX6_await ∈ WSG := lk 23 (by decide +kernel) (by decide +kernel)
theorem lk_24 : Cond.selects RX6 yX6_readAtom yX6_readAtom ∈ WSG := lk 24 (by decide +kernel) (by decide +kernel)
theorem lk_25 : Cond.selects RX6 yX6_readOperator yX6_readOperator ∈ WSG := lk 25 (by decide +kernel) (by decide +kernel)
theorem lk_26 : Cond.selects RX6 yX6_arithmeticSign yX6_arithmeticSign ∈ WSG := lk 26 (by decide +kernel) (by decide +kernel)
theorem lk_27 : Cond.selects RX6 yX6_join yX6_join ∈ WSG := lk 27 (by decide +kernel) (by decide +kernel)
theorem lk_28 : Cond.selects RX6 yX6_settleDownTo yX6_settleDownTo ∈ WSG := lk 28 (by decide +kernel) (by decide +kernel)
theorem lk_29 : Cond.selects RX6 yX6_close yX6_close ∈ WSG := lk 29 (by decide +kernel) (by decide +kernel)
theorem lk_30 : Cond.selects RX6 yX6_comparingSign yX6_comparingSign ∈ WSG := lk 30 (by decide +kernel) (by decide +kernel)
theorem lk_31 : Cond.selects RX6 yX6_endWish yX6_endWish ∈ WSG := lk 31 (by decide +kernel) (by decide +kernel)
theorem lk_41 : Cond.selects RX7 yX7_sayOtherwise yX7_sayOtherwise ∈ WSG := lk 41 (by decide +kernel) (by decide +kernel)
theorem lk_43 : Cond.selects RX5 yX5_search yX5_search ∈ WSG := lk 43 (by decide +kernel) (by decide +kernel)
theorem lk_44 : Cond.selects RX5 yX5_fits yX5_fits ∈ WSG := lk 44 (by decide +kernel) (by decide +kernel)
theorem lk_45 : Cond.selects RX5 yX5_keep yX5_keep ∈ WSG := lk 45 (by decide +kernel) (by decide +kernel)
theorem lk_46 : Cond.selects RX1 yX1_takePart yX1_takePart ∈ WSG := lk 46 (by decide +kernel) (by decide +kernel)
theorem lk_47 : Cond.selects RX1 yX1_placeOfCell yX1_placeOfCell ∈ WSG := lk 47 (by decide +kernel) (by decide +kernel)
theorem lk_48 : Cond.selects RX1 yX1_joinAt yX1_joinAt ∈ WSG := lk 48 (by decide +kernel) (by decide +kernel)
theorem lk_49 : Cond.selects RX1 yX1_isNew yX1_isNew ∈ WSG := lk 49 (by decide +kernel) (by decide +kernel)
theorem lk_50 : Cond.selects RX1 yX1_sortPlans yX1_sortPlans ∈ WSG := lk 50 (by decide +kernel) (by decide +kernel)
theorem lk_51 : Cond.selects RX1 yX1_plansOf yX1_plansOf ∈ WSG := lk 51 (by decide +kernel) (by decide +kernel)
theorem lk_53 : Cond.selects RX4 yX4_byGranting yX4_byGranting ∈ WSG := lk 53 (by decide +kernel) (by decide +kernel)
theorem lk_55 : Cond.selects RX12 yX12_laysTruths yX12_laysTruths ∈ WSG := lk 55 (by decide +kernel) (by decide +kernel)
theorem lk_56 : Cond.selects RX12 yX12_everywhere yX12_everywhere ∈ WSG := lk 56 (by decide +kernel) (by decide +kernel)
theorem lk_57 : Cond.selects RX12 yX12_cells yX12_cells ∈ WSG := lk 57 (by decide +kernel) (by decide +kernel)
theorem lk_58 : Cond.selects RX12 yX12_blown yX12_blown ∈ WSG := lk 58 (by decide +kernel) (by decide +kernel)
theorem lk_59 : Cond.selects RX12 yX12_worksOut yX12_worksOut ∈ WSG := lk 59 (by decide +kernel) (by decide +kernel)
theorem lk_60 : Cond.selects RX12 yX12_plain yX12_plain ∈ WSG := lk 60 (by decide +kernel) (by decide +kernel)
theorem lk_61 : Cond.selects RX12 yX12_fails yX12_fails ∈ WSG := lk 61 (by decide +kernel) (by decide +kernel)
theorem lk_62 : Cond.selects RX12 yX12_readsOn yX12_readsOn ∈ WSG := lk 62 (by decide +kernel) (by decide +kernel)
theorem lk_63 : Cond.selects RX12 yX12_see yX12_see ∈ WSG := lk 63 (by decide +kernel) (by decide +kernel)
theorem lk_64 : Cond.selects RX12 yX12_mustWord yX12_mustWord ∈ WSG := lk 64 (by decide +kernel) (by decide +kernel)
theorem lk_65 : Cond.selects RX12 yX12_took yX12_took ∈ WSG := lk 65 (by decide +kernel) (by decide +kernel)
theorem lk_66 : Cond.selects RX12 yX12_isWord yX12_isWord ∈ WSG := lk 66 (by decide +kernel) (by decide +kernel)
theorem lk_67 : Cond.selects RX12 yX12_blames yX12_blames ∈ WSG := lk 67 (by decide +kernel) (by decide +kernel)
theorem lk_68 : Cond.selects RX12 yX12_number yX12_number ∈ WSG := lk 68 (by decide +kernel) (by decide +kernel)
theorem lk_69 : Cond.selects RX12 yX12_readStop yX12_readStop ∈ WSG := lk 69 (by decide +kernel) (by decide +kernel)
theorem lk_70 : Cond.selects RX12 yX12_mustSign yX12_mustSign ∈ WSG := lk 70 (by decide +kernel) (by decide +kernel)
theorem lk_71 : Cond.selects RX12 yX12_readLine yX12_readLine ∈ WSG := lk 71 (by decide +kernel) (by decide +kernel)
theorem lk_72 : Cond.selects RX12 yX12_readWish yX12_readWish ∈ WSG := lk 72 (by decide +kernel) (by decide +kernel)
theorem lk_73 : Cond.selects RX12 yX12_readTruth yX12_readTruth ∈ WSG := lk 73 (by decide +kernel) (by decide +kernel)
theorem lk_74 : Cond.selects RX12 yX12_readBoth yX12_readBoth ∈ WSG := lk 74 (by decide +kernel) (by decide +kernel)
theorem lk_75 : Cond.selects RX12 yX12_readUnit yX12_readUnit ∈ WSG := lk 75 (by decide +kernel) (by decide +kernel)
theorem lk_76 : Cond.selects RX12 yX12_goesIn yX12_goesIn ∈ WSG := lk 76 (by decide +kernel) (by decide +kernel)
theorem lk_77 : Cond.selects RX12 yX12_laysStep yX12_laysStep ∈ WSG := lk 77 (by decide +kernel) (by decide +kernel)
theorem lk_78 : Cond.selects RX12 yX12_isSign yX12_isSign ∈ WSG := lk 78 (by decide +kernel) (by decide +kernel)
theorem lk_79 : Cond.selects RX12 yX12_readSum yX12_readSum ∈ WSG := lk 79 (by decide +kernel) (by decide +kernel)
theorem lk_80 : Cond.selects RX12 yX12_readTerm yX12_readTerm ∈ WSG := lk 80 (by decide +kernel) (by decide +kernel)
theorem lk_81 : Cond.selects RX12 yX12_readAtom yX12_readAtom ∈ WSG := lk 81 (by decide +kernel) (by decide +kernel)
theorem lk_82 : Cond.selects RX12 yX12_isWish yX12_isWish ∈ WSG := lk 82 (by decide +kernel) (by decide +kernel)
theorem lk_83 : Cond.selects RX12 yX12_doesHold yX12_doesHold ∈ WSG := lk 83 (by decide +kernel) (by decide +kernel)
theorem lk_84 : Cond.selects RX12 yX12_isOpen yX12_isOpen ∈ WSG := lk 84 (by decide +kernel) (by decide +kernel)
theorem lk_85 : Cond.selects RX12 yX12_isSky yX12_isSky ∈ WSG := lk 85 (by decide +kernel) (by decide +kernel)
theorem lk_86 : Cond.selects RX12 yX12_whyNot yX12_whyNot ∈ WSG := lk 86 (by decide +kernel) (by decide +kernel)
theorem lk_87 : Cond.selects RX12 yX12_musts yX12_musts ∈ WSG := lk 87 (by decide +kernel) (by decide +kernel)
theorem lk_88 : Cond.selects RX12 yX12_grantedIn yX12_grantedIn ∈ WSG := lk 88 (by decide +kernel) (by decide +kernel)
theorem lk_89 : Cond.selects RX12 yX12_isAsked yX12_isAsked ∈ WSG := lk 89 (by decide +kernel) (by decide +kernel)
theorem lk_90 : Cond.selects RX12 yX12_laysPlans yX12_laysPlans ∈ WSG := lk 90 (by decide +kernel) (by decide +kernel)
theorem lk_91 : Cond.selects RX12 yX12_planFor yX12_planFor ∈ WSG := lk 91 (by decide +kernel) (by decide +kernel)
theorem lk_92 : Cond.selects RX12 yX12_openFault yX12_openFault ∈ WSG := lk 92 (by decide +kernel) (by decide +kernel)
theorem lk_93 : Cond.selects RX12 yX12_weight yX12_weight ∈ WSG := lk 93 (by decide +kernel) (by decide +kernel)
theorem lk_94 : Cond.selects RX12 yX12_heartsOf yX12_heartsOf ∈ WSG := lk 94 (by decide +kernel) (by decide +kernel)
theorem lk_95 : Cond.selects RX12 yX12_expects yX12_expects ∈ WSG := lk 95 (by decide +kernel) (by decide +kernel)
theorem lk_96 : Cond.selects RX12 yX12_asksAsItIs yX12_asksAsItIs ∈ WSG := lk 96 (by decide +kernel) (by decide +kernel)
theorem lk_97 : Cond.selects RX12 yX12_serves yX12_serves ∈ WSG := lk 97 (by decide +kernel) (by decide +kernel)
theorem lk_98 : Cond.selects RX12 yX12_key yX12_key ∈ WSG := lk 98 (by decide +kernel) (by decide +kernel)
theorem lk_99 : Cond.selects RX12 yX12_manyOf yX12_manyOf ∈ WSG := lk 99 (by decide +kernel) (by decide +kernel)
theorem lk_100 : Cond.selects RX12 yX12_shareOf yX12_shareOf ∈ WSG := lk 100 (by decide +kernel) (by decide +kernel)
theorem lk_101 : Cond.selects RX12 yX12_shareBy yX12_shareBy ∈ WSG := lk 101 (by decide +kernel) (by decide +kernel)
theorem lk_102 : Cond.selects RX12 yX12_wantsFault yX12_wantsFault ∈ WSG := lk 102 (by decide +kernel) (by decide +kernel)
theorem lk_103 : Cond.selects RX12 yX12_trayFault yX12_trayFault ∈ WSG := lk 103 (by decide +kernel) (by decide +kernel)
theorem lk_104 : Cond.selects RX12 yX12_goesWants yX12_goesWants ∈ WSG := lk 104 (by decide +kernel) (by decide +kernel)
theorem lk_105 : Cond.selects RX12 yX12_doPart yX12_doPart ∈ WSG := lk 105 (by decide +kernel) (by decide +kernel)
theorem lk_106 : Cond.selects RX12 yX12_sayFault yX12_sayFault ∈ WSG := lk 106 (by decide +kernel) (by decide +kernel)
theorem lk_107 : Cond.selects RX12 yX12_reads yX12_reads ∈ WSG := lk 107 (by decide +kernel) (by decide +kernel)
theorem lk_108 : Cond.selects RX12 yX12_laysReading yX12_laysReading ∈ WSG := lk 108 (by decide +kernel) (by decide +kernel)
theorem lk_109 : Cond.selects RX12 yX12_laysPair yX12_laysPair ∈ WSG := lk 109 (by decide +kernel) (by decide +kernel)
theorem lk_110 : Cond.selects RX12 yX12_unlike yX12_unlike ∈ WSG := lk 110 (by decide +kernel) (by decide +kernel)
theorem lk_111 : Cond.selects RX12 yX12_areLike yX12_areLike ∈ WSG := lk 111 (by decide +kernel) (by decide +kernel)
theorem lk_112 : Cond.selects RX12 yX12_holdsIn yX12_holdsIn ∈ WSG := lk 112 (by decide +kernel) (by decide +kernel)
theorem lk_113 : Cond.selects RX12 yX12_keeps yX12_keeps ∈ WSG := lk 113 (by decide +kernel) (by decide +kernel)
theorem lk_114 : Cond.selects RX12 yX12_goesBy yX12_goesBy ∈ WSG := lk 114 (by decide +kernel) (by decide +kernel)
theorem lk_115 : Cond.selects RX12 yX12_draw yX12_draw ∈ WSG := lk 115 (by decide +kernel) (by decide +kernel)
theorem lk_116 : Cond.selects RX12 yX12_holdFault yX12_holdFault ∈ WSG := lk 116 (by decide +kernel) (by decide +kernel)
theorem lk_117 : Cond.selects RX12 yX12_laysWorth yX12_laysWorth ∈ WSG := lk 117 (by decide +kernel) (by decide +kernel)
theorem lk_118 : Cond.selects RX12 yX12_grantsNow yX12_grantsNow ∈ WSG := lk 118 (by decide +kernel) (by decide +kernel)
theorem lk_119 : Cond.selects RX12 yX12_cut yX12_cut ∈ WSG := lk 119 (by decide +kernel) (by decide +kernel)
theorem lk_121 : Cond.initialized RX11 ∈ WSG := lk 121 (by decide +kernel) (by decide +kernel)
theorem lk_122 : Cond.initialized RX8 ∈ WSG := lk 122 (by decide +kernel) (by decide +kernel)
theorem lk_123 : Cond.initialized RX6 ∈ WSG := lk 123 (by decide +kernel) (by decide +kernel)
theorem lk_124 : Cond.initialized RX9 ∈ WSG := lk 124 (by decide +kernel) (by decide +kernel)
theorem lk_125 : Cond.initialized RX0 ∈ WSG := lk 125 (by decide +kernel) (by decide +kernel)
theorem lk_126 : Cond.initialized RX3 ∈ WSG := lk 126 (by decide +kernel) (by decide +kernel)
theorem lk_127 : Cond.initialized RJ7 ∈ WSG := lk 127 (by decide +kernel) (by decide +kernel)
theorem lk_128 : Cond.initialized RX2 ∈ WSG := lk 128 (by decide +kernel) (by decide +kernel)
theorem lk_129 : Cond.initialized RX7 ∈ WSG := lk 129 (by decide +kernel) (by decide +kernel)
theorem lk_130 : Cond.initialized RX5 ∈ WSG := lk 130 (by decide +kernel) (by decide +kernel)
theorem lk_131 : Cond.initialized RX1 ∈ WSG := lk 131 (by decide +kernel) (by decide +kernel)
theorem lk_132 : Cond.initialized RX4 ∈ WSG := lk 132 (by decide +kernel) (by decide +kernel)
theorem lk_134 : Cond.initialized RX12 ∈ WSG := lk 134 (by decide +kernel) (by decide +kernel)
theorem lk_135 : Cond.initialized "java/lang/Math" ∈ WSG := lk 135 (by decide +kernel) (by decide +kernel)
theorem lk_140 : Cond.initialized "java/lang/String" ∈ WSG := lk 140 (by decide +kernel) (by decide +kernel)
theorem lk_141 : Cond.initialized RJ1 ∈ WSG := lk 141 (by decide +kernel) (by decide +kernel)
theorem lk_143 : Cond.initialized RJ3 ∈ WSG := lk 143 (by decide +kernel) (by decide +kernel)
theorem lk_145 : Cond.initialized "java/lang/System" ∈ WSG := lk 145 (by decide +kernel) (by decide +kernel)
theorem lk_147 : Cond.initialized RJ6 ∈ WSG := lk 147 (by decide +kernel) (by decide +kernel)
theorem lk_164 : Cond.fieldLink RX8 28 "RainWishes$Sky" "lines" "I" ∈ WSG := lk 164 (by decide +kernel) (by decide +kernel)
theorem lk_165 : Cond.fieldLink RX11 142 "RainWishes$Sky" "lines" "I" ∈ WSG := lk 165 (by decide +kernel) (by decide +kernel)
theorem lk_166 : Cond.fieldLink RX6 110 "RainWishes$Sky" "lines" "I" ∈ WSG := lk 166 (by decide +kernel) (by decide +kernel)
theorem lk_167 : Cond.fieldLink RX8 31 "RainWishes$Sky" "parishes" "I" ∈ WSG := lk 167 (by decide +kernel) (by decide +kernel)
theorem lk_168 : Cond.fieldLink RX6 95 "RainWishes$Sky" "parishes" "I" ∈ WSG := lk 168 (by decide +kernel) (by decide +kernel)
theorem lk_169 : Cond.fieldLink RX11 312 "RainWishes$Sky" "parishes" "I" ∈ WSG := lk 169 (by decide +kernel) (by decide +kernel)
theorem lk_170 : Cond.fieldLink RX8 34 "RainWishes$Sky" "days" "I" ∈ WSG := lk 170 (by decide +kernel) (by decide +kernel)
theorem lk_171 : Cond.fieldLink RX6 104 "RainWishes$Sky" "days" "I" ∈ WSG := lk 171 (by decide +kernel) (by decide +kernel)
theorem lk_172 : Cond.fieldLink RX11 439 "RainWishes$Sky" "days" "I" ∈ WSG := lk 172 (by decide +kernel) (by decide +kernel)
theorem lk_173 : Cond.fieldLink RX8 9 "RainWishes$Sky" "clouds" "I" ∈ WSG := lk 173 (by decide +kernel) (by decide +kernel)
theorem lk_174 : Cond.fieldLink RX6 124 "RainWishes$Sky" "clouds" "I" ∈ WSG := lk 174 (by decide +kernel) (by decide +kernel)
theorem lk_175 : Cond.fieldLink RX3 73 "RainWishes$Sky" "clouds" "I" ∈ WSG := lk 175 (by decide +kernel) (by decide +kernel)
theorem lk_176 : Cond.fieldLink RX11 386 "RainWishes$Sky" "clouds" "I" ∈ WSG := lk 176 (by decide +kernel) (by decide +kernel)
theorem lk_177 : Cond.fieldLink RX8 37 "RainWishes$Sky" "wind" "I" ∈ WSG := lk 177 (by decide +kernel) (by decide +kernel)
theorem lk_178 : Cond.fieldLink RX6 126 "RainWishes$Sky" "wind" "I" ∈ WSG := lk 178 (by decide +kernel) (by decide +kernel)
theorem lk_179 : Cond.fieldLink RX11 442 "RainWishes$Sky" "wind" "I" ∈ WSG := lk 179 (by decide +kernel) (by decide +kernel)
theorem lk_180 : Cond.fieldLink RX8 40 "RainWishes$Sky" "wishes" "I" ∈ WSG := lk 180 (by decide +kernel) (by decide +kernel)
theorem lk_181 : Cond.fieldLink RX3 28 "RainWishes$Sky" "wishes" "I" ∈ WSG := lk 181 (by decide +kernel) (by decide +kernel)
theorem lk_182 : Cond.fieldLink RX7 60 "RainWishes$Sky" "wishes" "I" ∈ WSG := lk 182 (by decide +kernel) (by decide +kernel)
theorem lk_183 : Cond.fieldLink RX11 133 "RainWishes$Sky" "wishes" "I" ∈ WSG := lk 183 (by decide +kernel) (by decide +kernel)
theorem lk_184 : Cond.fieldLink RX2 77 "RainWishes$Sky" "wishes" "I" ∈ WSG := lk 184 (by decide +kernel) (by decide +kernel)
theorem lk_185 : Cond.fieldLink RX0 45 "RainWishes$Sky" "wishes" "I" ∈ WSG := lk 185 (by decide +kernel) (by decide +kernel)
theorem lk_186 : Cond.fieldLink RX6 128 "RainWishes$Sky" "wishes" "I" ∈ WSG := lk 186 (by decide +kernel) (by decide +kernel)
theorem lk_187 : Cond.fieldLink RX8 43 "RainWishes$Sky" "musts" "I" ∈ WSG := lk 187 (by decide +kernel) (by decide +kernel)
theorem lk_189 : Cond.fieldLink RX3 76 "RainWishes$Sky" "musts" "I" ∈ WSG := lk 189 (by decide +kernel) (by decide +kernel)
theorem lk_190 : Cond.fieldLink RX6 141 "RainWishes$Sky" "musts" "I" ∈ WSG := lk 190 (by decide +kernel) (by decide +kernel)
theorem lk_191 : Cond.fieldLink RX7 102 "RainWishes$Sky" "musts" "I" ∈ WSG := lk 191 (by decide +kernel) (by decide +kernel)
theorem lk_192 : Cond.fieldLink RX2 96 "RainWishes$Sky" "musts" "I" ∈ WSG := lk 192 (by decide +kernel) (by decide +kernel)
theorem lk_193 : Cond.fieldLink RX1 51 "RainWishes$Sky" "cells" "I" ∈ WSG := lk 193 (by decide +kernel) (by decide +kernel)
theorem lk_194 : Cond.fieldLink RX8 52 "RainWishes$Sky" "cells" "I" ∈ WSG := lk 194 (by decide +kernel) (by decide +kernel)
theorem lk_195 : Cond.fieldLink RX5 53 "RainWishes$Sky" "cells" "I" ∈ WSG := lk 195 (by decide +kernel) (by decide +kernel)
theorem lk_197 : Cond.fieldLink RX5 30 "RainWishes$Sky" "allCells" "I" ∈ WSG := lk 197 (by decide +kernel) (by decide +kernel)
theorem lk_198 : Cond.fieldLink RX8 55 "RainWishes$Sky" "allCells" "I" ∈ WSG := lk 198 (by decide +kernel) (by decide +kernel)
theorem lk_199 : Cond.fieldLink RX2 56 "RainWishes$Sky" "allCells" "I" ∈ WSG := lk 199 (by decide +kernel) (by decide +kernel)
theorem lk_200 : Cond.fieldLink RX3 64 "RainWishes$Sky" "allCells" "I" ∈ WSG := lk 200 (by decide +kernel) (by decide +kernel)
theorem lk_201 : Cond.fieldLink RX6 189 "RainWishes$Sky" "allCells" "I" ∈ WSG := lk 201 (by decide +kernel) (by decide +kernel)
theorem lk_203 : Cond.fieldLink RX8 46 "RainWishes$Sky" "codes" "I" ∈ WSG := lk 203 (by decide +kernel) (by decide +kernel)
theorem lk_204 : Cond.fieldLink RX6 147 "RainWishes$Sky" "codes" "I" ∈ WSG := lk 204 (by decide +kernel) (by decide +kernel)
theorem lk_205 : Cond.fieldLink RX8 58 "RainWishes$Sky" "blown" "I" ∈ WSG := lk 205 (by decide +kernel) (by decide +kernel)
theorem lk_206 : Cond.fieldLink RX8 61 "RainWishes$Sky" "blownBy" "I" ∈ WSG := lk 206 (by decide +kernel) (by decide +kernel)
theorem lk_207 : Cond.fieldLink RX8 15 "RainWishes$Sky" "by" "[I" ∈ WSG := lk 207 (by decide +kernel) (by decide +kernel)
theorem lk_208 : Cond.fieldLink RX7 75 "RainWishes$Sky" "by" "[I" ∈ WSG := lk 208 (by decide +kernel) (by decide +kernel)
theorem lk_209 : Cond.fieldLink RX0 50 "RainWishes$Sky" "by" "[I" ∈ WSG := lk 209 (by decide +kernel) (by decide +kernel)
theorem lk_211 : Cond.fieldLink RX6 133 "RainWishes$Sky" "by" "[I" ∈ WSG := lk 211 (by decide +kernel) (by decide +kernel)
theorem lk_212 : Cond.fieldLink RX8 19 "RainWishes$Sky" "weight" "[I" ∈ WSG := lk 212 (by decide +kernel) (by decide +kernel)
theorem lk_213 : Cond.fieldLink RX7 37 "RainWishes$Sky" "weight" "[I" ∈ WSG := lk 213 (by decide +kernel) (by decide +kernel)
theorem lk_214 : Cond.fieldLink RX0 53 "RainWishes$Sky" "weight" "[I" ∈ WSG := lk 214 (by decide +kernel) (by decide +kernel)
theorem lk_216 : Cond.fieldLink RX6 135 "RainWishes$Sky" "weight" "[I" ∈ WSG := lk 216 (by decide +kernel) (by decide +kernel)
theorem lk_217 : Cond.fieldLink RX8 22 "RainWishes$Sky" "from" "[I" ∈ WSG := lk 217 (by decide +kernel) (by decide +kernel)
theorem lk_218 : Cond.fieldLink RX3 38 "RainWishes$Sky" "from" "[I" ∈ WSG := lk 218 (by decide +kernel) (by decide +kernel)
theorem lk_219 : Cond.fieldLink RX6 144 "RainWishes$Sky" "from" "[I" ∈ WSG := lk 219 (by decide +kernel) (by decide +kernel)
theorem lk_220 : Cond.fieldLink RX8 25 "RainWishes$Sky" "code" "[I" ∈ WSG := lk 220 (by decide +kernel) (by decide +kernel)
theorem lk_221 : Cond.fieldLink RX3 41 "RainWishes$Sky" "code" "[I" ∈ WSG := lk 221 (by decide +kernel) (by decide +kernel)
theorem lk_270 : Cond.fieldLink RX9 7 "RainWishes$Tokens" "text" "[B" ∈ WSG := lk 270 (by decide +kernel) (by decide +kernel)
theorem lk_271 : Cond.fieldLink RX9 13 "RainWishes$Tokens" "length" "I" ∈ WSG := lk 271 (by decide +kernel) (by decide +kernel)
theorem lk_272 : Cond.fieldLink RX9 17 "RainWishes$Tokens" "end" "I" ∈ WSG := lk 272 (by decide +kernel) (by decide +kernel)
theorem lk_273 : Cond.fieldLink RX9 23 "RainWishes$Tokens" "start" "I" ∈ WSG := lk 273 (by decide +kernel) (by decide +kernel)
theorem lk_274 : Cond.fieldLink RX6 66 "RainWishes$Tokens" "start" "I" ∈ WSG := lk 274 (by decide +kernel) (by decide +kernel)
theorem lk_275 : Cond.fieldLink RX6 51 "RainWishes$Tokens" "kind" "I" ∈ WSG := lk 275 (by decide +kernel) (by decide +kernel)
theorem lk_276 : Cond.fieldLink RX9 26 "RainWishes$Tokens" "kind" "I" ∈ WSG := lk 276 (by decide +kernel) (by decide +kernel)
theorem lk_288 : Cond.fieldLink RX6 24 "RainWishes$Parser" "tokens" "LRainWishes$Tokens;" ∈ WSG := lk 288 (by decide +kernel) (by decide +kernel)
theorem lk_289 : Cond.fieldLink RX6 28 "RainWishes$Parser" "sky" "LRainWishes$Sky;" ∈ WSG := lk 289 (by decide +kernel) (by decide +kernel)
theorem lk_290 : Cond.fieldLink RX6 9 "RainWishes$Parser" "waiting" "[I" ∈ WSG := lk 290 (by decide +kernel) (by decide +kernel)
theorem lk_291 : Cond.fieldLink RX6 150 "RainWishes$Parser" "top" "I" ∈ WSG := lk 291 (by decide +kernel) (by decide +kernel)
theorem lk_292 : Cond.fieldLink RX6 153 "RainWishes$Parser" "nested" "I" ∈ WSG := lk 292 (by decide +kernel) (by decide +kernel)
theorem lk_293 : Cond.fieldLink RX6 156 "RainWishes$Parser" "parens" "I" ∈ WSG := lk 293 (by decide +kernel) (by decide +kernel)
theorem lk_294 : Cond.fieldLink RX6 159 "RainWishes$Parser" "squares" "I" ∈ WSG := lk 294 (by decide +kernel) (by decide +kernel)
theorem lk_295 : Cond.fieldLink RX6 164 "RainWishes$Parser" "compared" "Z" ∈ WSG := lk 295 (by decide +kernel) (by decide +kernel)
theorem lk_296 : Cond.fieldLink RX6 40 "RainWishes$Parser" "state" "I" ∈ WSG := lk 296 (by decide +kernel) (by decide +kernel)
theorem lk_297 : Cond.fieldLink RX6 84 "RainWishes$Parser" "number" "I" ∈ WSG := lk 297 (by decide +kernel) (by decide +kernel)
theorem lk_298 : Cond.fieldLink RX6 37 "RainWishes$Parser" "fault" "I" ∈ WSG := lk 298 (by decide +kernel) (by decide +kernel)
theorem lk_299 : Cond.fieldLink RX11 127 "RainWishes$Parser" "fault" "I" ∈ WSG := lk 299 (by decide +kernel) (by decide +kernel)
theorem lk_300 : Cond.fieldLink RX6 15 "RainWishes$Parser" "place" "I" ∈ WSG := lk 300 (by decide +kernel) (by decide +kernel)
theorem lk_301 : Cond.fieldLink RX11 149 "RainWishes$Parser" "place" "I" ∈ WSG := lk 301 (by decide +kernel) (by decide +kernel)
theorem lk_335 : Cond.fieldLink RX0 23 "RainWishes$Book" "open" "I" ∈ WSG := lk 335 (by decide +kernel) (by decide +kernel)
theorem lk_336 : Cond.fieldLink RX2 41 "RainWishes$Book" "open" "I" ∈ WSG := lk 336 (by decide +kernel) (by decide +kernel)
theorem lk_337 : Cond.fieldLink RX7 53 "RainWishes$Book" "open" "I" ∈ WSG := lk 337 (by decide +kernel) (by decide +kernel)
theorem lk_338 : Cond.fieldLink RX11 165 "RainWishes$Book" "open" "I" ∈ WSG := lk 338 (by decide +kernel) (by decide +kernel)
theorem lk_339 : Cond.fieldLink RX0 9 "RainWishes$Book" "ages" "[I" ∈ WSG := lk 339 (by decide +kernel) (by decide +kernel)
theorem lk_340 : Cond.fieldLink RX7 48 "RainWishes$Book" "ages" "[I" ∈ WSG := lk 340 (by decide +kernel) (by decide +kernel)
theorem lk_342 : Cond.fieldLink RX0 15 "RainWishes$Book" "dues" "[I" ∈ WSG := lk 342 (by decide +kernel) (by decide +kernel)
theorem lk_344 : Cond.fieldLink RX0 33 "RainWishes$Book" "deeds" "I" ∈ WSG := lk 344 (by decide +kernel) (by decide +kernel)
theorem lk_345 : Cond.fieldLink RX11 368 "RainWishes$Book" "deeds" "I" ∈ WSG := lk 345 (by decide +kernel) (by decide +kernel)
theorem lk_346 : Cond.fieldLink RX0 36 "RainWishes$Book" "eldest" "I" ∈ WSG := lk 346 (by decide +kernel) (by decide +kernel)
theorem lk_347 : Cond.fieldLink RX0 20 "RainWishes$Book" "past" "[[I" ∈ WSG := lk 347 (by decide +kernel) (by decide +kernel)
theorem lk_367 : Cond.methodLink RX3 22 yJ7_fill_53178 ∈ WSG := lk 367 (by decide +kernel) (by decide +kernel)
theorem lk_368 : Cond.static yJ7_fill_53178 ∈ WSG := lk 368 (by decide +kernel) (by decide +kernel)
theorem lk_369 : Cond.code yJ7_fill_53178 cJ7_fill_53178 4 none ∈ WSG := lk 369 (by decide +kernel) (by decide +kernel)
theorem lk_370 : Cond.fieldLink RX3 18 "RainWishes$Field" "sky" "LRainWishes$Sky;" ∈ WSG := lk 370 (by decide +kernel) (by decide +kernel)
theorem lk_371 : Cond.fieldLink RX3 9 "RainWishes$Field" "held" "[I" ∈ WSG := lk 371 (by decide +kernel) (by decide +kernel)
theorem lk_372 : Cond.fieldLink RX3 15 "RainWishes$Field" "stack" "[I" ∈ WSG := lk 372 (by decide +kernel) (by decide +kernel)
theorem lk_386 : Cond.fieldLink RX2 21 "RainWishes$Choices" "sky" "LRainWishes$Sky;" ∈ WSG := lk 386 (by decide +kernel) (by decide +kernel)
theorem lk_387 : Cond.fieldLink RX2 25 "RainWishes$Choices" "book" "LRainWishes$Book;" ∈ WSG := lk 387 (by decide +kernel) (by decide +kernel)
theorem lk_388 : Cond.fieldLink RX2 29 "RainWishes$Choices" "field" "LRainWishes$Field;" ∈ WSG := lk 388 (by decide +kernel) (by decide +kernel)
theorem lk_389 : Cond.fieldLink RX2 9 "RainWishes$Choices" "able" "[I" ∈ WSG := lk 389 (by decide +kernel) (by decide +kernel)
theorem lk_390 : Cond.fieldLink RX1 102 "RainWishes$Choices" "able" "[I" ∈ WSG := lk 390 (by decide +kernel) (by decide +kernel)
theorem lk_392 : Cond.fieldLink RX2 47 "RainWishes$Choices" "ables" "I" ∈ WSG := lk 392 (by decide +kernel) (by decide +kernel)
theorem lk_393 : Cond.fieldLink RX1 97 "RainWishes$Choices" "ables" "I" ∈ WSG := lk 393 (by decide +kernel) (by decide +kernel)
theorem lk_394 : Cond.fieldLink RX11 198 "RainWishes$Choices" "ables" "I" ∈ WSG := lk 394 (by decide +kernel) (by decide +kernel)
theorem lk_395 : Cond.fieldLink RX2 15 "RainWishes$Choices" "least" "[I" ∈ WSG := lk 395 (by decide +kernel) (by decide +kernel)
theorem lk_396 : Cond.fieldLink RX2 18 "RainWishes$Choices" "fewest" "[I" ∈ WSG := lk 396 (by decide +kernel) (by decide +kernel)
theorem lk_397 : Cond.fieldLink RX2 37 "RainWishes$Choices" "open" "I" ∈ WSG := lk 397 (by decide +kernel) (by decide +kernel)
theorem lk_398 : Cond.fieldLink RX2 33 "RainWishes$Choices" "fresh" "Z" ∈ WSG := lk 398 (by decide +kernel) (by decide +kernel)
theorem lk_424 : Cond.fieldLink RX7 18 "RainWishes$Rules" "sky" "LRainWishes$Sky;" ∈ WSG := lk 424 (by decide +kernel) (by decide +kernel)
theorem lk_425 : Cond.fieldLink RX7 22 "RainWishes$Rules" "book" "LRainWishes$Book;" ∈ WSG := lk 425 (by decide +kernel) (by decide +kernel)
theorem lk_426 : Cond.fieldLink RX7 26 "RainWishes$Rules" "choices" "LRainWishes$Choices;" ∈ WSG := lk 426 (by decide +kernel) (by decide +kernel)
theorem lk_427 : Cond.fieldLink RX7 9 "RainWishes$Rules" "saidWeight" "[I" ∈ WSG := lk 427 (by decide +kernel) (by decide +kernel)
theorem lk_428 : Cond.fieldLink RX7 15 "RainWishes$Rules" "saidAge" "[I" ∈ WSG := lk 428 (by decide +kernel) (by decide +kernel)
theorem lk_429 : Cond.fieldLink RX7 57 "RainWishes$Rules" "saidOpen" "I" ∈ WSG := lk 429 (by decide +kernel) (by decide +kernel)
theorem lk_430 : Cond.fieldLink RX7 92 "RainWishes$Rules" "gain" "I" ∈ WSG := lk 430 (by decide +kernel) (by decide +kernel)
theorem lk_432 : Cond.fieldLink RX7 95 "RainWishes$Rules" "form" "I" ∈ WSG := lk 432 (by decide +kernel) (by decide +kernel)
theorem lk_457 : Cond.fieldLink RX5 15 "RainWishes$Meant" "sky" "LRainWishes$Sky;" ∈ WSG := lk 457 (by decide +kernel) (by decide +kernel)
theorem lk_458 : Cond.fieldLink RX5 11 "RainWishes$Meant" "told" "[I" ∈ WSG := lk 458 (by decide +kernel) (by decide +kernel)
theorem lk_459 : Cond.fieldLink RX5 25 "RainWishes$Meant" "many" "I" ∈ WSG := lk 459 (by decide +kernel) (by decide +kernel)
theorem lk_460 : Cond.fieldLink RX5 54 "RainWishes$Meant" "care" "I" ∈ WSG := lk 460 (by decide +kernel) (by decide +kernel)
theorem lk_461 : Cond.fieldLink RX5 57 "RainWishes$Meant" "wet" "I" ∈ WSG := lk 461 (by decide +kernel) (by decide +kernel)
theorem lk_462 : Cond.fieldLink RX5 38 "RainWishes$Meant" "cells" "I" ∈ WSG := lk 462 (by decide +kernel) (by decide +kernel)
theorem lk_464 : Cond.fieldLink RX5 35 "RainWishes$Meant" "ways" "I" ∈ WSG := lk 464 (by decide +kernel) (by decide +kernel)
theorem lk_488 : Cond.fieldLink RX1 27 "RainWishes$Brackets" "sky" "LRainWishes$Sky;" ∈ WSG := lk 488 (by decide +kernel) (by decide +kernel)
theorem lk_489 : Cond.fieldLink RX1 31 "RainWishes$Brackets" "choices" "LRainWishes$Choices;" ∈ WSG := lk 489 (by decide +kernel) (by decide +kernel)
theorem lk_490 : Cond.fieldLink RX1 9 "RainWishes$Brackets" "joint" "[I" ∈ WSG := lk 490 (by decide +kernel) (by decide +kernel)
theorem lk_491 : Cond.fieldLink RX1 13 "RainWishes$Brackets" "cellOf" "[I" ∈ WSG := lk 491 (by decide +kernel) (by decide +kernel)
theorem lk_492 : Cond.fieldLink RX1 16 "RainWishes$Brackets" "plansIn" "[I" ∈ WSG := lk 492 (by decide +kernel) (by decide +kernel)
theorem lk_493 : Cond.fieldLink RX1 21 "RainWishes$Brackets" "found" "[[I" ∈ WSG := lk 493 (by decide +kernel) (by decide +kernel)
theorem lk_494 : Cond.fieldLink RX1 24 "RainWishes$Brackets" "ways" "[I" ∈ WSG := lk 494 (by decide +kernel) (by decide +kernel)
theorem lk_495 : Cond.fieldLink RX1 41 "RainWishes$Brackets" "parts" "I" ∈ WSG := lk 495 (by decide +kernel) (by decide +kernel)
theorem lk_496 : Cond.fieldLink RX1 44 "RainWishes$Brackets" "spokenOf" "I" ∈ WSG := lk 496 (by decide +kernel) (by decide +kernel)
theorem lk_524 : Cond.fieldLink RX4 11 "RainWishes$Holding" "weights" "[I" ∈ WSG := lk 524 (by decide +kernel) (by decide +kernel)
theorem lk_525 : Cond.fieldLink RX4 30 "RainWishes$Holding" "many" "I" ∈ WSG := lk 525 (by decide +kernel) (by decide +kernel)
theorem lk_526 : Cond.fieldLink RX4 17 "RainWishes$Holding" "worth" "[[J" ∈ WSG := lk 526 (by decide +kernel) (by decide +kernel)
theorem lk_527 : Cond.fieldLink RX4 20 "RainWishes$Holding" "scale" "[J" ∈ WSG := lk 527 (by decide +kernel) (by decide +kernel)
theorem lk_545 : Cond.fieldLink RX10 19 "RainWishes$Tray" "sort" "I" ∈ WSG := lk 545 (by decide +kernel) (by decide +kernel)
theorem lk_546 : Cond.fieldLink RX10 9 "RainWishes$Tray" "many" "I" ∈ WSG := lk 546 (by decide +kernel) (by decide +kernel)
theorem lk_547 : Cond.fieldLink RX1 35 "RainWishes$Tray" "many" "I" ∈ WSG := lk 547 (by decide +kernel) (by decide +kernel)
theorem lk_548 : Cond.fieldLink RX5 19 "RainWishes$Tray" "many" "I" ∈ WSG := lk 548 (by decide +kernel) (by decide +kernel)
theorem lk_549 : Cond.fieldLink RX4 24 "RainWishes$Tray" "many" "I" ∈ WSG := lk 549 (by decide +kernel) (by decide +kernel)
theorem lk_551 : Cond.fieldLink RX10 15 "RainWishes$Tray" "row" "[J" ∈ WSG := lk 551 (by decide +kernel) (by decide +kernel)
theorem lk_552 : Cond.fieldLink RX5 26 "RainWishes$Tray" "row" "[J" ∈ WSG := lk 552 (by decide +kernel) (by decide +kernel)
theorem lk_553 : Cond.fieldLink RX4 31 "RainWishes$Tray" "row" "[J" ∈ WSG := lk 553 (by decide +kernel) (by decide +kernel)
theorem lk_554 : Cond.fieldLink RX1 47 "RainWishes$Tray" "row" "[J" ∈ WSG := lk 554 (by decide +kernel) (by decide +kernel)
theorem lk_565 : Cond.fieldLink RX11 9 "RainWishes" "tape" "[B" ∈ WSG := lk 565 (by decide +kernel) (by decide +kernel)
theorem lk_566 : Cond.fieldLink RX11 108 "RainWishes" "onTape" "I" ∈ WSG := lk 566 (by decide +kernel) (by decide +kernel)
theorem lk_567 : Cond.fieldLink RX11 20 "RainWishes" "sky" "LRainWishes$Sky;" ∈ WSG := lk 567 (by decide +kernel) (by decide +kernel)
theorem lk_569 : Cond.fieldLink RX11 32 "RainWishes" "parser" "LRainWishes$Parser;" ∈ WSG := lk 569 (by decide +kernel) (by decide +kernel)
theorem lk_570 : Cond.fieldLink RX11 39 "RainWishes" "book" "LRainWishes$Book;" ∈ WSG := lk 570 (by decide +kernel) (by decide +kernel)
theorem lk_571 : Cond.fieldLink RX11 48 "RainWishes" "field" "LRainWishes$Field;" ∈ WSG := lk 571 (by decide +kernel) (by decide +kernel)
theorem lk_572 : Cond.fieldLink RX11 57 "RainWishes" "choices" "LRainWishes$Choices;" ∈ WSG := lk 572 (by decide +kernel) (by decide +kernel)
theorem lk_573 : Cond.fieldLink RX11 66 "RainWishes" "rules" "LRainWishes$Rules;" ∈ WSG := lk 573 (by decide +kernel) (by decide +kernel)
theorem lk_618 : Cond.methodLink RX11 112 yX11_lay ∈ WSG := lk 618 (by decide +kernel) (by decide +kernel)
theorem lk_620 : Cond.instanceMethod yX11_lay ∈ WSG := lk 620 (by decide +kernel) (by decide +kernel)
theorem lk_621 : Cond.code yX11_lay cX11_lay 3 none ∈ WSG := lk 621 (by decide +kernel) (by decide +kernel)
theorem lk_630 : Cond.methodLink RX11 186 yX3_whyNot ∈ WSG := lk 630 (by decide +kernel) (by decide +kernel)
theorem lk_631 : Cond.instanceMethod yX3_whyNot ∈ WSG := lk 631 (by decide +kernel) (by decide +kernel)
theorem lk_632 : Cond.selects RX3 yX3_whyNot yX3_whyNot ∈ WSG := lk 632 (by decide +kernel) (by decide +kernel)
theorem lk_633 : Cond.code yX3_whyNot cX3_whyNot 5 (some .int) ∈ WSG := lk 633 (by decide +kernel) (by decide +kernel)
theorem lk_634 : Cond.methodLink RX3 44 yJ6_bitCount_0f7a4 ∈ WSG := lk 634 (by decide +kernel) (by decide +kernel)
theorem lk_635 : Cond.static yJ6_bitCount_0f7a4 ∈ WSG := lk 635 (by decide +kernel) (by decide +kernel)
theorem lk_636 : Cond.code yJ6_bitCount_0f7a4 cJ6_bitCount_0f7a4 1 (some .int) ∈ WSG := lk 636 (by decide +kernel) (by decide +kernel)
theorem lk_637 : Cond.constant RJ6 265 (1431655765 : Int32) ∈ WSG := lk 637 (by decide +kernel) (by decide +kernel)
theorem lk_638 : Cond.constant RJ6 266 (858993459 : Int32) ∈ WSG := lk 638 (by decide +kernel) (by decide +kernel)
theorem lk_639 : Cond.constant RJ6 267 (252645135 : Int32) ∈ WSG := lk 639 (by decide +kernel) (by decide +kernel)
theorem lk_640 : Cond.methodLink RX3 70 yX8_weatherOf ∈ WSG := lk 640 (by decide +kernel) (by decide +kernel)
theorem lk_641 : Cond.instanceMethod yX8_weatherOf ∈ WSG := lk 641 (by decide +kernel) (by decide +kernel)
theorem lk_642 : Cond.selects RX8 yX8_weatherOf yX8_weatherOf ∈ WSG := lk 642 (by decide +kernel) (by decide +kernel)
theorem lk_643 : Cond.code yX8_weatherOf cX8_weatherOf 2 (some .int) ∈ WSG := lk 643 (by decide +kernel) (by decide +kernel)
theorem lk_644 : Cond.methodLink RX3 67 yX3_at ∈ WSG := lk 644 (by decide +kernel) (by decide +kernel)
theorem lk_645 : Cond.instanceMethod yX3_at ∈ WSG := lk 645 (by decide +kernel) (by decide +kernel)
theorem lk_646 : Cond.selects RX3 yX3_at yX3_at ∈ WSG := lk 646 (by decide +kernel) (by decide +kernel)
theorem lk_647 : Cond.code yX3_at cX3_at 4 (some .int) ∈ WSG := lk 647 (by decide +kernel) (by decide +kernel)
theorem lk_648 : Cond.methodLink RX3 34 yX3_truthOf ∈ WSG := lk 648 (by decide +kernel) (by decide +kernel)
theorem lk_650 : Cond.instanceMethod yX3_truthOf ∈ WSG := lk 650 (by decide +kernel) (by decide +kernel)
theorem lk_651 : Cond.code yX3_truthOf cX3_truthOf 7 (some .int) ∈ WSG := lk 651 (by decide +kernel) (by decide +kernel)
theorem lk_652 : Cond.methodLink RX3 50 yX3_reckon ∈ WSG := lk 652 (by decide +kernel) (by decide +kernel)
theorem lk_653 : Cond.static yX3_reckon ∈ WSG := lk 653 (by decide +kernel) (by decide +kernel)
theorem lk_654 : Cond.code yX3_reckon cX3_reckon 5 (some .long) ∈ WSG := lk 654 (by decide +kernel) (by decide +kernel)
theorem lk_655 : Cond.methodLink RX3 54 yX3_kept ∈ WSG := lk 655 (by decide +kernel) (by decide +kernel)
theorem lk_656 : Cond.static yX3_kept ∈ WSG := lk 656 (by decide +kernel) (by decide +kernel)
theorem lk_657 : Cond.code yX3_kept cX3_kept 2 (some .int) ∈ WSG := lk 657 (by decide +kernel) (by decide +kernel)
theorem lk_658 : Cond.constantLong RX3 58 (1000000 : Int64) ∈ WSG := lk 658 (by decide +kernel) (by decide +kernel)
theorem lk_659 : Cond.constant RX3 60 (1000000 : Int32) ∈ WSG := lk 659 (by decide +kernel) (by decide +kernel)
theorem lk_660 : Cond.constantLong RX3 61 (-1000000 : Int64) ∈ WSG := lk 660 (by decide +kernel) (by decide +kernel)
theorem lk_661 : Cond.constant RX3 63 (-1000000 : Int32) ∈ WSG := lk 661 (by decide +kernel) (by decide +kernel)
theorem lk_666 : Cond.methodLink RX11 194 yX2_settled ∈ WSG := lk 666 (by decide +kernel) (by decide +kernel)
theorem lk_667 : Cond.instanceMethod yX2_settled ∈ WSG := lk 667 (by decide +kernel) (by decide +kernel)
theorem lk_668 : Cond.selects RX2 yX2_settled yX2_settled ∈ WSG := lk 668 (by decide +kernel) (by decide +kernel)
theorem lk_669 : Cond.code yX2_settled cX2_settled 1 (some (.object "RainWishes$Choices")) ∈ WSG := lk 669 (by decide +kernel) (by decide +kernel)
theorem lk_670 : Cond.methodLink RX2 44 yX2_settle ∈ WSG := lk 670 (by decide +kernel) (by decide +kernel)
theorem lk_672 : Cond.instanceMethod yX2_settle ∈ WSG := lk 672 (by decide +kernel) (by decide +kernel)
theorem lk_673 : Cond.code yX2_settle cX2_settle 3 none ∈ WSG := lk 673 (by decide +kernel) (by decide +kernel)
theorem lk_674 : Cond.methodLink RX2 50 yJ7_fill_53178 ∈ WSG := lk 674 (by decide +kernel) (by decide +kernel)
theorem lk_675 : Cond.methodLink RX2 61 yX3_whyNot ∈ WSG := lk 675 (by decide +kernel) (by decide +kernel)
theorem lk_676 : Cond.methodLink RX2 67 yX3_grantedBy ∈ WSG := lk 676 (by decide +kernel) (by decide +kernel)
theorem lk_677 : Cond.instanceMethod yX3_grantedBy ∈ WSG := lk 677 (by decide +kernel) (by decide +kernel)
theorem lk_678 : Cond.selects RX3 yX3_grantedBy yX3_grantedBy ∈ WSG := lk 678 (by decide +kernel) (by decide +kernel)
theorem lk_679 : Cond.code yX3_grantedBy cX3_grantedBy 3 (some .int) ∈ WSG := lk 679 (by decide +kernel) (by decide +kernel)
theorem lk_680 : Cond.methodLink RX2 71 yX2_lesser ∈ WSG := lk 680 (by decide +kernel) (by decide +kernel)
theorem lk_681 : Cond.static yX2_lesser ∈ WSG := lk 681 (by decide +kernel) (by decide +kernel)
theorem lk_682 : Cond.code yX2_lesser cX2_lesser 3 (some .int) ∈ WSG := lk 682 (by decide +kernel) (by decide +kernel)
theorem lk_683 : Cond.methodLink RX2 80 yJ6_bitCount_0f7a4 ∈ WSG := lk 683 (by decide +kernel) (by decide +kernel)
theorem lk_684 : Cond.methodLink RX2 74 yX2_spread ∈ WSG := lk 684 (by decide +kernel) (by decide +kernel)
theorem lk_686 : Cond.instanceMethod yX2_spread ∈ WSG := lk 686 (by decide +kernel) (by decide +kernel)
theorem lk_687 : Cond.code yX2_spread cX2_spread 3 none ∈ WSG := lk 687 (by decide +kernel) (by decide +kernel)
theorem lk_692 : Cond.methodLink RX11 257 yX2_nightsForAll ∈ WSG := lk 692 (by decide +kernel) (by decide +kernel)
theorem lk_693 : Cond.instanceMethod yX2_nightsForAll ∈ WSG := lk 693 (by decide +kernel) (by decide +kernel)
theorem lk_694 : Cond.selects RX2 yX2_nightsForAll yX2_nightsForAll ∈ WSG := lk 694 (by decide +kernel) (by decide +kernel)
theorem lk_695 : Cond.code yX2_nightsForAll cX2_nightsForAll 2 (some .int) ∈ WSG := lk 695 (by decide +kernel) (by decide +kernel)
theorem lk_696 : Cond.methodLink RX2 93 yX2_nightsFor ∈ WSG := lk 696 (by decide +kernel) (by decide +kernel)
theorem lk_698 : Cond.instanceMethod yX2_nightsFor ∈ WSG := lk 698 (by decide +kernel) (by decide +kernel)
theorem lk_699 : Cond.code yX2_nightsFor cX2_nightsFor 5 (some .int) ∈ WSG := lk 699 (by decide +kernel) (by decide +kernel)
theorem lk_700 : Cond.methodLink RX2 86 yX2_areTogether ∈ WSG := lk 700 (by decide +kernel) (by decide +kernel)
theorem lk_702 : Cond.instanceMethod yX2_areTogether ∈ WSG := lk 702 (by decide +kernel) (by decide +kernel)
theorem lk_703 : Cond.code yX2_areTogether cX2_areTogether 2 (some .boolean) ∈ WSG := lk 703 (by decide +kernel) (by decide +kernel)
theorem lk_708 : Cond.methodLink RX11 290 yX7_servedAsAsked ∈ WSG := lk 708 (by decide +kernel) (by decide +kernel)
theorem lk_709 : Cond.instanceMethod yX7_servedAsAsked ∈ WSG := lk 709 (by decide +kernel) (by decide +kernel)
theorem lk_710 : Cond.selects RX7 yX7_servedAsAsked yX7_servedAsAsked ∈ WSG := lk 710 (by decide +kernel) (by decide +kernel)
theorem lk_711 : Cond.code yX7_servedAsAsked cX7_servedAsAsked 2 (some .int) ∈ WSG := lk 711 (by decide +kernel) (by decide +kernel)
theorem lk_712 : Cond.methodLink RX7 30 yX7_sayAsItIs ∈ WSG := lk 712 (by decide +kernel) (by decide +kernel)
theorem lk_714 : Cond.instanceMethod yX7_sayAsItIs ∈ WSG := lk 714 (by decide +kernel) (by decide +kernel)
theorem lk_715 : Cond.code yX7_sayAsItIs cX7_sayAsItIs 1 none ∈ WSG := lk 715 (by decide +kernel) (by decide +kernel)
theorem lk_716 : Cond.methodLink RX7 42 arraycopyName ∈ WSG := lk 716 (by decide +kernel) (by decide +kernel)
theorem lk_717 : Cond.static arraycopyName ∈ WSG := lk 717 (by decide +kernel) (by decide +kernel)
theorem lk_718 : Cond.native arraycopyName ∈ WSG := lk 718 (by decide +kernel) (by decide +kernel)
theorem lk_719 : Cond.methodLink RX7 33 yX7_serve ∈ WSG := lk 719 (by decide +kernel) (by decide +kernel)
theorem lk_721 : Cond.instanceMethod yX7_serve ∈ WSG := lk 721 (by decide +kernel) (by decide +kernel)
theorem lk_722 : Cond.code yX7_serve cX7_serve 6 (some .int) ∈ WSG := lk 722 (by decide +kernel) (by decide +kernel)
theorem lk_723 : Cond.methodLink RX7 63 yX7_firstOf ∈ WSG := lk 723 (by decide +kernel) (by decide +kernel)
theorem lk_725 : Cond.instanceMethod yX7_firstOf ∈ WSG := lk 725 (by decide +kernel) (by decide +kernel)
theorem lk_726 : Cond.code yX7_firstOf cX7_firstOf 7 (some .int) ∈ WSG := lk 726 (by decide +kernel) (by decide +kernel)
theorem lk_727 : Cond.methodLink RX7 72 yX7_turnOf ∈ WSG := lk 727 (by decide +kernel) (by decide +kernel)
theorem lk_729 : Cond.instanceMethod yX7_turnOf ∈ WSG := lk 729 (by decide +kernel) (by decide +kernel)
theorem lk_730 : Cond.code yX7_turnOf cX7_turnOf 4 (some .int) ∈ WSG := lk 730 (by decide +kernel) (by decide +kernel)
theorem lk_731 : Cond.methodLink RX7 78 yX7_openOf ∈ WSG := lk 731 (by decide +kernel) (by decide +kernel)
theorem lk_733 : Cond.instanceMethod yX7_openOf ∈ WSG := lk 733 (by decide +kernel) (by decide +kernel)
theorem lk_734 : Cond.code yX7_openOf cX7_openOf 4 (some .int) ∈ WSG := lk 734 (by decide +kernel) (by decide +kernel)
theorem lk_735 : Cond.methodLink RX7 67 yX2_leastPlan ∈ WSG := lk 735 (by decide +kernel) (by decide +kernel)
theorem lk_736 : Cond.instanceMethod yX2_leastPlan ∈ WSG := lk 736 (by decide +kernel) (by decide +kernel)
theorem lk_737 : Cond.selects RX2 yX2_leastPlan yX2_leastPlan ∈ WSG := lk 737 (by decide +kernel) (by decide +kernel)
theorem lk_738 : Cond.code yX2_leastPlan cX2_leastPlan 2 (some .int) ∈ WSG := lk 738 (by decide +kernel) (by decide +kernel)
theorem lk_739 : Cond.methodLink RX7 81 yJ6_bitCount_0f7a4 ∈ WSG := lk 739 (by decide +kernel) (by decide +kernel)
theorem lk_740 : Cond.methodLink RX11 254 yX8_weightOf ∈ WSG := lk 740 (by decide +kernel) (by decide +kernel)
theorem lk_741 : Cond.instanceMethod yX8_weightOf ∈ WSG := lk 741 (by decide +kernel) (by decide +kernel)
theorem lk_742 : Cond.selects RX8 yX8_weightOf yX8_weightOf ∈ WSG := lk 742 (by decide +kernel) (by decide +kernel)
theorem lk_743 : Cond.code yX8_weightOf cX8_weightOf 4 (some .int) ∈ WSG := lk 743 (by decide +kernel) (by decide +kernel)
theorem lk_748 : Cond.methodLink RX11 351 yX11_makeNight ∈ WSG := lk 748 (by decide +kernel) (by decide +kernel)
theorem lk_750 : Cond.instanceMethod yX11_makeNight ∈ WSG := lk 750 (by decide +kernel) (by decide +kernel)
theorem lk_751 : Cond.code yX11_makeNight cX11_makeNight 3 (some .int) ∈ WSG := lk 751 (by decide +kernel) (by decide +kernel)
theorem lk_752 : Cond.methodLink RX11 190 yX3_grantedBy ∈ WSG := lk 752 (by decide +kernel) (by decide +kernel)
theorem lk_753 : Cond.methodLink RX11 354 yX0_remember ∈ WSG := lk 753 (by decide +kernel) (by decide +kernel)
theorem lk_754 : Cond.instanceMethod yX0_remember ∈ WSG := lk 754 (by decide +kernel) (by decide +kernel)
theorem lk_755 : Cond.selects RX0 yX0_remember yX0_remember ∈ WSG := lk 755 (by decide +kernel) (by decide +kernel)
theorem lk_756 : Cond.code yX0_remember cX0_remember 2 none ∈ WSG := lk 756 (by decide +kernel) (by decide +kernel)
theorem lk_757 : Cond.methodLink RX0 39 arraycopyName ∈ WSG := lk 757 (by decide +kernel) (by decide +kernel)
theorem lk_758 : Cond.methodLink RX11 357 yX0_pass ∈ WSG := lk 758 (by decide +kernel) (by decide +kernel)
theorem lk_759 : Cond.instanceMethod yX0_pass ∈ WSG := lk 759 (by decide +kernel) (by decide +kernel)
theorem lk_760 : Cond.selects RX0 yX0_pass yX0_pass ∈ WSG := lk 760 (by decide +kernel) (by decide +kernel)
theorem lk_761 : Cond.code yX0_pass cX0_pass 4 none ∈ WSG := lk 761 (by decide +kernel) (by decide +kernel)
theorem lk_766 : Cond.methodLink RX11 263 yJ6_bitCount_0f7a4 ∈ WSG := lk 766 (by decide +kernel) (by decide +kernel)
theorem lk_767 : Cond.methodLink RX11 445 yX0_allDues ∈ WSG := lk 767 (by decide +kernel) (by decide +kernel)
theorem lk_768 : Cond.instanceMethod yX0_allDues ∈ WSG := lk 768 (by decide +kernel) (by decide +kernel)
theorem lk_769 : Cond.selects RX0 yX0_allDues yX0_allDues ∈ WSG := lk 769 (by decide +kernel) (by decide +kernel)
theorem lk_770 : Cond.code yX0_allDues cX0_allDues 3 (some .int) ∈ WSG := lk 770 (by decide +kernel) (by decide +kernel)
theorem lk_851 : Cond.methodLink RX6 32 yX8_clear ∈ WSG := lk 851 (by decide +kernel) (by decide +kernel)
theorem lk_852 : Cond.instanceMethod yX8_clear ∈ WSG := lk 852 (by decide +kernel) (by decide +kernel)
theorem lk_853 : Cond.selects RX8 yX8_clear yX8_clear ∈ WSG := lk 853 (by decide +kernel) (by decide +kernel)
theorem lk_854 : Cond.code yX8_clear cX8_clear 1 none ∈ WSG := lk 854 (by decide +kernel) (by decide +kernel)
theorem lk_855 : Cond.methodLink RX8 49 yX8_measure ∈ WSG := lk 855 (by decide +kernel) (by decide +kernel)
theorem lk_856 : Cond.instanceMethod yX8_measure ∈ WSG := lk 856 (by decide +kernel) (by decide +kernel)
theorem lk_857 : Cond.selects RX8 yX8_measure yX8_measure ∈ WSG := lk 857 (by decide +kernel) (by decide +kernel)
theorem lk_858 : Cond.code yX8_measure cX8_measure 3 none ∈ WSG := lk 858 (by decide +kernel) (by decide +kernel)
theorem lk_859 : Cond.methodLink RX6 43 yX9_begin ∈ WSG := lk 859 (by decide +kernel) (by decide +kernel)
theorem lk_860 : Cond.instanceMethod yX9_begin ∈ WSG := lk 860 (by decide +kernel) (by decide +kernel)
theorem lk_861 : Cond.selects RX9 yX9_begin yX9_begin ∈ WSG := lk 861 (by decide +kernel) (by decide +kernel)
theorem lk_862 : Cond.code yX9_begin cX9_begin 2 none ∈ WSG := lk 862 (by decide +kernel) (by decide +kernel)
theorem lk_863 : Cond.methodLink RX9 20 yX9_advance ∈ WSG := lk 863 (by decide +kernel) (by decide +kernel)
theorem lk_864 : Cond.instanceMethod yX9_advance ∈ WSG := lk 864 (by decide +kernel) (by decide +kernel)
theorem lk_865 : Cond.selects RX9 yX9_advance yX9_advance ∈ WSG := lk 865 (by decide +kernel) (by decide +kernel)
theorem lk_866 : Cond.code yX9_advance cX9_advance 1 none ∈ WSG := lk 866 (by decide +kernel) (by decide +kernel)
theorem lk_867 : Cond.methodLink RX9 29 yX9_runEnd ∈ WSG := lk 867 (by decide +kernel) (by decide +kernel)
theorem lk_869 : Cond.instanceMethod yX9_runEnd ∈ WSG := lk 869 (by decide +kernel) (by decide +kernel)
theorem lk_870 : Cond.code yX9_runEnd cX9_runEnd 4 (some .int) ∈ WSG := lk 870 (by decide +kernel) (by decide +kernel)
theorem lk_872 : Cond.methodLink RX9 35 yJ0_indexOf_0f7a4 ∈ WSG := lk 872 (by decide +kernel) (by decide +kernel)
theorem lk_873 : Cond.instanceMethod yJ0_indexOf_0f7a4 ∈ WSG := lk 873 (by decide +kernel) (by decide +kernel)
theorem lk_874 : Cond.selects "java/lang/String" yJ0_indexOf_0f7a4 yJ0_indexOf_0f7a4 ∈ WSG := lk 874 (by decide +kernel) (by decide +kernel)
theorem lk_875 : Cond.code yJ0_indexOf_0f7a4 cJ0_indexOf_0f7a4 2 (some .int) ∈ WSG := lk 875 (by decide +kernel) (by decide +kernel)
theorem lk_876 : Cond.methodLink RJ0 633 yJ0_indexOf_7cf53 ∈ WSG := lk 876 (by decide +kernel) (by decide +kernel)
theorem lk_877 : Cond.instanceMethod yJ0_indexOf_7cf53 ∈ WSG := lk 877 (by decide +kernel) (by decide +kernel)
theorem lk_878 : Cond.selects "java/lang/String" yJ0_indexOf_7cf53 yJ0_indexOf_7cf53 ∈ WSG := lk 878 (by decide +kernel) (by decide +kernel)
theorem lk_879 : Cond.code yJ0_indexOf_7cf53 cJ0_indexOf_7cf53 3 (some .int) ∈ WSG := lk 879 (by decide +kernel) (by decide +kernel)
theorem lk_880 : Cond.methodLink RJ0 492 yJ0_isLatin1_aae02 ∈ WSG := lk 880 (by decide +kernel) (by decide +kernel)
theorem lk_881 : Cond.instanceMethod yJ0_isLatin1_aae02 ∈ WSG := lk 881 (by decide +kernel) (by decide +kernel)
theorem lk_882 : Cond.selects "java/lang/String" yJ0_isLatin1_aae02 yJ0_isLatin1_aae02 ∈ WSG := lk 882 (by decide +kernel) (by decide +kernel)
theorem lk_883 : Cond.code yJ0_isLatin1_aae02 cJ0_isLatin1_aae02 1 (some .boolean) ∈ WSG := lk 883 (by decide +kernel) (by decide +kernel)
theorem lk_884 : Cond.fieldLink RJ0 38 "java/lang/String" "COMPACT_STRINGS" "Z" ∈ WSG := lk 884 (by decide +kernel) (by decide +kernel)
theorem lk_886 : Cond.methodLink RJ0 505 yJ0_length_8abf5 ∈ WSG := lk 886 (by decide +kernel) (by decide +kernel)
theorem lk_887 : Cond.instanceMethod yJ0_length_8abf5 ∈ WSG := lk 887 (by decide +kernel) (by decide +kernel)
theorem lk_888 : Cond.selects "java/lang/String" yJ0_length_8abf5 yJ0_length_8abf5 ∈ WSG := lk 888 (by decide +kernel) (by decide +kernel)
theorem lk_889 : Cond.code yJ0_length_8abf5 cJ0_length_8abf5 1 (some .int) ∈ WSG := lk 889 (by decide +kernel) (by decide +kernel)
theorem lk_890 : Cond.methodLink RJ0 335 yJ0_coder_7d493 ∈ WSG := lk 890 (by decide +kernel) (by decide +kernel)
theorem lk_891 : Cond.instanceMethod yJ0_coder_7d493 ∈ WSG := lk 891 (by decide +kernel) (by decide +kernel)
theorem lk_892 : Cond.selects "java/lang/String" yJ0_coder_7d493 yJ0_coder_7d493 ∈ WSG := lk 892 (by decide +kernel) (by decide +kernel)
theorem lk_893 : Cond.code yJ0_coder_7d493 cJ0_coder_7d493 1 (some .byte) ∈ WSG := lk 893 (by decide +kernel) (by decide +kernel)
theorem lk_894 : Cond.methodLink RJ0 637 yJ1_indexOf_4cfef ∈ WSG := lk 894 (by decide +kernel) (by decide +kernel)
theorem lk_895 : Cond.static yJ1_indexOf_4cfef ∈ WSG := lk 895 (by decide +kernel) (by decide +kernel)
theorem lk_896 : Cond.code yJ1_indexOf_4cfef cJ1_indexOf_4cfef 4 (some .int) ∈ WSG := lk 896 (by decide +kernel) (by decide +kernel)
theorem lk_897 : Cond.methodLink RJ1 88 yJ1_canEncode_9a6ad ∈ WSG := lk 897 (by decide +kernel) (by decide +kernel)
theorem lk_898 : Cond.static yJ1_canEncode_9a6ad ∈ WSG := lk 898 (by decide +kernel) (by decide +kernel)
theorem lk_899 : Cond.code yJ1_canEncode_9a6ad cJ1_canEncode_9a6ad 1 (some .boolean) ∈ WSG := lk 899 (by decide +kernel) (by decide +kernel)
theorem lk_900 : Cond.methodLink RJ1 92 Lib.Math.max.name ∈ WSG := lk 900 (by decide +kernel) (by decide +kernel)
theorem lk_901 : Cond.static Lib.Math.max.name ∈ WSG := lk 901 (by decide +kernel) (by decide +kernel)
theorem lk_902 : Cond.code Lib.Math.max.name Lib.Math.max.code 2 (some .int) ∈ WSG := lk 902 (by decide +kernel) (by decide +kernel)
theorem lk_903 : Cond.methodLink RJ1 38 Lib.Math.min.name ∈ WSG := lk 903 (by decide +kernel) (by decide +kernel)
theorem lk_904 : Cond.static Lib.Math.min.name ∈ WSG := lk 904 (by decide +kernel) (by decide +kernel)
theorem lk_905 : Cond.code Lib.Math.min.name Lib.Math.min.code 2 (some .int) ∈ WSG := lk 905 (by decide +kernel) (by decide +kernel)
theorem lk_906 : Cond.methodLink RJ1 95 yJ1_indexOfChar_4cfef ∈ WSG := lk 906 (by decide +kernel) (by decide +kernel)
theorem lk_907 : Cond.static yJ1_indexOfChar_4cfef ∈ WSG := lk 907 (by decide +kernel) (by decide +kernel)
theorem lk_908 : Cond.code yJ1_indexOfChar_4cfef cJ1_indexOfChar_4cfef 6 (some .int) ∈ WSG := lk 908 (by decide +kernel) (by decide +kernel)
theorem lk_927 : Cond.fieldLink RJ0 1053 "jdk/internal/util/Preconditions" "SIOOBE_FORMATTER" "Ljava/util/function/BiFunction;" ∈ WSG := lk 927 (by decide +kernel) (by decide +kernel)
theorem lk_958 : Cond.methodLink RX6 47 yX6_readSky ∈ WSG := lk 958 (by decide +kernel) (by decide +kernel)
theorem lk_960 : Cond.instanceMethod yX6_readSky ∈ WSG := lk 960 (by decide +kernel) (by decide +kernel)
theorem lk_961 : Cond.code yX6_readSky cX6_readSky 2 (some .boolean) ∈ WSG := lk 961 (by decide +kernel) (by decide +kernel)
theorem lk_963 : Cond.methodLink RX6 88 yX6_take ∈ WSG := lk 963 (by decide +kernel) (by decide +kernel)
theorem lk_965 : Cond.instanceMethod yX6_take ∈ WSG := lk 965 (by decide +kernel) (by decide +kernel)
theorem lk_966 : Cond.code yX6_take cX6_take 2 (some .boolean) ∈ WSG := lk 966 (by decide +kernel) (by decide +kernel)
theorem lk_967 : Cond.methodLink RX6 69 yX9_at ∈ WSG := lk 967 (by decide +kernel) (by decide +kernel)
theorem lk_968 : Cond.instanceMethod yX9_at ∈ WSG := lk 968 (by decide +kernel) (by decide +kernel)
theorem lk_969 : Cond.selects RX9 yX9_at yX9_at ∈ WSG := lk 969 (by decide +kernel) (by decide +kernel)
theorem lk_970 : Cond.code yX9_at cX9_at 3 (some .boolean) ∈ WSG := lk 970 (by decide +kernel) (by decide +kernel)
theorem lk_971 : Cond.methodLink RX9 41 yJ0_length_8abf5 ∈ WSG := lk 971 (by decide +kernel) (by decide +kernel)
theorem lk_972 : Cond.methodLink RX9 44 yJ0_charAt_5068e ∈ WSG := lk 972 (by decide +kernel) (by decide +kernel)
theorem lk_973 : Cond.instanceMethod yJ0_charAt_5068e ∈ WSG := lk 973 (by decide +kernel) (by decide +kernel)
theorem lk_974 : Cond.selects "java/lang/String" yJ0_charAt_5068e yJ0_charAt_5068e ∈ WSG := lk 974 (by decide +kernel) (by decide +kernel)
theorem lk_975 : Cond.code yJ0_charAt_5068e cJ0_charAt_5068e 2 (some .char) ∈ WSG := lk 975 (by decide +kernel) (by decide +kernel)
theorem lk_976 : Cond.methodLink RJ0 495 yJ1_charAt_3b067 ∈ WSG := lk 976 (by decide +kernel) (by decide +kernel)
theorem lk_977 : Cond.static yJ1_charAt_3b067 ∈ WSG := lk 977 (by decide +kernel) (by decide +kernel)
theorem lk_978 : Cond.code yJ1_charAt_3b067 cJ1_charAt_3b067 2 (some .char) ∈ WSG := lk 978 (by decide +kernel) (by decide +kernel)
theorem lk_979 : Cond.methodLink RJ1 9 yJ0_checkIndex_df160 ∈ WSG := lk 979 (by decide +kernel) (by decide +kernel)
theorem lk_980 : Cond.static yJ0_checkIndex_df160 ∈ WSG := lk 980 (by decide +kernel) (by decide +kernel)
theorem lk_981 : Cond.code yJ0_checkIndex_df160 cJ0_checkIndex_df160 2 none ∈ WSG := lk 981 (by decide +kernel) (by decide +kernel)
theorem lk_982 : Cond.methodLink RJ0 1059 yJ3_checkIndex_8e157 ∈ WSG := lk 982 (by decide +kernel) (by decide +kernel)
theorem lk_983 : Cond.static yJ3_checkIndex_8e157 ∈ WSG := lk 983 (by decide +kernel) (by decide +kernel)
theorem lk_984 : Cond.code yJ3_checkIndex_8e157 cJ3_checkIndex_8e157 3 (some .int) ∈ WSG := lk 984 (by decide +kernel) (by decide +kernel)
theorem lk_992 : Cond.methodLink RX6 73 yX6_refuse ∈ WSG := lk 992 (by decide +kernel) (by decide +kernel)
theorem lk_994 : Cond.instanceMethod yX6_refuse ∈ WSG := lk 994 (by decide +kernel) (by decide +kernel)
theorem lk_995 : Cond.code yX6_refuse cX6_refuse 2 (some .boolean) ∈ WSG := lk 995 (by decide +kernel) (by decide +kernel)
theorem lk_996 : Cond.methodLink RX6 77 yX9_advance ∈ WSG := lk 996 (by decide +kernel) (by decide +kernel)
theorem lk_997 : Cond.methodLink RX6 91 yX6_takeNumber ∈ WSG := lk 997 (by decide +kernel) (by decide +kernel)
theorem lk_999 : Cond.instanceMethod yX6_takeNumber ∈ WSG := lk 999 (by decide +kernel) (by decide +kernel)
theorem lk_1000 : Cond.code yX6_takeNumber cX6_takeNumber 3 (some .boolean) ∈ WSG := lk 1000 (by decide +kernel) (by decide +kernel)
theorem lk_1001 : Cond.methodLink RX6 80 yX9_value ∈ WSG := lk 1001 (by decide +kernel) (by decide +kernel)
theorem lk_1002 : Cond.instanceMethod yX9_value ∈ WSG := lk 1002 (by decide +kernel) (by decide +kernel)
theorem lk_1003 : Cond.selects RX9 yX9_value yX9_value ∈ WSG := lk 1003 (by decide +kernel) (by decide +kernel)
theorem lk_1004 : Cond.code yX9_value cX9_value 3 (some .int) ∈ WSG := lk 1004 (by decide +kernel) (by decide +kernel)
theorem lk_1005 : Cond.methodLink RX6 98 Lib.Math.min.name ∈ WSG := lk 1005 (by decide +kernel) (by decide +kernel)
theorem lk_1006 : Cond.methodLink RX6 63 yX8_measure ∈ WSG := lk 1006 (by decide +kernel) (by decide +kernel)
theorem lk_1007 : Cond.methodLink RX6 107 yX6_endLine ∈ WSG := lk 1007 (by decide +kernel) (by decide +kernel)
theorem lk_1009 : Cond.instanceMethod yX6_endLine ∈ WSG := lk 1009 (by decide +kernel) (by decide +kernel)
theorem lk_1010 : Cond.code yX6_endLine cX6_endLine 1 (some .boolean) ∈ WSG := lk 1010 (by decide +kernel) (by decide +kernel)
theorem lk_1012 : Cond.methodLink RX6 54 yX6_readLine ∈ WSG := lk 1012 (by decide +kernel) (by decide +kernel)
theorem lk_1014 : Cond.instanceMethod yX6_readLine ∈ WSG := lk 1014 (by decide +kernel) (by decide +kernel)
theorem lk_1015 : Cond.code yX6_readLine cX6_readLine 2 (some .boolean) ∈ WSG := lk 1015 (by decide +kernel) (by decide +kernel)
theorem lk_1017 : Cond.methodLink RX6 117 yX6_readWish ∈ WSG := lk 1017 (by decide +kernel) (by decide +kernel)
theorem lk_1019 : Cond.instanceMethod yX6_readWish ∈ WSG := lk 1019 (by decide +kernel) (by decide +kernel)
theorem lk_1020 : Cond.code yX6_readWish cX6_readWish 2 (some .boolean) ∈ WSG := lk 1020 (by decide +kernel) (by decide +kernel)
theorem lk_1027 : Cond.methodLink RX6 57 yX6_readOperand ∈ WSG := lk 1027 (by decide +kernel) (by decide +kernel)
theorem lk_1029 : Cond.instanceMethod yX6_readOperand ∈ WSG := lk 1029 (by decide +kernel) (by decide +kernel)
theorem lk_1030 : Cond.code yX6_readOperand cX6_readOperand 1 (some .boolean) ∈ WSG := lk 1030 (by decide +kernel) (by decide +kernel)
theorem lk_1032 : Cond.methodLink RX6 170 yX6_open ∈ WSG := lk 1032 (by decide +kernel) (by decide +kernel)
theorem lk_1034 : Cond.instanceMethod yX6_open ∈ WSG := lk 1034 (by decide +kernel) (by decide +kernel)
theorem lk_1035 : Cond.code yX6_open cX6_open 3 (some .boolean) ∈ WSG := lk 1035 (by decide +kernel) (by decide +kernel)
theorem lk_1036 : Cond.methodLink RX6 180 yX6_await ∈ WSG := lk 1036 (by decide +kernel) (by decide +kernel)
theorem lk_1038 : Cond.instanceMethod yX6_await ∈ WSG := lk 1038 (by decide +kernel) (by decide +kernel)
theorem lk_1039 : Cond.code yX6_await cX6_await 3 (some .boolean) ∈ WSG := lk 1039 (by decide +kernel) (by decide +kernel)
theorem lk_1042 : Cond.methodLink RX6 177 yX6_readAtom ∈ WSG := lk 1042 (by decide +kernel) (by decide +kernel)
theorem lk_1044 : Cond.instanceMethod yX6_readAtom ∈ WSG := lk 1044 (by decide +kernel) (by decide +kernel)
theorem lk_1045 : Cond.code yX6_readAtom cX6_readAtom 4 (some .boolean) ∈ WSG := lk 1045 (by decide +kernel) (by decide +kernel)
theorem lk_1046 : Cond.methodLink RX6 183 yX8_emit ∈ WSG := lk 1046 (by decide +kernel) (by decide +kernel)
theorem lk_1047 : Cond.instanceMethod yX8_emit ∈ WSG := lk 1047 (by decide +kernel) (by decide +kernel)
theorem lk_1048 : Cond.selects RX8 yX8_emit yX8_emit ∈ WSG := lk 1048 (by decide +kernel) (by decide +kernel)
theorem lk_1049 : Cond.code yX8_emit cX8_emit 3 none ∈ WSG := lk 1049 (by decide +kernel) (by decide +kernel)
theorem lk_1054 : Cond.methodLink RX6 198 yX8_cellsOnDay ∈ WSG := lk 1054 (by decide +kernel) (by decide +kernel)
theorem lk_1055 : Cond.instanceMethod yX8_cellsOnDay ∈ WSG := lk 1055 (by decide +kernel) (by decide +kernel)
theorem lk_1056 : Cond.selects RX8 yX8_cellsOnDay yX8_cellsOnDay ∈ WSG := lk 1056 (by decide +kernel) (by decide +kernel)
theorem lk_1057 : Cond.code yX8_cellsOnDay cX8_cellsOnDay 4 (some .int) ∈ WSG := lk 1057 (by decide +kernel) (by decide +kernel)
theorem lk_1058 : Cond.methodLink RX6 202 yX8_cellsOfParish ∈ WSG := lk 1058 (by decide +kernel) (by decide +kernel)
theorem lk_1059 : Cond.instanceMethod yX8_cellsOfParish ∈ WSG := lk 1059 (by decide +kernel) (by decide +kernel)
theorem lk_1060 : Cond.selects RX8 yX8_cellsOfParish yX8_cellsOfParish ∈ WSG := lk 1060 (by decide +kernel) (by decide +kernel)
theorem lk_1061 : Cond.code yX8_cellsOfParish cX8_cellsOfParish 2 (some .int) ∈ WSG := lk 1061 (by decide +kernel) (by decide +kernel)
theorem lk_1062 : Cond.methodLink RX6 60 yX6_readOperator ∈ WSG := lk 1062 (by decide +kernel) (by decide +kernel)
theorem lk_1064 : Cond.instanceMethod yX6_readOperator ∈ WSG := lk 1064 (by decide +kernel) (by decide +kernel)
theorem lk_1065 : Cond.code yX6_readOperator cX6_readOperator 2 (some .boolean) ∈ WSG := lk 1065 (by decide +kernel) (by decide +kernel)
theorem lk_1066 : Cond.methodLink RX6 205 yX6_arithmeticSign ∈ WSG := lk 1066 (by decide +kernel) (by decide +kernel)
theorem lk_1068 : Cond.instanceMethod yX6_arithmeticSign ∈ WSG := lk 1068 (by decide +kernel) (by decide +kernel)
theorem lk_1069 : Cond.code yX6_arithmeticSign cX6_arithmeticSign 1 (some .int) ∈ WSG := lk 1069 (by decide +kernel) (by decide +kernel)
theorem lk_1073 : Cond.methodLink RX6 208 yX6_join ∈ WSG := lk 1073 (by decide +kernel) (by decide +kernel)
theorem lk_1075 : Cond.instanceMethod yX6_join ∈ WSG := lk 1075 (by decide +kernel) (by decide +kernel)
theorem lk_1076 : Cond.code yX6_join cX6_join 3 (some .boolean) ∈ WSG := lk 1076 (by decide +kernel) (by decide +kernel)
theorem lk_1077 : Cond.fieldLink RX6 240 "RainWishes$Parser" "TIGHT" "[I" ∈ WSG := lk 1077 (by decide +kernel) (by decide +kernel)
theorem lk_1079 : Cond.methodLink RX6 243 yX6_settleDownTo ∈ WSG := lk 1079 (by decide +kernel) (by decide +kernel)
theorem lk_1081 : Cond.instanceMethod yX6_settleDownTo ∈ WSG := lk 1081 (by decide +kernel) (by decide +kernel)
theorem lk_1082 : Cond.code yX6_settleDownTo cX6_settleDownTo 2 none ∈ WSG := lk 1082 (by decide +kernel) (by decide +kernel)
theorem lk_1084 : Cond.methodLink RX6 213 yX6_close ∈ WSG := lk 1084 (by decide +kernel) (by decide +kernel)
theorem lk_1086 : Cond.instanceMethod yX6_close ∈ WSG := lk 1086 (by decide +kernel) (by decide +kernel)
theorem lk_1087 : Cond.code yX6_close cX6_close 2 (some .boolean) ∈ WSG := lk 1087 (by decide +kernel) (by decide +kernel)
theorem lk_1088 : Cond.methodLink RX6 216 yX6_comparingSign ∈ WSG := lk 1088 (by decide +kernel) (by decide +kernel)
theorem lk_1090 : Cond.instanceMethod yX6_comparingSign ∈ WSG := lk 1090 (by decide +kernel) (by decide +kernel)
theorem lk_1091 : Cond.code yX6_comparingSign cX6_comparingSign 1 (some .int) ∈ WSG := lk 1091 (by decide +kernel) (by decide +kernel)
theorem lk_1098 : Cond.methodLink RX6 225 yX6_endWish ∈ WSG := lk 1098 (by decide +kernel) (by decide +kernel)
theorem lk_1100 : Cond.instanceMethod yX6_endWish ∈ WSG := lk 1100 (by decide +kernel) (by decide +kernel)
theorem lk_1101 : Cond.code yX6_endWish cX6_endWish 1 none ∈ WSG := lk 1101 (by decide +kernel) (by decide +kernel)
theorem lk_1106 : Cond.methodLink RX8 64 arraycopyName ∈ WSG := lk 1106 (by decide +kernel) (by decide +kernel)
theorem lk_1111 : Cond.methodLink RX0 27 yJ7_fill_53178 ∈ WSG := lk 1111 (by decide +kernel) (by decide +kernel)
theorem lk_1116 : Cond.methodLink RX11 145 yX3_forget ∈ WSG := lk 1116 (by decide +kernel) (by decide +kernel)
theorem lk_1117 : Cond.instanceMethod yX3_forget ∈ WSG := lk 1117 (by decide +kernel) (by decide +kernel)
theorem lk_1118 : Cond.selects RX3 yX3_forget yX3_forget ∈ WSG := lk 1118 (by decide +kernel) (by decide +kernel)
theorem lk_1119 : Cond.code yX3_forget cX3_forget 1 none ∈ WSG := lk 1119 (by decide +kernel) (by decide +kernel)
theorem lk_1120 : Cond.methodLink RX11 148 yX2_forget ∈ WSG := lk 1120 (by decide +kernel) (by decide +kernel)
theorem lk_1121 : Cond.instanceMethod yX2_forget ∈ WSG := lk 1121 (by decide +kernel) (by decide +kernel)
theorem lk_1122 : Cond.selects RX2 yX2_forget yX2_forget ∈ WSG := lk 1122 (by decide +kernel) (by decide +kernel)
theorem lk_1123 : Cond.code yX2_forget cX2_forget 1 none ∈ WSG := lk 1123 (by decide +kernel) (by decide +kernel)
theorem lk_1240 : Cond.methodLink RX2 90 yX8_weightOf ∈ WSG := lk 1240 (by decide +kernel) (by decide +kernel)
theorem lk_1274 : Cond.methodLink RX2 99 yX8_weatherOf ∈ WSG := lk 1274 (by decide +kernel) (by decide +kernel)
theorem lk_1275 : Cond.methodLink RX2 102 yX3_at ∈ WSG := lk 1275 (by decide +kernel) (by decide +kernel)
theorem lk_1290 : Cond.instanceMethod yX2_weightExpected ∈ WSG := lk 1290 (by decide +kernel) (by decide +kernel)
theorem lk_1291 : Cond.selects RX2 yX2_weightExpected yX2_weightExpected ∈ WSG := lk 1291 (by decide +kernel) (by decide +kernel)
theorem lk_1292 : Cond.code yX2_weightExpected cX2_weightExpected 11 (some .long) ∈ WSG := lk 1292 (by decide +kernel) (by decide +kernel)
theorem lk_1293 : Cond.methodLink RX2 105 yX2_power ∈ WSG := lk 1293 (by decide +kernel) (by decide +kernel)
theorem lk_1294 : Cond.static yX2_power ∈ WSG := lk 1294 (by decide +kernel) (by decide +kernel)
theorem lk_1295 : Cond.code yX2_power cX2_power 5 (some .long) ∈ WSG := lk 1295 (by decide +kernel) (by decide +kernel)
theorem lk_1307 : Cond.constantLong RX2 109 (-1 : Int64) ∈ WSG := lk 1307 (by decide +kernel) (by decide +kernel)
theorem lk_1308 : Cond.methodLink RX2 111 yX2_weightExpected ∈ WSG := lk 1308 (by decide +kernel) (by decide +kernel)
theorem lk_1334 : Cond.instanceMethod yX7_weightFor ∈ WSG := lk 1334 (by decide +kernel) (by decide +kernel)
theorem lk_1335 : Cond.selects RX7 yX7_weightFor yX7_weightFor ∈ WSG := lk 1335 (by decide +kernel) (by decide +kernel)
theorem lk_1336 : Cond.code yX7_weightFor cX7_weightFor 5 (some .int) ∈ WSG := lk 1336 (by decide +kernel) (by decide +kernel)
theorem lk_1348 : Cond.methodLink RX7 86 yX7_servedAsAsked ∈ WSG := lk 1348 (by decide +kernel) (by decide +kernel)
theorem lk_1349 : Cond.methodLink RX7 89 yX7_weightFor ∈ WSG := lk 1349 (by decide +kernel) (by decide +kernel)
theorem lk_1350 : Cond.methodLink RX7 98 yX7_sayOtherwise ∈ WSG := lk 1350 (by decide +kernel) (by decide +kernel)
theorem lk_1352 : Cond.instanceMethod yX7_sayOtherwise ∈ WSG := lk 1352 (by decide +kernel) (by decide +kernel)
theorem lk_1353 : Cond.code yX7_sayOtherwise cX7_sayOtherwise 3 (some .boolean) ∈ WSG := lk 1353 (by decide +kernel) (by decide +kernel)
theorem lk_1393 : Cond.methodLink RX5 41 yX5_search ∈ WSG := lk 1393 (by decide +kernel) (by decide +kernel)
theorem lk_1395 : Cond.instanceMethod yX5_search ∈ WSG := lk 1395 (by decide +kernel) (by decide +kernel)
theorem lk_1396 : Cond.code yX5_search cX5_search 7 none ∈ WSG := lk 1396 (by decide +kernel) (by decide +kernel)
theorem lk_1397 : Cond.methodLink RX5 45 yX5_fits ∈ WSG := lk 1397 (by decide +kernel) (by decide +kernel)
theorem lk_1399 : Cond.instanceMethod yX5_fits ∈ WSG := lk 1399 (by decide +kernel) (by decide +kernel)
theorem lk_1400 : Cond.code yX5_fits cX5_fits 6 (some .boolean) ∈ WSG := lk 1400 (by decide +kernel) (by decide +kernel)
theorem lk_1401 : Cond.methodLink RX5 49 yX5_keep ∈ WSG := lk 1401 (by decide +kernel) (by decide +kernel)
theorem lk_1403 : Cond.instanceMethod yX5_keep ∈ WSG := lk 1403 (by decide +kernel) (by decide +kernel)
theorem lk_1404 : Cond.code yX5_keep cX5_keep 3 none ∈ WSG := lk 1404 (by decide +kernel) (by decide +kernel)
theorem lk_1420 : Cond.methodLink RX1 56 yX1_takePart ∈ WSG := lk 1420 (by decide +kernel) (by decide +kernel)
theorem lk_1422 : Cond.instanceMethod yX1_takePart ∈ WSG := lk 1422 (by decide +kernel) (by decide +kernel)
theorem lk_1423 : Cond.code yX1_takePart cX1_takePart 6 none ∈ WSG := lk 1423 (by decide +kernel) (by decide +kernel)
theorem lk_1424 : Cond.methodLink RX1 60 yX1_placeOfCell ∈ WSG := lk 1424 (by decide +kernel) (by decide +kernel)
theorem lk_1426 : Cond.instanceMethod yX1_placeOfCell ∈ WSG := lk 1426 (by decide +kernel) (by decide +kernel)
theorem lk_1427 : Cond.code yX1_placeOfCell cX1_placeOfCell 3 (some .int) ∈ WSG := lk 1427 (by decide +kernel) (by decide +kernel)
theorem lk_1433 : Cond.methodLink RX1 64 yX1_joinAt ∈ WSG := lk 1433 (by decide +kernel) (by decide +kernel)
theorem lk_1435 : Cond.instanceMethod yX1_joinAt ∈ WSG := lk 1435 (by decide +kernel) (by decide +kernel)
theorem lk_1436 : Cond.code yX1_joinAt cX1_joinAt 11 none ∈ WSG := lk 1436 (by decide +kernel) (by decide +kernel)
theorem lk_1438 : Cond.instanceMethod yX1_all ∈ WSG := lk 1438 (by decide +kernel) (by decide +kernel)
theorem lk_1439 : Cond.selects RX1 yX1_all yX1_all ∈ WSG := lk 1439 (by decide +kernel) (by decide +kernel)
theorem lk_1440 : Cond.code yX1_all cX1_all 1 (some .int) ∈ WSG := lk 1440 (by decide +kernel) (by decide +kernel)
theorem lk_1445 : Cond.methodLink RX1 68 yX1_all ∈ WSG := lk 1445 (by decide +kernel) (by decide +kernel)
theorem lk_1446 : Cond.methodLink RX1 72 yX1_isNew ∈ WSG := lk 1446 (by decide +kernel) (by decide +kernel)
theorem lk_1448 : Cond.instanceMethod yX1_isNew ∈ WSG := lk 1448 (by decide +kernel) (by decide +kernel)
theorem lk_1449 : Cond.code yX1_isNew cX1_isNew 4 (some .boolean) ∈ WSG := lk 1449 (by decide +kernel) (by decide +kernel)
theorem lk_1454 : Cond.methodLink RX1 76 yX1_sortPlans ∈ WSG := lk 1454 (by decide +kernel) (by decide +kernel)
theorem lk_1456 : Cond.instanceMethod yX1_sortPlans ∈ WSG := lk 1456 (by decide +kernel) (by decide +kernel)
theorem lk_1457 : Cond.code yX1_sortPlans cX1_sortPlans 5 none ∈ WSG := lk 1457 (by decide +kernel) (by decide +kernel)
theorem lk_1458 : Cond.methodLink RX1 91 yJ7_fill_53178 ∈ WSG := lk 1458 (by decide +kernel) (by decide +kernel)
theorem lk_1459 : Cond.methodLink RX1 105 yX8_weatherOf ∈ WSG := lk 1459 (by decide +kernel) (by decide +kernel)
theorem lk_1460 : Cond.methodLink RX1 79 yX1_plansOf ∈ WSG := lk 1460 (by decide +kernel) (by decide +kernel)
theorem lk_1462 : Cond.instanceMethod yX1_plansOf ∈ WSG := lk 1462 (by decide +kernel) (by decide +kernel)
theorem lk_1463 : Cond.code yX1_plansOf cX1_plansOf 5 (some .int) ∈ WSG := lk 1463 (by decide +kernel) (by decide +kernel)
theorem lk_1464 : Cond.methodLink RX1 82 Lib.Math.max.name ∈ WSG := lk 1464 (by decide +kernel) (by decide +kernel)
theorem lk_1465 : Cond.methodLink RX1 88 Lib.Math.min.name ∈ WSG := lk 1465 (by decide +kernel) (by decide +kernel)
theorem lk_1533 : Cond.constant RX11 389 (1103515245 : Int32) ∈ WSG := lk 1533 (by decide +kernel) (by decide +kernel)
theorem lk_1550 : Cond.constantLong RX4 34 (99 : Int64) ∈ WSG := lk 1550 (by decide +kernel) (by decide +kernel)
theorem lk_1556 : Cond.methodLink RX4 36 yX4_byGranting ∈ WSG := lk 1556 (by decide +kernel) (by decide +kernel)
theorem lk_1558 : Cond.instanceMethod yX4_byGranting ∈ WSG := lk 1558 (by decide +kernel) (by decide +kernel)
theorem lk_1559 : Cond.code yX4_byGranting cX4_byGranting 4 (some .long) ∈ WSG := lk 1559 (by decide +kernel) (by decide +kernel)
theorem lk_1560 : Cond.methodLink RX4 40 Lib.MathLoose.max_long.x ∈ WSG := lk 1560 (by decide +kernel) (by decide +kernel)
theorem lk_1561 : Cond.static Lib.MathLoose.max_long.x ∈ WSG := lk 1561 (by decide +kernel) (by decide +kernel)
theorem lk_1562 : Cond.code Lib.MathLoose.max_long.x Lib.MathLoose.max_long.code 4 (some .long) ∈ WSG := lk 1562 (by decide +kernel) (by decide +kernel)
theorem lk_1590 : Cond.methodLink RX10 22 yJ7_fill_d0a16 ∈ WSG := lk 1590 (by decide +kernel) (by decide +kernel)
theorem lk_1591 : Cond.static yJ7_fill_d0a16 ∈ WSG := lk 1591 (by decide +kernel) (by decide +kernel)
theorem lk_1592 : Cond.code yJ7_fill_d0a16 cJ7_fill_d0a16 5 none ∈ WSG := lk 1592 (by decide +kernel) (by decide +kernel)
theorem lk_1660 : Cond.methodLink RX12 89 yX12_laysTruths ∈ WSG := lk 1660 (by decide +kernel) (by decide +kernel)
theorem lk_1662 : Cond.instanceMethod yX12_laysTruths ∈ WSG := lk 1662 (by decide +kernel) (by decide +kernel)
theorem lk_1663 : Cond.code yX12_laysTruths cX12_laysTruths 3 none ∈ WSG := lk 1663 (by decide +kernel) (by decide +kernel)
theorem lk_1664 : Cond.methodLink RX12 252 yX12_everywhere ∈ WSG := lk 1664 (by decide +kernel) (by decide +kernel)
theorem lk_1666 : Cond.instanceMethod yX12_everywhere ∈ WSG := lk 1666 (by decide +kernel) (by decide +kernel)
theorem lk_1667 : Cond.code yX12_everywhere cX12_everywhere 1 (some .int) ∈ WSG := lk 1667 (by decide +kernel) (by decide +kernel)
theorem lk_1668 : Cond.methodLink RX12 249 yX12_cells ∈ WSG := lk 1668 (by decide +kernel) (by decide +kernel)
theorem lk_1670 : Cond.instanceMethod yX12_cells ∈ WSG := lk 1670 (by decide +kernel) (by decide +kernel)
theorem lk_1671 : Cond.code yX12_cells cX12_cells 1 (some .int) ∈ WSG := lk 1671 (by decide +kernel) (by decide +kernel)
theorem lk_1672 : Cond.methodLink RX12 283 yX12_blown ∈ WSG := lk 1672 (by decide +kernel) (by decide +kernel)
theorem lk_1674 : Cond.instanceMethod yX12_blown ∈ WSG := lk 1674 (by decide +kernel) (by decide +kernel)
theorem lk_1675 : Cond.code yX12_blown cX12_blown 7 (some .int) ∈ WSG := lk 1675 (by decide +kernel) (by decide +kernel)
theorem lk_1676 : Cond.methodLink RX12 279 yX12_has ∈ WSG := lk 1676 (by decide +kernel) (by decide +kernel)
theorem lk_1677 : Cond.static yX12_has ∈ WSG := lk 1677 (by decide +kernel) (by decide +kernel)
theorem lk_1678 : Cond.code yX12_has cX12_has 2 (some .boolean) ∈ WSG := lk 1678 (by decide +kernel) (by decide +kernel)
theorem lk_1679 : Cond.methodLink RX12 286 yX12_worksOut ∈ WSG := lk 1679 (by decide +kernel) (by decide +kernel)
theorem lk_1681 : Cond.instanceMethod yX12_worksOut ∈ WSG := lk 1681 (by decide +kernel) (by decide +kernel)
theorem lk_1682 : Cond.code yX12_worksOut cX12_worksOut 6 (some .boolean) ∈ WSG := lk 1682 (by decide +kernel) (by decide +kernel)
theorem lk_1683 : Cond.methodLink RX12 272 yX12_plain ∈ WSG := lk 1683 (by decide +kernel) (by decide +kernel)
theorem lk_1685 : Cond.instanceMethod yX12_plain ∈ WSG := lk 1685 (by decide +kernel) (by decide +kernel)
theorem lk_1686 : Cond.code yX12_plain cX12_plain 6 (some .int) ∈ WSG := lk 1686 (by decide +kernel) (by decide +kernel)
theorem lk_1687 : Cond.methodLink RX12 269 yX12_size ∈ WSG := lk 1687 (by decide +kernel) (by decide +kernel)
theorem lk_1688 : Cond.static yX12_size ∈ WSG := lk 1688 (by decide +kernel) (by decide +kernel)
theorem lk_1689 : Cond.code yX12_size cX12_size 3 (some .int) ∈ WSG := lk 1689 (by decide +kernel) (by decide +kernel)
theorem lk_1690 : Cond.methodLink RX12 275 yX12_done ∈ WSG := lk 1690 (by decide +kernel) (by decide +kernel)
theorem lk_1691 : Cond.static yX12_done ∈ WSG := lk 1691 (by decide +kernel) (by decide +kernel)
theorem lk_1692 : Cond.code yX12_done cX12_done 5 (some .int) ∈ WSG := lk 1692 (by decide +kernel) (by decide +kernel)
theorem lk_1693 : Cond.methodLink RX12 265 yX12_bound ∈ WSG := lk 1693 (by decide +kernel) (by decide +kernel)
theorem lk_1694 : Cond.static yX12_bound ∈ WSG := lk 1694 (by decide +kernel) (by decide +kernel)
theorem lk_1695 : Cond.code yX12_bound cX12_bound 2 (some .int) ∈ WSG := lk 1695 (by decide +kernel) (by decide +kernel)
theorem lk_1696 : Cond.constantLong RX12 255 (-1000000 : Int64) ∈ WSG := lk 1696 (by decide +kernel) (by decide +kernel)
theorem lk_1697 : Cond.constantLong RX12 257 (1000000 : Int64) ∈ WSG := lk 1697 (by decide +kernel) (by decide +kernel)
theorem lk_1698 : Cond.methodLink RX12 259 Lib.MathLoose.min_long.x ∈ WSG := lk 1698 (by decide +kernel) (by decide +kernel)
theorem lk_1699 : Cond.static Lib.MathLoose.min_long.x ∈ WSG := lk 1699 (by decide +kernel) (by decide +kernel)
theorem lk_1700 : Cond.code Lib.MathLoose.min_long.x Lib.MathLoose.min_long.code 4 (some .long) ∈ WSG := lk 1700 (by decide +kernel) (by decide +kernel)
theorem lk_1701 : Cond.methodLink RX12 262 Lib.MathLoose.max_long.x ∈ WSG := lk 1701 (by decide +kernel) (by decide +kernel)
theorem lk_1702 : Cond.fieldLink RX12 9 "RainWishesModel" "known" "[I" ∈ WSG := lk 1702 (by decide +kernel) (by decide +kernel)
theorem lk_1703 : Cond.fieldLink RX12 13 "RainWishesModel" "fresh" "[I" ∈ WSG := lk 1703 (by decide +kernel) (by decide +kernel)
theorem lk_1704 : Cond.fieldLink RX12 16 "RainWishesModel" "images" "[I" ∈ WSG := lk 1704 (by decide +kernel) (by decide +kernel)
theorem lk_1705 : Cond.fieldLink RX12 19 "RainWishesModel" "kept" "[I" ∈ WSG := lk 1705 (by decide +kernel) (by decide +kernel)
theorem lk_1706 : Cond.fieldLink RX12 22 "RainWishesModel" "isImage" "[Z" ∈ WSG := lk 1706 (by decide +kernel) (by decide +kernel)
theorem lk_1707 : Cond.fieldLink RX12 92 "RainWishesModel" "thrown" "I" ∈ WSG := lk 1707 (by decide +kernel) (by decide +kernel)
theorem lk_1708 : Cond.fieldLink RX12 26 "RainWishesModel" "tape" "[I" ∈ WSG := lk 1708 (by decide +kernel) (by decide +kernel)
theorem lk_1709 : Cond.fieldLink RX12 95 "RainWishesModel" "taped" "I" ∈ WSG := lk 1709 (by decide +kernel) (by decide +kernel)
theorem lk_1710 : Cond.fieldLink RX12 98 "RainWishesModel" "length" "I" ∈ WSG := lk 1710 (by decide +kernel) (by decide +kernel)
theorem lk_1711 : Cond.fieldLink RX12 101 "RainWishesModel" "at" "I" ∈ WSG := lk 1711 (by decide +kernel) (by decide +kernel)
theorem lk_1712 : Cond.fieldLink RX12 104 "RainWishesModel" "begin" "I" ∈ WSG := lk 1712 (by decide +kernel) (by decide +kernel)
theorem lk_1713 : Cond.fieldLink RX12 107 "RainWishesModel" "token" "I" ∈ WSG := lk 1713 (by decide +kernel) (by decide +kernel)
theorem lk_1714 : Cond.fieldLink RX12 121 "RainWishesModel" "value" "I" ∈ WSG := lk 1714 (by decide +kernel) (by decide +kernel)
theorem lk_1715 : Cond.fieldLink RX12 127 "RainWishesModel" "bad" "I" ∈ WSG := lk 1715 (by decide +kernel) (by decide +kernel)
theorem lk_1716 : Cond.fieldLink RX12 130 "RainWishesModel" "badPlace" "I" ∈ WSG := lk 1716 (by decide +kernel) (by decide +kernel)
theorem lk_1717 : Cond.fieldLink RX12 246 "RainWishesModel" "faultKind" "I" ∈ WSG := lk 1717 (by decide +kernel) (by decide +kernel)
theorem lk_1718 : Cond.fieldLink RX12 29 "RainWishesModel" "faultPlace" "I" ∈ WSG := lk 1718 (by decide +kernel) (by decide +kernel)
theorem lk_1719 : Cond.fieldLink RX12 160 "RainWishesModel" "deep" "I" ∈ WSG := lk 1719 (by decide +kernel) (by decide +kernel)
theorem lk_1720 : Cond.fieldLink RX12 34 "RainWishesModel" "truth" "[Z" ∈ WSG := lk 1720 (by decide +kernel) (by decide +kernel)
theorem lk_1721 : Cond.fieldLink RX12 37 "RainWishesModel" "weatherBy" "[I" ∈ WSG := lk 1721 (by decide +kernel) (by decide +kernel)
theorem lk_1722 : Cond.fieldLink RX12 40 "RainWishesModel" "stack" "[I" ∈ WSG := lk 1722 (by decide +kernel) (by decide +kernel)
theorem lk_1723 : Cond.fieldLink RX12 43 "RainWishesModel" "grantedBy" "[I" ∈ WSG := lk 1723 (by decide +kernel) (by decide +kernel)
theorem lk_1724 : Cond.fieldLink RX12 46 "RainWishesModel" "go" "[Z" ∈ WSG := lk 1724 (by decide +kernel) (by decide +kernel)
theorem lk_1725 : Cond.fieldLink RX12 49 "RainWishesModel" "nightsBy" "[I" ∈ WSG := lk 1725 (by decide +kernel) (by decide +kernel)
theorem lk_1726 : Cond.fieldLink RX12 52 "RainWishesModel" "keys" "[I" ∈ WSG := lk 1726 (by decide +kernel) (by decide +kernel)
theorem lk_1727 : Cond.fieldLink RX12 55 "RainWishesModel" "askedAge" "[I" ∈ WSG := lk 1727 (by decide +kernel) (by decide +kernel)
theorem lk_1728 : Cond.fieldLink RX12 58 "RainWishesModel" "askedWeight" "[I" ∈ WSG := lk 1728 (by decide +kernel) (by decide +kernel)
theorem lk_1729 : Cond.fieldLink RX12 61 "RainWishesModel" "wanted" "[I" ∈ WSG := lk 1729 (by decide +kernel) (by decide +kernel)
theorem lk_1730 : Cond.fieldLink RX12 64 "RainWishesModel" "wantedFirst" "[I" ∈ WSG := lk 1730 (by decide +kernel) (by decide +kernel)
theorem lk_1731 : Cond.fieldLink RX12 378 "RainWishesModel" "wantedMany" "I" ∈ WSG := lk 1731 (by decide +kernel) (by decide +kernel)
theorem lk_1732 : Cond.fieldLink RX12 67 "RainWishesModel" "reading" "[J" ∈ WSG := lk 1732 (by decide +kernel) (by decide +kernel)
theorem lk_1733 : Cond.fieldLink RX12 71 "RainWishesModel" "readFirst" "[I" ∈ WSG := lk 1733 (by decide +kernel) (by decide +kernel)
theorem lk_1734 : Cond.fieldLink RX12 74 "RainWishesModel" "readMany" "[I" ∈ WSG := lk 1734 (by decide +kernel) (by decide +kernel)
theorem lk_1735 : Cond.fieldLink RX12 395 "RainWishesModel" "readAll" "I" ∈ WSG := lk 1735 (by decide +kernel) (by decide +kernel)
theorem lk_1736 : Cond.fieldLink RX12 432 "RainWishesModel" "state" "I" ∈ WSG := lk 1736 (by decide +kernel) (by decide +kernel)
theorem lk_1737 : Cond.fieldLink RX12 77 "RainWishesModel" "worth" "[J" ∈ WSG := lk 1737 (by decide +kernel) (by decide +kernel)
theorem lk_1738 : Cond.fieldLink RX12 80 "RainWishesModel" "tSort" "[I" ∈ WSG := lk 1738 (by decide +kernel) (by decide +kernel)
theorem lk_1739 : Cond.fieldLink RX12 83 "RainWishesModel" "tMany" "[I" ∈ WSG := lk 1739 (by decide +kernel) (by decide +kernel)
theorem lk_1740 : Cond.fieldLink RX12 86 "RainWishesModel" "numbers" "[J" ∈ WSG := lk 1740 (by decide +kernel) (by decide +kernel)
theorem lk_1832 : Cond.methodLink RX12 156 yX12_within ∈ WSG := lk 1832 (by decide +kernel) (by decide +kernel)
theorem lk_1833 : Cond.static yX12_within ∈ WSG := lk 1833 (by decide +kernel) (by decide +kernel)
theorem lk_1834 : Cond.code yX12_within cX12_within 6 (some .boolean) ∈ WSG := lk 1834 (by decide +kernel) (by decide +kernel)
theorem lk_1835 : Cond.methodLink RX12 233 yX12_fails ∈ WSG := lk 1835 (by decide +kernel) (by decide +kernel)
theorem lk_1837 : Cond.instanceMethod yX12_fails ∈ WSG := lk 1837 (by decide +kernel) (by decide +kernel)
theorem lk_1838 : Cond.code yX12_fails cX12_fails 2 (some .int) ∈ WSG := lk 1838 (by decide +kernel) (by decide +kernel)
theorem lk_1839 : Cond.methodLink RX12 146 yX12_readsOn ∈ WSG := lk 1839 (by decide +kernel) (by decide +kernel)
theorem lk_1841 : Cond.instanceMethod yX12_readsOn ∈ WSG := lk 1841 (by decide +kernel) (by decide +kernel)
theorem lk_1842 : Cond.code yX12_readsOn cX12_readsOn 2 none ∈ WSG := lk 1842 (by decide +kernel) (by decide +kernel)
theorem lk_1843 : Cond.methodLink RX12 110 yX12_isLetter ∈ WSG := lk 1843 (by decide +kernel) (by decide +kernel)
theorem lk_1844 : Cond.static yX12_isLetter ∈ WSG := lk 1844 (by decide +kernel) (by decide +kernel)
theorem lk_1845 : Cond.code yX12_isLetter cX12_isLetter 1 (some .boolean) ∈ WSG := lk 1845 (by decide +kernel) (by decide +kernel)
theorem lk_1846 : Cond.methodLink RX12 114 yX12_see ∈ WSG := lk 1846 (by decide +kernel) (by decide +kernel)
theorem lk_1848 : Cond.instanceMethod yX12_see ∈ WSG := lk 1848 (by decide +kernel) (by decide +kernel)
theorem lk_1849 : Cond.code yX12_see cX12_see 2 (some .int) ∈ WSG := lk 1849 (by decide +kernel) (by decide +kernel)
theorem lk_1850 : Cond.methodLink RX12 118 yX12_isDigit ∈ WSG := lk 1850 (by decide +kernel) (by decide +kernel)
theorem lk_1851 : Cond.static yX12_isDigit ∈ WSG := lk 1851 (by decide +kernel) (by decide +kernel)
theorem lk_1852 : Cond.code yX12_isDigit cX12_isDigit 1 (some .boolean) ∈ WSG := lk 1852 (by decide +kernel) (by decide +kernel)
theorem lk_1853 : Cond.methodLink RX12 124 yX12_isSignByte ∈ WSG := lk 1853 (by decide +kernel) (by decide +kernel)
theorem lk_1854 : Cond.static yX12_isSignByte ∈ WSG := lk 1854 (by decide +kernel) (by decide +kernel)
theorem lk_1855 : Cond.code yX12_isSignByte cX12_isSignByte 2 (some .boolean) ∈ WSG := lk 1855 (by decide +kernel) (by decide +kernel)
theorem lk_1857 : Cond.methodLink RX12 213 yX12_mustWord ∈ WSG := lk 1857 (by decide +kernel) (by decide +kernel)
theorem lk_1859 : Cond.instanceMethod yX12_mustWord ∈ WSG := lk 1859 (by decide +kernel) (by decide +kernel)
theorem lk_1860 : Cond.code yX12_mustWord cX12_mustWord 2 none ∈ WSG := lk 1860 (by decide +kernel) (by decide +kernel)
theorem lk_1861 : Cond.methodLink RX12 149 yX12_took ∈ WSG := lk 1861 (by decide +kernel) (by decide +kernel)
theorem lk_1863 : Cond.instanceMethod yX12_took ∈ WSG := lk 1863 (by decide +kernel) (by decide +kernel)
theorem lk_1864 : Cond.code yX12_took cX12_took 3 (some .boolean) ∈ WSG := lk 1864 (by decide +kernel) (by decide +kernel)
theorem lk_1865 : Cond.methodLink RX12 142 yX12_isWord ∈ WSG := lk 1865 (by decide +kernel) (by decide +kernel)
theorem lk_1867 : Cond.instanceMethod yX12_isWord ∈ WSG := lk 1867 (by decide +kernel) (by decide +kernel)
theorem lk_1868 : Cond.code yX12_isWord cX12_isWord 4 (some .boolean) ∈ WSG := lk 1868 (by decide +kernel) (by decide +kernel)
theorem lk_1869 : Cond.methodLink RX12 133 yJ0_length_8abf5 ∈ WSG := lk 1869 (by decide +kernel) (by decide +kernel)
theorem lk_1870 : Cond.methodLink RX12 138 yJ0_charAt_5068e ∈ WSG := lk 1870 (by decide +kernel) (by decide +kernel)
theorem lk_1871 : Cond.methodLink RX12 152 yX12_blames ∈ WSG := lk 1871 (by decide +kernel) (by decide +kernel)
theorem lk_1873 : Cond.instanceMethod yX12_blames ∈ WSG := lk 1873 (by decide +kernel) (by decide +kernel)
theorem lk_1874 : Cond.code yX12_blames cX12_blames 2 none ∈ WSG := lk 1874 (by decide +kernel) (by decide +kernel)
theorem lk_1875 : Cond.methodLink RX12 201 yX12_number ∈ WSG := lk 1875 (by decide +kernel) (by decide +kernel)
theorem lk_1877 : Cond.instanceMethod yX12_number ∈ WSG := lk 1877 (by decide +kernel) (by decide +kernel)
theorem lk_1878 : Cond.code yX12_number cX12_number 4 (some .int) ∈ WSG := lk 1878 (by decide +kernel) (by decide +kernel)
theorem lk_1879 : Cond.methodLink RX12 238 Lib.Math.min.name ∈ WSG := lk 1879 (by decide +kernel) (by decide +kernel)
theorem lk_1880 : Cond.methodLink RX12 230 yX12_readStop ∈ WSG := lk 1880 (by decide +kernel) (by decide +kernel)
theorem lk_1882 : Cond.instanceMethod yX12_readStop ∈ WSG := lk 1882 (by decide +kernel) (by decide +kernel)
theorem lk_1883 : Cond.code yX12_readStop cX12_readStop 1 none ∈ WSG := lk 1883 (by decide +kernel) (by decide +kernel)
theorem lk_1884 : Cond.methodLink RX12 187 yX12_mustSign ∈ WSG := lk 1884 (by decide +kernel) (by decide +kernel)
theorem lk_1886 : Cond.instanceMethod yX12_mustSign ∈ WSG := lk 1886 (by decide +kernel) (by decide +kernel)
theorem lk_1887 : Cond.code yX12_mustSign cX12_mustSign 2 none ∈ WSG := lk 1887 (by decide +kernel) (by decide +kernel)
theorem lk_1888 : Cond.methodLink RX12 243 yX12_readLine ∈ WSG := lk 1888 (by decide +kernel) (by decide +kernel)
theorem lk_1890 : Cond.instanceMethod yX12_readLine ∈ WSG := lk 1890 (by decide +kernel) (by decide +kernel)
theorem lk_1891 : Cond.code yX12_readLine cX12_readLine 1 none ∈ WSG := lk 1891 (by decide +kernel) (by decide +kernel)
theorem lk_1895 : Cond.methodLink RX12 227 yX12_readWish ∈ WSG := lk 1895 (by decide +kernel) (by decide +kernel)
theorem lk_1897 : Cond.instanceMethod yX12_readWish ∈ WSG := lk 1897 (by decide +kernel) (by decide +kernel)
theorem lk_1898 : Cond.code yX12_readWish cX12_readWish 5 none ∈ WSG := lk 1898 (by decide +kernel) (by decide +kernel)
theorem lk_1902 : Cond.methodLink RX12 184 yX12_readTruth ∈ WSG := lk 1902 (by decide +kernel) (by decide +kernel)
theorem lk_1904 : Cond.instanceMethod yX12_readTruth ∈ WSG := lk 1904 (by decide +kernel) (by decide +kernel)
theorem lk_1905 : Cond.code yX12_readTruth cX12_readTruth 1 none ∈ WSG := lk 1905 (by decide +kernel) (by decide +kernel)
theorem lk_1906 : Cond.methodLink RX12 163 yX12_readBoth ∈ WSG := lk 1906 (by decide +kernel) (by decide +kernel)
theorem lk_1908 : Cond.instanceMethod yX12_readBoth ∈ WSG := lk 1908 (by decide +kernel) (by decide +kernel)
theorem lk_1909 : Cond.code yX12_readBoth cX12_readBoth 1 none ∈ WSG := lk 1909 (by decide +kernel) (by decide +kernel)
theorem lk_1910 : Cond.methodLink RX12 171 yX12_readUnit ∈ WSG := lk 1910 (by decide +kernel) (by decide +kernel)
theorem lk_1912 : Cond.instanceMethod yX12_readUnit ∈ WSG := lk 1912 (by decide +kernel) (by decide +kernel)
theorem lk_1913 : Cond.code yX12_readUnit cX12_readUnit 2 none ∈ WSG := lk 1913 (by decide +kernel) (by decide +kernel)
theorem lk_1915 : Cond.methodLink RX12 178 yX12_goesIn ∈ WSG := lk 1915 (by decide +kernel) (by decide +kernel)
theorem lk_1917 : Cond.instanceMethod yX12_goesIn ∈ WSG := lk 1917 (by decide +kernel) (by decide +kernel)
theorem lk_1918 : Cond.code yX12_goesIn cX12_goesIn 1 none ∈ WSG := lk 1918 (by decide +kernel) (by decide +kernel)
theorem lk_1919 : Cond.methodLink RX12 168 yX12_laysStep ∈ WSG := lk 1919 (by decide +kernel) (by decide +kernel)
theorem lk_1921 : Cond.instanceMethod yX12_laysStep ∈ WSG := lk 1921 (by decide +kernel) (by decide +kernel)
theorem lk_1922 : Cond.code yX12_laysStep cX12_laysStep 2 none ∈ WSG := lk 1922 (by decide +kernel) (by decide +kernel)
theorem lk_1923 : Cond.methodLink RX12 181 yX12_isSign ∈ WSG := lk 1923 (by decide +kernel) (by decide +kernel)
theorem lk_1925 : Cond.instanceMethod yX12_isSign ∈ WSG := lk 1925 (by decide +kernel) (by decide +kernel)
theorem lk_1926 : Cond.code yX12_isSign cX12_isSign 2 (some .boolean) ∈ WSG := lk 1926 (by decide +kernel) (by decide +kernel)
theorem lk_1927 : Cond.methodLink RX12 190 yX12_readSum ∈ WSG := lk 1927 (by decide +kernel) (by decide +kernel)
theorem lk_1929 : Cond.instanceMethod yX12_readSum ∈ WSG := lk 1929 (by decide +kernel) (by decide +kernel)
theorem lk_1930 : Cond.code yX12_readSum cX12_readSum 2 none ∈ WSG := lk 1930 (by decide +kernel) (by decide +kernel)
theorem lk_1931 : Cond.methodLink RX12 193 yX12_readTerm ∈ WSG := lk 1931 (by decide +kernel) (by decide +kernel)
theorem lk_1933 : Cond.instanceMethod yX12_readTerm ∈ WSG := lk 1933 (by decide +kernel) (by decide +kernel)
theorem lk_1934 : Cond.code yX12_readTerm cX12_readTerm 1 none ∈ WSG := lk 1934 (by decide +kernel) (by decide +kernel)
theorem lk_1935 : Cond.methodLink RX12 196 yX12_readAtom ∈ WSG := lk 1935 (by decide +kernel) (by decide +kernel)
theorem lk_1937 : Cond.instanceMethod yX12_readAtom ∈ WSG := lk 1937 (by decide +kernel) (by decide +kernel)
theorem lk_1938 : Cond.code yX12_readAtom cX12_readAtom 3 none ∈ WSG := lk 1938 (by decide +kernel) (by decide +kernel)
theorem lk_1953 : Cond.methodLink RX12 305 yX12_isWish ∈ WSG := lk 1953 (by decide +kernel) (by decide +kernel)
theorem lk_1955 : Cond.instanceMethod yX12_isWish ∈ WSG := lk 1955 (by decide +kernel) (by decide +kernel)
theorem lk_1956 : Cond.code yX12_isWish cX12_isWish 2 (some .boolean) ∈ WSG := lk 1956 (by decide +kernel) (by decide +kernel)
theorem lk_1957 : Cond.constantLong RX12 308 (5 : Int64) ∈ WSG := lk 1957 (by decide +kernel) (by decide +kernel)
theorem lk_1958 : Cond.methodLink RX12 292 yX12_doesHold ∈ WSG := lk 1958 (by decide +kernel) (by decide +kernel)
theorem lk_1960 : Cond.instanceMethod yX12_doesHold ∈ WSG := lk 1960 (by decide +kernel) (by decide +kernel)
theorem lk_1961 : Cond.code yX12_doesHold cX12_doesHold 3 (some .boolean) ∈ WSG := lk 1961 (by decide +kernel) (by decide +kernel)
theorem lk_1962 : Cond.methodLink RX12 289 yX12_isOpen ∈ WSG := lk 1962 (by decide +kernel) (by decide +kernel)
theorem lk_1964 : Cond.instanceMethod yX12_isOpen ∈ WSG := lk 1964 (by decide +kernel) (by decide +kernel)
theorem lk_1965 : Cond.code yX12_isOpen cX12_isOpen 2 (some .boolean) ∈ WSG := lk 1965 (by decide +kernel) (by decide +kernel)
theorem lk_1970 : Cond.methodLink RX12 295 yX12_isSky ∈ WSG := lk 1970 (by decide +kernel) (by decide +kernel)
theorem lk_1972 : Cond.instanceMethod yX12_isSky ∈ WSG := lk 1972 (by decide +kernel) (by decide +kernel)
theorem lk_1973 : Cond.code yX12_isSky cX12_isSky 3 (some .boolean) ∈ WSG := lk 1973 (by decide +kernel) (by decide +kernel)
theorem lk_1982 : Cond.methodLink RX12 310 yX12_whyNot ∈ WSG := lk 1982 (by decide +kernel) (by decide +kernel)
theorem lk_1984 : Cond.instanceMethod yX12_whyNot ∈ WSG := lk 1984 (by decide +kernel) (by decide +kernel)
theorem lk_1985 : Cond.code yX12_whyNot cX12_whyNot 3 (some .int) ∈ WSG := lk 1985 (by decide +kernel) (by decide +kernel)
theorem lk_1986 : Cond.methodLink RX12 299 yX12_musts ∈ WSG := lk 1986 (by decide +kernel) (by decide +kernel)
theorem lk_1988 : Cond.instanceMethod yX12_musts ∈ WSG := lk 1988 (by decide +kernel) (by decide +kernel)
theorem lk_1989 : Cond.code yX12_musts cX12_musts 3 (some .int) ∈ WSG := lk 1989 (by decide +kernel) (by decide +kernel)
theorem lk_1990 : Cond.methodLink RX12 302 yX12_grantedIn ∈ WSG := lk 1990 (by decide +kernel) (by decide +kernel)
theorem lk_1992 : Cond.instanceMethod yX12_grantedIn ∈ WSG := lk 1992 (by decide +kernel) (by decide +kernel)
theorem lk_1993 : Cond.code yX12_grantedIn cX12_grantedIn 4 (some .int) ∈ WSG := lk 1993 (by decide +kernel) (by decide +kernel)
theorem lk_2006 : Cond.methodLink RX12 313 yX12_isAsked ∈ WSG := lk 2006 (by decide +kernel) (by decide +kernel)
theorem lk_2008 : Cond.instanceMethod yX12_isAsked ∈ WSG := lk 2008 (by decide +kernel) (by decide +kernel)
theorem lk_2009 : Cond.code yX12_isAsked cX12_isAsked 2 (some .boolean) ∈ WSG := lk 2009 (by decide +kernel) (by decide +kernel)
theorem lk_2010 : Cond.methodLink RX12 316 yX12_laysPlans ∈ WSG := lk 2010 (by decide +kernel) (by decide +kernel)
theorem lk_2012 : Cond.instanceMethod yX12_laysPlans ∈ WSG := lk 2012 (by decide +kernel) (by decide +kernel)
theorem lk_2013 : Cond.code yX12_laysPlans cX12_laysPlans 3 none ∈ WSG := lk 2013 (by decide +kernel) (by decide +kernel)
theorem lk_2014 : Cond.methodLink RX12 319 yX12_planFor ∈ WSG := lk 2014 (by decide +kernel) (by decide +kernel)
theorem lk_2016 : Cond.instanceMethod yX12_planFor ∈ WSG := lk 2016 (by decide +kernel) (by decide +kernel)
theorem lk_2017 : Cond.code yX12_planFor cX12_planFor 4 (some .int) ∈ WSG := lk 2017 (by decide +kernel) (by decide +kernel)
theorem lk_2026 : Cond.methodLink RX12 322 yX12_openFault ∈ WSG := lk 2026 (by decide +kernel) (by decide +kernel)
theorem lk_2028 : Cond.instanceMethod yX12_openFault ∈ WSG := lk 2028 (by decide +kernel) (by decide +kernel)
theorem lk_2029 : Cond.code yX12_openFault cX12_openFault 2 (some .int) ∈ WSG := lk 2029 (by decide +kernel) (by decide +kernel)
theorem lk_2034 : Cond.constantLong RX12 325 (2 : Int64) ∈ WSG := lk 2034 (by decide +kernel) (by decide +kernel)
theorem lk_2035 : Cond.methodLink RX12 327 yX12_weight ∈ WSG := lk 2035 (by decide +kernel) (by decide +kernel)
theorem lk_2037 : Cond.instanceMethod yX12_weight ∈ WSG := lk 2037 (by decide +kernel) (by decide +kernel)
theorem lk_2038 : Cond.code yX12_weight cX12_weight 4 (some .int) ∈ WSG := lk 2038 (by decide +kernel) (by decide +kernel)
theorem lk_2047 : Cond.methodLink RX12 329 yX12_heartsOf ∈ WSG := lk 2047 (by decide +kernel) (by decide +kernel)
theorem lk_2049 : Cond.instanceMethod yX12_heartsOf ∈ WSG := lk 2049 (by decide +kernel) (by decide +kernel)
theorem lk_2050 : Cond.code yX12_heartsOf cX12_heartsOf 5 (some .int) ∈ WSG := lk 2050 (by decide +kernel) (by decide +kernel)
theorem lk_2063 : Cond.constantLong RX12 336 (100 : Int64) ∈ WSG := lk 2063 (by decide +kernel) (by decide +kernel)
theorem lk_2064 : Cond.methodLink RX12 338 yX12_expects ∈ WSG := lk 2064 (by decide +kernel) (by decide +kernel)
theorem lk_2066 : Cond.instanceMethod yX12_expects ∈ WSG := lk 2066 (by decide +kernel) (by decide +kernel)
theorem lk_2067 : Cond.code yX12_expects cX12_expects 8 (some .long) ∈ WSG := lk 2067 (by decide +kernel) (by decide +kernel)
theorem lk_2068 : Cond.methodLink RX12 332 yX12_power ∈ WSG := lk 2068 (by decide +kernel) (by decide +kernel)
theorem lk_2069 : Cond.static yX12_power ∈ WSG := lk 2069 (by decide +kernel) (by decide +kernel)
theorem lk_2070 : Cond.code yX12_power cX12_power 6 (some .long) ∈ WSG := lk 2070 (by decide +kernel) (by decide +kernel)
theorem lk_2079 : Cond.methodLink RX12 351 yX12_isRule ∈ WSG := lk 2079 (by decide +kernel) (by decide +kernel)
theorem lk_2080 : Cond.static yX12_isRule ∈ WSG := lk 2080 (by decide +kernel) (by decide +kernel)
theorem lk_2081 : Cond.code yX12_isRule cX12_isRule 1 (some .boolean) ∈ WSG := lk 2081 (by decide +kernel) (by decide +kernel)
theorem lk_2082 : Cond.constantLong RX12 349 (3 : Int64) ∈ WSG := lk 2082 (by decide +kernel) (by decide +kernel)
theorem lk_2083 : Cond.methodLink RX12 354 yX12_asksAsItIs ∈ WSG := lk 2083 (by decide +kernel) (by decide +kernel)
theorem lk_2085 : Cond.instanceMethod yX12_asksAsItIs ∈ WSG := lk 2085 (by decide +kernel) (by decide +kernel)
theorem lk_2086 : Cond.code yX12_asksAsItIs cX12_asksAsItIs 2 none ∈ WSG := lk 2086 (by decide +kernel) (by decide +kernel)
theorem lk_2087 : Cond.methodLink RX12 357 yX12_serves ∈ WSG := lk 2087 (by decide +kernel) (by decide +kernel)
theorem lk_2089 : Cond.instanceMethod yX12_serves ∈ WSG := lk 2089 (by decide +kernel) (by decide +kernel)
theorem lk_2090 : Cond.code yX12_serves cX12_serves 7 (some .int) ∈ WSG := lk 2090 (by decide +kernel) (by decide +kernel)
theorem lk_2091 : Cond.methodLink RX12 345 yX12_key ∈ WSG := lk 2091 (by decide +kernel) (by decide +kernel)
theorem lk_2093 : Cond.instanceMethod yX12_key ∈ WSG := lk 2093 (by decide +kernel) (by decide +kernel)
theorem lk_2094 : Cond.code yX12_key cX12_key 5 (some .int) ∈ WSG := lk 2094 (by decide +kernel) (by decide +kernel)
theorem lk_2095 : Cond.methodLink RX12 342 yX12_manyOf ∈ WSG := lk 2095 (by decide +kernel) (by decide +kernel)
theorem lk_2097 : Cond.instanceMethod yX12_manyOf ∈ WSG := lk 2097 (by decide +kernel) (by decide +kernel)
theorem lk_2098 : Cond.code yX12_manyOf cX12_manyOf 5 (some .int) ∈ WSG := lk 2098 (by decide +kernel) (by decide +kernel)
theorem lk_2103 : Cond.methodLink RX12 360 yX12_isBody ∈ WSG := lk 2103 (by decide +kernel) (by decide +kernel)
theorem lk_2104 : Cond.static yX12_isBody ∈ WSG := lk 2104 (by decide +kernel) (by decide +kernel)
theorem lk_2105 : Cond.code yX12_isBody cX12_isBody 1 (some .boolean) ∈ WSG := lk 2105 (by decide +kernel) (by decide +kernel)
theorem lk_2106 : Cond.methodLink RX12 363 yX12_shareOf ∈ WSG := lk 2106 (by decide +kernel) (by decide +kernel)
theorem lk_2108 : Cond.instanceMethod yX12_shareOf ∈ WSG := lk 2108 (by decide +kernel) (by decide +kernel)
theorem lk_2109 : Cond.code yX12_shareOf cX12_shareOf 5 (some .int) ∈ WSG := lk 2109 (by decide +kernel) (by decide +kernel)
theorem lk_2114 : Cond.methodLink RX12 366 yX12_shareBy ∈ WSG := lk 2114 (by decide +kernel) (by decide +kernel)
theorem lk_2116 : Cond.instanceMethod yX12_shareBy ∈ WSG := lk 2116 (by decide +kernel) (by decide +kernel)
theorem lk_2117 : Cond.code yX12_shareBy cX12_shareBy 5 (some .int) ∈ WSG := lk 2117 (by decide +kernel) (by decide +kernel)
theorem lk_2126 : Cond.methodLink RX12 392 yX12_wantsFault ∈ WSG := lk 2126 (by decide +kernel) (by decide +kernel)
theorem lk_2128 : Cond.instanceMethod yX12_wantsFault ∈ WSG := lk 2128 (by decide +kernel) (by decide +kernel)
theorem lk_2129 : Cond.code yX12_wantsFault cX12_wantsFault 5 (some .int) ∈ WSG := lk 2129 (by decide +kernel) (by decide +kernel)
theorem lk_2130 : Cond.methodLink RX12 385 yX12_trayFault ∈ WSG := lk 2130 (by decide +kernel) (by decide +kernel)
theorem lk_2132 : Cond.instanceMethod yX12_trayFault ∈ WSG := lk 2132 (by decide +kernel) (by decide +kernel)
theorem lk_2133 : Cond.code yX12_trayFault cX12_trayFault 2 (some .int) ∈ WSG := lk 2133 (by decide +kernel) (by decide +kernel)
theorem lk_2134 : Cond.methodLink RX12 369 yX12_isTray ∈ WSG := lk 2134 (by decide +kernel) (by decide +kernel)
theorem lk_2135 : Cond.static yX12_isTray ∈ WSG := lk 2135 (by decide +kernel) (by decide +kernel)
theorem lk_2136 : Cond.code yX12_isTray cX12_isTray 1 (some .boolean) ∈ WSG := lk 2136 (by decide +kernel) (by decide +kernel)
theorem lk_2137 : Cond.constantLong RX12 388 (10 : Int64) ∈ WSG := lk 2137 (by decide +kernel) (by decide +kernel)
theorem lk_2138 : Cond.constantLong RX12 390 (12 : Int64) ∈ WSG := lk 2138 (by decide +kernel) (by decide +kernel)
theorem lk_2139 : Cond.methodLink RX12 381 yX12_goesWants ∈ WSG := lk 2139 (by decide +kernel) (by decide +kernel)
theorem lk_2141 : Cond.instanceMethod yX12_goesWants ∈ WSG := lk 2141 (by decide +kernel) (by decide +kernel)
theorem lk_2142 : Cond.code yX12_goesWants cX12_goesWants 6 none ∈ WSG := lk 2142 (by decide +kernel) (by decide +kernel)
theorem lk_2143 : Cond.methodLink RX12 375 yX12_doPart ∈ WSG := lk 2143 (by decide +kernel) (by decide +kernel)
theorem lk_2145 : Cond.instanceMethod yX12_doPart ∈ WSG := lk 2145 (by decide +kernel) (by decide +kernel)
theorem lk_2146 : Cond.code yX12_doPart cX12_doPart 7 (some .boolean) ∈ WSG := lk 2146 (by decide +kernel) (by decide +kernel)
theorem lk_2147 : Cond.methodLink RX12 372 yX12_isSo ∈ WSG := lk 2147 (by decide +kernel) (by decide +kernel)
theorem lk_2148 : Cond.static yX12_isSo ∈ WSG := lk 2148 (by decide +kernel) (by decide +kernel)
theorem lk_2149 : Cond.code yX12_isSo cX12_isSo 2 (some .boolean) ∈ WSG := lk 2149 (by decide +kernel) (by decide +kernel)
theorem lk_2154 : Cond.methodLink RX12 408 yX12_sayFault ∈ WSG := lk 2154 (by decide +kernel) (by decide +kernel)
theorem lk_2156 : Cond.instanceMethod yX12_sayFault ∈ WSG := lk 2156 (by decide +kernel) (by decide +kernel)
theorem lk_2157 : Cond.code yX12_sayFault cX12_sayFault 6 (some .int) ∈ WSG := lk 2157 (by decide +kernel) (by decide +kernel)
theorem lk_2158 : Cond.methodLink RX12 411 yX12_reads ∈ WSG := lk 2158 (by decide +kernel) (by decide +kernel)
theorem lk_2160 : Cond.instanceMethod yX12_reads ∈ WSG := lk 2160 (by decide +kernel) (by decide +kernel)
theorem lk_2161 : Cond.code yX12_reads cX12_reads 11 none ∈ WSG := lk 2161 (by decide +kernel) (by decide +kernel)
theorem lk_2162 : Cond.methodLink RX12 398 yX12_laysReading ∈ WSG := lk 2162 (by decide +kernel) (by decide +kernel)
theorem lk_2164 : Cond.instanceMethod yX12_laysReading ∈ WSG := lk 2164 (by decide +kernel) (by decide +kernel)
theorem lk_2165 : Cond.code yX12_laysReading cX12_laysReading 3 none ∈ WSG := lk 2165 (by decide +kernel) (by decide +kernel)
theorem lk_2166 : Cond.methodLink RX12 401 yX12_laysPair ∈ WSG := lk 2166 (by decide +kernel) (by decide +kernel)
theorem lk_2168 : Cond.instanceMethod yX12_laysPair ∈ WSG := lk 2168 (by decide +kernel) (by decide +kernel)
theorem lk_2169 : Cond.code yX12_laysPair cX12_laysPair 9 none ∈ WSG := lk 2169 (by decide +kernel) (by decide +kernel)
theorem lk_2170 : Cond.methodLink RX12 415 yX12_unlike ∈ WSG := lk 2170 (by decide +kernel) (by decide +kernel)
theorem lk_2172 : Cond.instanceMethod yX12_unlike ∈ WSG := lk 2172 (by decide +kernel) (by decide +kernel)
theorem lk_2173 : Cond.code yX12_unlike cX12_unlike 7 (some .int) ∈ WSG := lk 2173 (by decide +kernel) (by decide +kernel)
theorem lk_2174 : Cond.methodLink RX12 405 yX12_areLike ∈ WSG := lk 2174 (by decide +kernel) (by decide +kernel)
theorem lk_2176 : Cond.instanceMethod yX12_areLike ∈ WSG := lk 2176 (by decide +kernel) (by decide +kernel)
theorem lk_2177 : Cond.code yX12_areLike cX12_areLike 4 (some .boolean) ∈ WSG := lk 2177 (by decide +kernel) (by decide +kernel)
theorem lk_2178 : Cond.methodLink RX12 418 yX12_holdsIn ∈ WSG := lk 2178 (by decide +kernel) (by decide +kernel)
theorem lk_2180 : Cond.instanceMethod yX12_holdsIn ∈ WSG := lk 2180 (by decide +kernel) (by decide +kernel)
theorem lk_2181 : Cond.code yX12_holdsIn cX12_holdsIn 4 (some .int) ∈ WSG := lk 2181 (by decide +kernel) (by decide +kernel)
theorem lk_2182 : Cond.methodLink RX12 421 Lib.Math.max.name ∈ WSG := lk 2182 (by decide +kernel) (by decide +kernel)
theorem lk_2187 : Cond.methodLink RX12 423 yX12_keeps ∈ WSG := lk 2187 (by decide +kernel) (by decide +kernel)
theorem lk_2189 : Cond.instanceMethod yX12_keeps ∈ WSG := lk 2189 (by decide +kernel) (by decide +kernel)
theorem lk_2190 : Cond.code yX12_keeps cX12_keeps 2 none ∈ WSG := lk 2190 (by decide +kernel) (by decide +kernel)
theorem lk_2191 : Cond.methodLink RX12 426 yX12_goesBy ∈ WSG := lk 2191 (by decide +kernel) (by decide +kernel)
theorem lk_2193 : Cond.instanceMethod yX12_goesBy ∈ WSG := lk 2193 (by decide +kernel) (by decide +kernel)
theorem lk_2194 : Cond.code yX12_goesBy cX12_goesBy 4 (some .int) ∈ WSG := lk 2194 (by decide +kernel) (by decide +kernel)
theorem lk_2199 : Cond.constantLong RX12 429 (99 : Int64) ∈ WSG := lk 2199 (by decide +kernel) (by decide +kernel)
theorem lk_2228 : Cond.constantLong RX12 435 (30 : Int64) ∈ WSG := lk 2228 (by decide +kernel) (by decide +kernel)
theorem lk_2229 : Cond.methodLink RX12 437 yX12_draw ∈ WSG := lk 2229 (by decide +kernel) (by decide +kernel)
theorem lk_2231 : Cond.instanceMethod yX12_draw ∈ WSG := lk 2231 (by decide +kernel) (by decide +kernel)
theorem lk_2232 : Cond.code yX12_draw cX12_draw 2 (some .int) ∈ WSG := lk 2232 (by decide +kernel) (by decide +kernel)
theorem lk_2233 : Cond.constant RX12 431 (1103515245 : Int32) ∈ WSG := lk 2233 (by decide +kernel) (by decide +kernel)
theorem lk_2238 : Cond.methodLink RX12 446 yX12_holdFault ∈ WSG := lk 2238 (by decide +kernel) (by decide +kernel)
theorem lk_2240 : Cond.instanceMethod yX12_holdFault ∈ WSG := lk 2240 (by decide +kernel) (by decide +kernel)
theorem lk_2241 : Cond.code yX12_holdFault cX12_holdFault 6 (some .int) ∈ WSG := lk 2241 (by decide +kernel) (by decide +kernel)
theorem lk_2242 : Cond.constantLong RX12 440 (6 : Int64) ∈ WSG := lk 2242 (by decide +kernel) (by decide +kernel)
theorem lk_2243 : Cond.methodLink RX12 449 yX12_laysWorth ∈ WSG := lk 2243 (by decide +kernel) (by decide +kernel)
theorem lk_2245 : Cond.instanceMethod yX12_laysWorth ∈ WSG := lk 2245 (by decide +kernel) (by decide +kernel)
theorem lk_2246 : Cond.code yX12_laysWorth cX12_laysWorth 9 none ∈ WSG := lk 2246 (by decide +kernel) (by decide +kernel)
theorem lk_2247 : Cond.methodLink RX12 442 yX12_grantsNow ∈ WSG := lk 2247 (by decide +kernel) (by decide +kernel)
theorem lk_2249 : Cond.instanceMethod yX12_grantsNow ∈ WSG := lk 2249 (by decide +kernel) (by decide +kernel)
theorem lk_2250 : Cond.code yX12_grantsNow cX12_grantsNow 6 (some .long) ∈ WSG := lk 2250 (by decide +kernel) (by decide +kernel)
theorem lk_2255 : Cond.constantLong RX12 452 (-1 : Int64) ∈ WSG := lk 2255 (by decide +kernel) (by decide +kernel)
theorem lk_2264 : Cond.methodLink RX12 454 yX12_cut ∈ WSG := lk 2264 (by decide +kernel) (by decide +kernel)
theorem lk_2266 : Cond.instanceMethod yX12_cut ∈ WSG := lk 2266 (by decide +kernel) (by decide +kernel)
theorem lk_2267 : Cond.code yX12_cut cX12_cut 6 (some .long) ∈ WSG := lk 2267 (by decide +kernel) (by decide +kernel)
theorem lk_2305 : Cond.fieldLink RJ0 15 "java/lang/String" "coder" "B" ∈ WSG := lk 2305 (by decide +kernel) (by decide +kernel)
theorem lk_2306 : Cond.fieldLink RJ0 9 "java/lang/String" "value" "[B" ∈ WSG := lk 2306 (by decide +kernel) (by decide +kernel)
theorem iw_0 : ∀ w ∈ u_ws RX0 TX0 6, w ∈ WSG := by
  have h : ∀ w ∈ u_ws RX0 TX0 6, w ∈ lw_tbl ∧ goodWord w = true := by decide +kernel
  exact fun w hw => wsg (h w hw).1 (h w hw).2
theorem iw_1 : ∀ w ∈ u_ws RX1 TX1 9, w ∈ WSG := by
  have h : ∀ w ∈ u_ws RX1 TX1 9, w ∈ lw_tbl ∧ goodWord w = true := by decide +kernel
  exact fun w hw => wsg (h w hw).1 (h w hw).2
theorem iw_2 : ∀ w ∈ u_ws RX2 TX2 9, w ∈ WSG := by
  have h : ∀ w ∈ u_ws RX2 TX2 9, w ∈ lw_tbl ∧ goodWord w = true := by decide +kernel
  exact fun w hw => wsg (h w hw).1 (h w hw).2
theorem iw_3 : ∀ w ∈ u_ws RX3 TX3 3, w ∈ WSG := by
  have h : ∀ w ∈ u_ws RX3 TX3 3, w ∈ lw_tbl ∧ goodWord w = true := by decide +kernel
  exact fun w hw => wsg (h w hw).1 (h w hw).2
theorem iw_4 : ∀ w ∈ u_ws RX4 TX4 4, w ∈ WSG := by
  have h : ∀ w ∈ u_ws RX4 TX4 4, w ∈ lw_tbl ∧ goodWord w = true := by decide +kernel
  exact fun w hw => wsg (h w hw).1 (h w hw).2
theorem iw_5 : ∀ w ∈ u_ws RX5 TX5 7, w ∈ WSG := by
  have h : ∀ w ∈ u_ws RX5 TX5 7, w ∈ lw_tbl ∧ goodWord w = true := by decide +kernel
  exact fun w hw => wsg (h w hw).1 (h w hw).2
theorem iw_6 : ∀ w ∈ u_ws RX6 TX6 12, w ∈ WSG := by
  have h : ∀ w ∈ u_ws RX6 TX6 12, w ∈ lw_tbl ∧ goodWord w = true := by decide +kernel
  exact fun w hw => wsg (h w hw).1 (h w hw).2
theorem iw_7 : ∀ w ∈ u_ws RX7 TX7 8, w ∈ WSG := by
  have h : ∀ w ∈ u_ws RX7 TX7 8, w ∈ lw_tbl ∧ goodWord w = true := by decide +kernel
  exact fun w hw => wsg (h w hw).1 (h w hw).2
theorem iw_8 : ∀ w ∈ u_ws RX8 TX8 16, w ∈ WSG := by
  have h : ∀ w ∈ u_ws RX8 TX8 16, w ∈ lw_tbl ∧ goodWord w = true := by decide +kernel
  exact fun w hw => wsg (h w hw).1 (h w hw).2
theorem iw_9 : ∀ w ∈ u_ws RX9 TX9 5, w ∈ WSG := by
  have h : ∀ w ∈ u_ws RX9 TX9 5, w ∈ lw_tbl ∧ goodWord w = true := by decide +kernel
  exact fun w hw => wsg (h w hw).1 (h w hw).2
theorem iw_10 : ∀ w ∈ u_ws RX10 TX10 3, w ∈ WSG := by
  have h : ∀ w ∈ u_ws RX10 TX10 3, w ∈ lw_tbl ∧ goodWord w = true := by decide +kernel
  exact fun w hw => wsg (h w hw).1 (h w hw).2
theorem iw_11 : ∀ w ∈ u_ws RX11 TX11 16, w ∈ WSG := by
  have h : ∀ w ∈ u_ws RX11 TX11 16, w ∈ lw_tbl ∧ goodWord w = true := by decide +kernel
  exact fun w hw => wsg (h w hw).1 (h w hw).2
theorem iw_12 : ∀ w ∈ u_ws RX12 TX12 39, w ∈ WSG := by
  have h : ∀ w ∈ u_ws RX12 TX12 39, w ∈ lw_tbl ∧ goodWord w = true := by decide +kernel
  exact fun w hw => wsg (h w hw).1 (h w hw).2
theorem ft_0 : FT TX0 6 tyX0 := ⟨tyX0_ok, nmX0⟩
theorem ft_1 : FT TX1 9 tyX1 := ⟨tyX1_ok, nmX1⟩
theorem ft_2 : FT TX2 9 tyX2 := ⟨tyX2_ok, nmX2⟩
theorem ft_4 : FT TX4 4 tyX4 := ⟨tyX4_ok, nmX4⟩
theorem ft_5 : FT TX5 7 tyX5 := ⟨tyX5_ok, nmX5⟩
theorem ft_6 : FT TX6 12 tyX6 := ⟨tyX6_ok, nmX6⟩
theorem ft_7 : FT TX7 8 tyX7 := ⟨tyX7_ok, nmX7⟩
theorem ft_8 : FT TX8 16 tyX8 := ⟨tyX8_ok, nmX8⟩
theorem ft_9 : FT TX9 5 tyX9 := ⟨tyX9_ok, nmX9⟩
theorem ft_10 : FT TX10 3 tyX10 := ⟨tyX10_ok, nmX10⟩
theorem ft_11 : FT TX11 16 tyX11 := ⟨tyX11_ok, nmX11⟩
theorem ft_12 : FT TX12 39 tyX12 := ⟨tyX12_ok, nmX12⟩
theorem ff_0_0 : FF 0 0 RX0 TX0 6 0 := ⟨iw_0, rfl, by decide, by decide, rfl, by decide⟩
theorem ff_0_1 : FF 0 1 RX0 TX0 6 2 := ⟨iw_0, rfl, by decide, by decide, rfl, by decide⟩
theorem ff_0_2 : FF 0 2 RX0 TX0 6 2 := ⟨iw_0, rfl, by decide, by decide, rfl, by decide⟩
theorem ff_0_3 : FF 0 3 RX0 TX0 6 0 := ⟨iw_0, rfl, by decide, by decide, rfl, by decide⟩
theorem ff_0_4 : FF 0 4 RX0 TX0 6 0 := ⟨iw_0, rfl, by decide, by decide, rfl, by decide⟩
theorem ff_0_5 : FF 0 5 RX0 TX0 6 2 := ⟨iw_0, rfl, by decide, by decide, rfl, by decide⟩
theorem ff_1_0 : FF 1 0 RX1 TX1 9 2 := ⟨iw_1, rfl, by decide, by decide, rfl, by decide⟩
theorem ff_1_1 : FF 1 1 RX1 TX1 9 2 := ⟨iw_1, rfl, by decide, by decide, rfl, by decide⟩
theorem ff_1_2 : FF 1 2 RX1 TX1 9 2 := ⟨iw_1, rfl, by decide, by decide, rfl, by decide⟩
theorem ff_1_3 : FF 1 3 RX1 TX1 9 2 := ⟨iw_1, rfl, by decide, by decide, rfl, by decide⟩
theorem ff_1_4 : FF 1 4 RX1 TX1 9 2 := ⟨iw_1, rfl, by decide, by decide, rfl, by decide⟩
theorem ff_1_5 : FF 1 5 RX1 TX1 9 2 := ⟨iw_1, rfl, by decide, by decide, rfl, by decide⟩
theorem ff_1_6 : FF 1 6 RX1 TX1 9 2 := ⟨iw_1, rfl, by decide, by decide, rfl, by decide⟩
theorem ff_1_7 : FF 1 7 RX1 TX1 9 0 := ⟨iw_1, rfl, by decide, by decide, rfl, by decide⟩
theorem ff_1_8 : FF 1 8 RX1 TX1 9 0 := ⟨iw_1, rfl, by decide, by decide, rfl, by decide⟩
theorem ff_2_0 : FF 2 0 RX2 TX2 9 2 := ⟨iw_2, rfl, by decide, by decide, rfl, by decide⟩
theorem ff_2_1 : FF 2 1 RX2 TX2 9 2 := ⟨iw_2, rfl, by decide, by decide, rfl, by decide⟩
theorem ff_2_2 : FF 2 2 RX2 TX2 9 2 := ⟨iw_2, rfl, by decide, by decide, rfl, by decide⟩
theorem ff_2_3 : FF 2 3 RX2 TX2 9 2 := ⟨iw_2, rfl, by decide, by decide, rfl, by decide⟩
theorem ff_2_4 : FF 2 4 RX2 TX2 9 0 := ⟨iw_2, rfl, by decide, by decide, rfl, by decide⟩
theorem ff_2_5 : FF 2 5 RX2 TX2 9 2 := ⟨iw_2, rfl, by decide, by decide, rfl, by decide⟩
theorem ff_2_6 : FF 2 6 RX2 TX2 9 2 := ⟨iw_2, rfl, by decide, by decide, rfl, by decide⟩
theorem ff_2_7 : FF 2 7 RX2 TX2 9 0 := ⟨iw_2, rfl, by decide, by decide, rfl, by decide⟩
theorem ff_2_8 : FF 2 8 RX2 TX2 9 0 := ⟨iw_2, rfl, by decide, by decide, rfl, by decide⟩
theorem ff_3_0 : FF 3 0 RX3 TX3 3 2 := ⟨iw_3, rfl, by decide, by decide, rfl, by decide⟩
theorem ff_3_1 : FF 3 1 RX3 TX3 3 2 := ⟨iw_3, rfl, by decide, by decide, rfl, by decide⟩
theorem ff_3_2 : FF 3 2 RX3 TX3 3 2 := ⟨iw_3, rfl, by decide, by decide, rfl, by decide⟩
theorem ff_4_0 : FF 4 0 RX4 TX4 4 2 := ⟨iw_4, rfl, by decide, by decide, rfl, by decide⟩
theorem ff_4_1 : FF 4 1 RX4 TX4 4 0 := ⟨iw_4, rfl, by decide, by decide, rfl, by decide⟩
theorem ff_4_2 : FF 4 2 RX4 TX4 4 2 := ⟨iw_4, rfl, by decide, by decide, rfl, by decide⟩
theorem ff_4_3 : FF 4 3 RX4 TX4 4 2 := ⟨iw_4, rfl, by decide, by decide, rfl, by decide⟩
theorem ff_5_0 : FF 5 0 RX5 TX5 7 2 := ⟨iw_5, rfl, by decide, by decide, rfl, by decide⟩
theorem ff_5_1 : FF 5 1 RX5 TX5 7 2 := ⟨iw_5, rfl, by decide, by decide, rfl, by decide⟩
theorem ff_5_2 : FF 5 2 RX5 TX5 7 0 := ⟨iw_5, rfl, by decide, by decide, rfl, by decide⟩
theorem ff_5_3 : FF 5 3 RX5 TX5 7 0 := ⟨iw_5, rfl, by decide, by decide, rfl, by decide⟩
theorem ff_5_4 : FF 5 4 RX5 TX5 7 0 := ⟨iw_5, rfl, by decide, by decide, rfl, by decide⟩
theorem ff_5_5 : FF 5 5 RX5 TX5 7 0 := ⟨iw_5, rfl, by decide, by decide, rfl, by decide⟩
theorem ff_5_6 : FF 5 6 RX5 TX5 7 0 := ⟨iw_5, rfl, by decide, by decide, rfl, by decide⟩
theorem ff_6_0 : FF 6 0 RX6 TX6 12 2 := ⟨iw_6, rfl, by decide, by decide, rfl, by decide⟩
theorem ff_6_1 : FF 6 1 RX6 TX6 12 2 := ⟨iw_6, rfl, by decide, by decide, rfl, by decide⟩
theorem ff_6_2 : FF 6 2 RX6 TX6 12 2 := ⟨iw_6, rfl, by decide, by decide, rfl, by decide⟩
theorem ff_6_3 : FF 6 3 RX6 TX6 12 0 := ⟨iw_6, rfl, by decide, by decide, rfl, by decide⟩
theorem ff_6_4 : FF 6 4 RX6 TX6 12 0 := ⟨iw_6, rfl, by decide, by decide, rfl, by decide⟩
theorem ff_6_5 : FF 6 5 RX6 TX6 12 0 := ⟨iw_6, rfl, by decide, by decide, rfl, by decide⟩
theorem ff_6_6 : FF 6 6 RX6 TX6 12 0 := ⟨iw_6, rfl, by decide, by decide, rfl, by decide⟩
theorem ff_6_7 : FF 6 7 RX6 TX6 12 0 := ⟨iw_6, rfl, by decide, by decide, rfl, by decide⟩
theorem ff_6_8 : FF 6 8 RX6 TX6 12 0 := ⟨iw_6, rfl, by decide, by decide, rfl, by decide⟩
theorem ff_6_9 : FF 6 9 RX6 TX6 12 0 := ⟨iw_6, rfl, by decide, by decide, rfl, by decide⟩
theorem ff_6_10 : FF 6 10 RX6 TX6 12 0 := ⟨iw_6, rfl, by decide, by decide, rfl, by decide⟩
theorem ff_6_11 : FF 6 11 RX6 TX6 12 0 := ⟨iw_6, rfl, by decide, by decide, rfl, by decide⟩
theorem ff_7_0 : FF 7 0 RX7 TX7 8 2 := ⟨iw_7, rfl, by decide, by decide, rfl, by decide⟩
theorem ff_7_1 : FF 7 1 RX7 TX7 8 2 := ⟨iw_7, rfl, by decide, by decide, rfl, by decide⟩
theorem ff_7_2 : FF 7 2 RX7 TX7 8 2 := ⟨iw_7, rfl, by decide, by decide, rfl, by decide⟩
theorem ff_7_3 : FF 7 3 RX7 TX7 8 2 := ⟨iw_7, rfl, by decide, by decide, rfl, by decide⟩
theorem ff_7_4 : FF 7 4 RX7 TX7 8 2 := ⟨iw_7, rfl, by decide, by decide, rfl, by decide⟩
theorem ff_7_5 : FF 7 5 RX7 TX7 8 0 := ⟨iw_7, rfl, by decide, by decide, rfl, by decide⟩
theorem ff_7_6 : FF 7 6 RX7 TX7 8 0 := ⟨iw_7, rfl, by decide, by decide, rfl, by decide⟩
theorem ff_7_7 : FF 7 7 RX7 TX7 8 0 := ⟨iw_7, rfl, by decide, by decide, rfl, by decide⟩
theorem ff_8_0 : FF 8 0 RX8 TX8 16 0 := ⟨iw_8, rfl, by decide, by decide, rfl, by decide⟩
theorem ff_8_1 : FF 8 1 RX8 TX8 16 0 := ⟨iw_8, rfl, by decide, by decide, rfl, by decide⟩
theorem ff_8_2 : FF 8 2 RX8 TX8 16 0 := ⟨iw_8, rfl, by decide, by decide, rfl, by decide⟩
theorem ff_8_3 : FF 8 3 RX8 TX8 16 0 := ⟨iw_8, rfl, by decide, by decide, rfl, by decide⟩
theorem ff_8_4 : FF 8 4 RX8 TX8 16 0 := ⟨iw_8, rfl, by decide, by decide, rfl, by decide⟩
theorem ff_8_5 : FF 8 5 RX8 TX8 16 0 := ⟨iw_8, rfl, by decide, by decide, rfl, by decide⟩
theorem ff_8_6 : FF 8 6 RX8 TX8 16 0 := ⟨iw_8, rfl, by decide, by decide, rfl, by decide⟩
theorem ff_8_7 : FF 8 7 RX8 TX8 16 0 := ⟨iw_8, rfl, by decide, by decide, rfl, by decide⟩
theorem ff_8_8 : FF 8 8 RX8 TX8 16 0 := ⟨iw_8, rfl, by decide, by decide, rfl, by decide⟩
theorem ff_8_9 : FF 8 9 RX8 TX8 16 0 := ⟨iw_8, rfl, by decide, by decide, rfl, by decide⟩
theorem ff_8_10 : FF 8 10 RX8 TX8 16 0 := ⟨iw_8, rfl, by decide, by decide, rfl, by decide⟩
theorem ff_8_11 : FF 8 11 RX8 TX8 16 0 := ⟨iw_8, rfl, by decide, by decide, rfl, by decide⟩
theorem ff_8_12 : FF 8 12 RX8 TX8 16 2 := ⟨iw_8, rfl, by decide, by decide, rfl, by decide⟩
theorem ff_8_13 : FF 8 13 RX8 TX8 16 2 := ⟨iw_8, rfl, by decide, by decide, rfl, by decide⟩
theorem ff_8_14 : FF 8 14 RX8 TX8 16 2 := ⟨iw_8, rfl, by decide, by decide, rfl, by decide⟩
theorem ff_8_15 : FF 8 15 RX8 TX8 16 2 := ⟨iw_8, rfl, by decide, by decide, rfl, by decide⟩
theorem ff_9_0 : FF 9 0 RX9 TX9 5 2 := ⟨iw_9, rfl, by decide, by decide, rfl, by decide⟩
theorem ff_9_1 : FF 9 1 RX9 TX9 5 0 := ⟨iw_9, rfl, by decide, by decide, rfl, by decide⟩
theorem ff_9_2 : FF 9 2 RX9 TX9 5 0 := ⟨iw_9, rfl, by decide, by decide, rfl, by decide⟩
theorem ff_9_3 : FF 9 3 RX9 TX9 5 0 := ⟨iw_9, rfl, by decide, by decide, rfl, by decide⟩
theorem ff_9_4 : FF 9 4 RX9 TX9 5 0 := ⟨iw_9, rfl, by decide, by decide, rfl, by decide⟩
theorem ff_10_0 : FF 10 0 RX10 TX10 3 0 := ⟨iw_10, rfl, by decide, by decide, rfl, by decide⟩
theorem ff_10_1 : FF 10 1 RX10 TX10 3 0 := ⟨iw_10, rfl, by decide, by decide, rfl, by decide⟩
theorem ff_10_2 : FF 10 2 RX10 TX10 3 2 := ⟨iw_10, rfl, by decide, by decide, rfl, by decide⟩
theorem ff_11_0 : FF 11 0 RX11 TX11 16 2 := ⟨iw_11, rfl, by decide, by decide, rfl, by decide⟩
theorem ff_11_1 : FF 11 1 RX11 TX11 16 0 := ⟨iw_11, rfl, by decide, by decide, rfl, by decide⟩
theorem ff_11_2 : FF 11 2 RX11 TX11 16 2 := ⟨iw_11, rfl, by decide, by decide, rfl, by decide⟩
theorem ff_11_4 : FF 11 4 RX11 TX11 16 2 := ⟨iw_11, rfl, by decide, by decide, rfl, by decide⟩
theorem ff_11_5 : FF 11 5 RX11 TX11 16 2 := ⟨iw_11, rfl, by decide, by decide, rfl, by decide⟩
theorem ff_11_6 : FF 11 6 RX11 TX11 16 2 := ⟨iw_11, rfl, by decide, by decide, rfl, by decide⟩
theorem ff_11_7 : FF 11 7 RX11 TX11 16 2 := ⟨iw_11, rfl, by decide, by decide, rfl, by decide⟩
theorem ff_11_8 : FF 11 8 RX11 TX11 16 2 := ⟨iw_11, rfl, by decide, by decide, rfl, by decide⟩
theorem ff_12_0 : FF 12 0 RX12 TX12 39 2 := ⟨iw_12, rfl, by decide, by decide, rfl, by decide⟩
theorem ff_12_1 : FF 12 1 RX12 TX12 39 2 := ⟨iw_12, rfl, by decide, by decide, rfl, by decide⟩
theorem ff_12_2 : FF 12 2 RX12 TX12 39 2 := ⟨iw_12, rfl, by decide, by decide, rfl, by decide⟩
theorem ff_12_3 : FF 12 3 RX12 TX12 39 2 := ⟨iw_12, rfl, by decide, by decide, rfl, by decide⟩
theorem ff_12_4 : FF 12 4 RX12 TX12 39 2 := ⟨iw_12, rfl, by decide, by decide, rfl, by decide⟩
theorem ff_12_5 : FF 12 5 RX12 TX12 39 0 := ⟨iw_12, rfl, by decide, by decide, rfl, by decide⟩
theorem ff_12_6 : FF 12 6 RX12 TX12 39 2 := ⟨iw_12, rfl, by decide, by decide, rfl, by decide⟩
theorem ff_12_7 : FF 12 7 RX12 TX12 39 0 := ⟨iw_12, rfl, by decide, by decide, rfl, by decide⟩
theorem ff_12_8 : FF 12 8 RX12 TX12 39 0 := ⟨iw_12, rfl, by decide, by decide, rfl, by decide⟩
theorem ff_12_9 : FF 12 9 RX12 TX12 39 0 := ⟨iw_12, rfl, by decide, by decide, rfl, by decide⟩
theorem ff_12_10 : FF 12 10 RX12 TX12 39 0 := ⟨iw_12, rfl, by decide, by decide, rfl, by decide⟩
theorem ff_12_11 : FF 12 11 RX12 TX12 39 0 := ⟨iw_12, rfl, by decide, by decide, rfl, by decide⟩
theorem ff_12_12 : FF 12 12 RX12 TX12 39 0 := ⟨iw_12, rfl, by decide, by decide, rfl, by decide⟩
theorem ff_12_13 : FF 12 13 RX12 TX12 39 0 := ⟨iw_12, rfl, by decide, by decide, rfl, by decide⟩
theorem ff_12_14 : FF 12 14 RX12 TX12 39 0 := ⟨iw_12, rfl, by decide, by decide, rfl, by decide⟩
theorem ff_12_15 : FF 12 15 RX12 TX12 39 0 := ⟨iw_12, rfl, by decide, by decide, rfl, by decide⟩
theorem ff_12_16 : FF 12 16 RX12 TX12 39 0 := ⟨iw_12, rfl, by decide, by decide, rfl, by decide⟩
theorem ff_12_17 : FF 12 17 RX12 TX12 39 0 := ⟨iw_12, rfl, by decide, by decide, rfl, by decide⟩
theorem ff_12_18 : FF 12 18 RX12 TX12 39 2 := ⟨iw_12, rfl, by decide, by decide, rfl, by decide⟩
theorem ff_12_19 : FF 12 19 RX12 TX12 39 2 := ⟨iw_12, rfl, by decide, by decide, rfl, by decide⟩
theorem ff_12_20 : FF 12 20 RX12 TX12 39 2 := ⟨iw_12, rfl, by decide, by decide, rfl, by decide⟩
theorem ff_12_21 : FF 12 21 RX12 TX12 39 2 := ⟨iw_12, rfl, by decide, by decide, rfl, by decide⟩
theorem ff_12_22 : FF 12 22 RX12 TX12 39 2 := ⟨iw_12, rfl, by decide, by decide, rfl, by decide⟩
theorem ff_12_23 : FF 12 23 RX12 TX12 39 2 := ⟨iw_12, rfl, by decide, by decide, rfl, by decide⟩
theorem ff_12_24 : FF 12 24 RX12 TX12 39 2 := ⟨iw_12, rfl, by decide, by decide, rfl, by decide⟩
theorem ff_12_25 : FF 12 25 RX12 TX12 39 2 := ⟨iw_12, rfl, by decide, by decide, rfl, by decide⟩
theorem ff_12_26 : FF 12 26 RX12 TX12 39 2 := ⟨iw_12, rfl, by decide, by decide, rfl, by decide⟩
theorem ff_12_27 : FF 12 27 RX12 TX12 39 2 := ⟨iw_12, rfl, by decide, by decide, rfl, by decide⟩
theorem ff_12_28 : FF 12 28 RX12 TX12 39 2 := ⟨iw_12, rfl, by decide, by decide, rfl, by decide⟩
theorem ff_12_29 : FF 12 29 RX12 TX12 39 0 := ⟨iw_12, rfl, by decide, by decide, rfl, by decide⟩
theorem ff_12_30 : FF 12 30 RX12 TX12 39 2 := ⟨iw_12, rfl, by decide, by decide, rfl, by decide⟩
theorem ff_12_31 : FF 12 31 RX12 TX12 39 2 := ⟨iw_12, rfl, by decide, by decide, rfl, by decide⟩
theorem ff_12_32 : FF 12 32 RX12 TX12 39 2 := ⟨iw_12, rfl, by decide, by decide, rfl, by decide⟩
theorem ff_12_33 : FF 12 33 RX12 TX12 39 0 := ⟨iw_12, rfl, by decide, by decide, rfl, by decide⟩
theorem ff_12_34 : FF 12 34 RX12 TX12 39 0 := ⟨iw_12, rfl, by decide, by decide, rfl, by decide⟩
theorem ff_12_35 : FF 12 35 RX12 TX12 39 2 := ⟨iw_12, rfl, by decide, by decide, rfl, by decide⟩
theorem ff_12_36 : FF 12 36 RX12 TX12 39 2 := ⟨iw_12, rfl, by decide, by decide, rfl, by decide⟩
theorem ff_12_37 : FF 12 37 RX12 TX12 39 2 := ⟨iw_12, rfl, by decide, by decide, rfl, by decide⟩
theorem ff_12_38 : FF 12 38 RX12 TX12 39 2 := ⟨iw_12, rfl, by decide, by decide, rfl, by decide⟩
theorem rk_0_1 (i : Nat) (h : (kd i).1 = 0) : kd (rt i 1) = (13, 10) := by
  have hh : ∀ i, i < NC → (kd i).1 = 0 → kd (rt i 1) = (13, 10) := by decide +kernel
  exact hh i (kd_lt h (by decide)) h
theorem rk_0_2 (i : Nat) (h : (kd i).1 = 0) : kd (rt i 2) = (13, 6) := by
  have hh : ∀ i, i < NC → (kd i).1 = 0 → kd (rt i 2) = (13, 6) := by decide +kernel
  exact hh i (kd_lt h (by decide)) h
theorem rk_0_5 (i : Nat) (h : (kd i).1 = 0) : kd (rt i 5) = (17, 10) := by
  have hh : ∀ i, i < NC → (kd i).1 = 0 → kd (rt i 5) = (17, 10) := by decide +kernel
  exact hh i (kd_lt h (by decide)) h
theorem re_0_5 (i : Nat) (h : (kd i).1 = 0) : ∀ q, q < 10 → kd (rt (rt i 5) q) = (13, 17) := by
  have hh : ∀ i, i < NC → (kd i).1 = 0 → ∀ q, q < 10 → kd (rt (rt i 5) q) = (13, 17) := by decide +kernel
  exact hh i (kd_lt h (by decide)) h
theorem rk_1_0 (i : Nat) (h : (kd i).1 = 1) : kd (rt i 0) = (8, 0) := by
  have hh : ∀ i, i < NC → (kd i).1 = 1 → kd (rt i 0) = (8, 0) := by decide +kernel
  exact hh i (kd_lt h (by decide)) h
theorem rk_1_1 (i : Nat) (h : (kd i).1 = 1) : kd (rt i 1) = (2, 0) := by
  have hh : ∀ i, i < NC → (kd i).1 = 1 → kd (rt i 1) = (2, 0) := by decide +kernel
  exact hh i (kd_lt h (by decide)) h
theorem rk_1_2 (i : Nat) (h : (kd i).1 = 1) : kd (rt i 2) = (13, 5) := by
  have hh : ∀ i, i < NC → (kd i).1 = 1 → kd (rt i 2) = (13, 5) := by decide +kernel
  exact hh i (kd_lt h (by decide)) h
theorem rk_1_3 (i : Nat) (h : (kd i).1 = 1) : kd (rt i 3) = (13, 5) := by
  have hh : ∀ i, i < NC → (kd i).1 = 1 → kd (rt i 3) = (13, 5) := by decide +kernel
  exact hh i (kd_lt h (by decide)) h
theorem rk_1_4 (i : Nat) (h : (kd i).1 = 1) : kd (rt i 4) = (13, 32) := by
  have hh : ∀ i, i < NC → (kd i).1 = 1 → kd (rt i 4) = (13, 32) := by decide +kernel
  exact hh i (kd_lt h (by decide)) h
theorem rk_1_5 (i : Nat) (h : (kd i).1 = 1) : kd (rt i 5) = (17, 25) := by
  have hh : ∀ i, i < NC → (kd i).1 = 1 → kd (rt i 5) = (17, 25) := by decide +kernel
  exact hh i (kd_lt h (by decide)) h
theorem re_1_5 (i : Nat) (h : (kd i).1 = 1) : ∀ q, q < 25 → kd (rt (rt i 5) q) = (13, 14) := by
  have hh : ∀ i, i < NC → (kd i).1 = 1 → ∀ q, q < 25 → kd (rt (rt i 5) q) = (13, 14) := by decide +kernel
  exact hh i (kd_lt h (by decide)) h
theorem rk_1_6 (i : Nat) (h : (kd i).1 = 1) : kd (rt i 6) = (13, 25) := by
  have hh : ∀ i, i < NC → (kd i).1 = 1 → kd (rt i 6) = (13, 25) := by decide +kernel
  exact hh i (kd_lt h (by decide)) h
theorem rk_2_0 (i : Nat) (h : (kd i).1 = 2) : kd (rt i 0) = (8, 0) := by
  have hh : ∀ i, i < NC → (kd i).1 = 2 → kd (rt i 0) = (8, 0) := by decide +kernel
  exact hh i (kd_lt h (by decide)) h
theorem rk_2_1 (i : Nat) (h : (kd i).1 = 2) : kd (rt i 1) = (0, 0) := by
  have hh : ∀ i, i < NC → (kd i).1 = 2 → kd (rt i 1) = (0, 0) := by decide +kernel
  exact hh i (kd_lt h (by decide)) h
theorem rk_2_2 (i : Nat) (h : (kd i).1 = 2) : kd (rt i 2) = (3, 0) := by
  have hh : ∀ i, i < NC → (kd i).1 = 2 → kd (rt i 2) = (3, 0) := by decide +kernel
  exact hh i (kd_lt h (by decide)) h
theorem rk_2_3 (i : Nat) (h : (kd i).1 = 2) : kd (rt i 3) = (13, 4096) := by
  have hh : ∀ i, i < NC → (kd i).1 = 2 → kd (rt i 3) = (13, 4096) := by decide +kernel
  exact hh i (kd_lt h (by decide)) h
theorem rk_2_5 (i : Nat) (h : (kd i).1 = 2) : kd (rt i 5) = (13, 1024) := by
  have hh : ∀ i, i < NC → (kd i).1 = 2 → kd (rt i 5) = (13, 1024) := by decide +kernel
  exact hh i (kd_lt h (by decide)) h
theorem rk_2_6 (i : Nat) (h : (kd i).1 = 2) : kd (rt i 6) = (13, 1024) := by
  have hh : ∀ i, i < NC → (kd i).1 = 2 → kd (rt i 6) = (13, 1024) := by decide +kernel
  exact hh i (kd_lt h (by decide)) h
theorem rk_3_0 (i : Nat) (h : (kd i).1 = 3) : kd (rt i 0) = (8, 0) := by
  have hh : ∀ i, i < NC → (kd i).1 = 3 → kd (rt i 0) = (8, 0) := by decide +kernel
  exact hh i (kd_lt h (by decide)) h
theorem rk_3_1 (i : Nat) (h : (kd i).1 = 3) : kd (rt i 1) = (13, 4096) := by
  have hh : ∀ i, i < NC → (kd i).1 = 3 → kd (rt i 1) = (13, 4096) := by decide +kernel
  exact hh i (kd_lt h (by decide)) h
theorem rk_3_2 (i : Nat) (h : (kd i).1 = 3) : kd (rt i 2) = (13, 900) := by
  have hh : ∀ i, i < NC → (kd i).1 = 3 → kd (rt i 2) = (13, 900) := by decide +kernel
  exact hh i (kd_lt h (by decide)) h
theorem rk_4_0 (i : Nat) (h : (kd i).1 = 4) : kd (rt i 0) = (13, 6) := by
  have hh : ∀ i, i < NC → (kd i).1 = 4 → kd (rt i 0) = (13, 6) := by decide +kernel
  exact hh i (kd_lt h (by decide)) h
theorem rk_4_2 (i : Nat) (h : (kd i).1 = 4) : kd (rt i 2) = (18, 7) := by
  have hh : ∀ i, i < NC → (kd i).1 = 4 → kd (rt i 2) = (18, 7) := by decide +kernel
  exact hh i (kd_lt h (by decide)) h
theorem re_4_2 (i : Nat) (h : (kd i).1 = 4) : ∀ q, q < 7 → kd (rt (rt i 2) q) = (16, 7) := by
  have hh : ∀ i, i < NC → (kd i).1 = 4 → ∀ q, q < 7 → kd (rt (rt i 2) q) = (16, 7) := by decide +kernel
  exact hh i (kd_lt h (by decide)) h
theorem rk_4_3 (i : Nat) (h : (kd i).1 = 4) : kd (rt i 3) = (16, 7) := by
  have hh : ∀ i, i < NC → (kd i).1 = 4 → kd (rt i 3) = (16, 7) := by decide +kernel
  exact hh i (kd_lt h (by decide)) h
theorem rk_5_0 (i : Nat) (h : (kd i).1 = 5) : kd (rt i 0) = (8, 0) := by
  have hh : ∀ i, i < NC → (kd i).1 = 5 → kd (rt i 0) = (8, 0) := by decide +kernel
  exact hh i (kd_lt h (by decide)) h
theorem rk_5_1 (i : Nat) (h : (kd i).1 = 5) : kd (rt i 1) = (13, 12) := by
  have hh : ∀ i, i < NC → (kd i).1 = 5 → kd (rt i 1) = (13, 12) := by decide +kernel
  exact hh i (kd_lt h (by decide)) h
theorem rk_6_0 (i : Nat) (h : (kd i).1 = 6) : kd (rt i 0) = (9, 0) := by
  have hh : ∀ i, i < NC → (kd i).1 = 6 → kd (rt i 0) = (9, 0) := by decide +kernel
  exact hh i (kd_lt h (by decide)) h
theorem rk_6_1 (i : Nat) (h : (kd i).1 = 6) : kd (rt i 1) = (8, 0) := by
  have hh : ∀ i, i < NC → (kd i).1 = 6 → kd (rt i 1) = (8, 0) := by decide +kernel
  exact hh i (kd_lt h (by decide)) h
theorem rk_6_2 (i : Nat) (h : (kd i).1 = 6) : kd (rt i 2) = (13, 900) := by
  have hh : ∀ i, i < NC → (kd i).1 = 6 → kd (rt i 2) = (13, 900) := by decide +kernel
  exact hh i (kd_lt h (by decide)) h
theorem rk_7_0 (i : Nat) (h : (kd i).1 = 7) : kd (rt i 0) = (8, 0) := by
  have hh : ∀ i, i < NC → (kd i).1 = 7 → kd (rt i 0) = (8, 0) := by decide +kernel
  exact hh i (kd_lt h (by decide)) h
theorem rk_7_1 (i : Nat) (h : (kd i).1 = 7) : kd (rt i 1) = (0, 0) := by
  have hh : ∀ i, i < NC → (kd i).1 = 7 → kd (rt i 1) = (0, 0) := by decide +kernel
  exact hh i (kd_lt h (by decide)) h
theorem rk_7_2 (i : Nat) (h : (kd i).1 = 7) : kd (rt i 2) = (2, 0) := by
  have hh : ∀ i, i < NC → (kd i).1 = 7 → kd (rt i 2) = (2, 0) := by decide +kernel
  exact hh i (kd_lt h (by decide)) h
theorem rk_7_3 (i : Nat) (h : (kd i).1 = 7) : kd (rt i 3) = (13, 10) := by
  have hh : ∀ i, i < NC → (kd i).1 = 7 → kd (rt i 3) = (13, 10) := by decide +kernel
  exact hh i (kd_lt h (by decide)) h
theorem rk_7_4 (i : Nat) (h : (kd i).1 = 7) : kd (rt i 4) = (13, 10) := by
  have hh : ∀ i, i < NC → (kd i).1 = 7 → kd (rt i 4) = (13, 10) := by decide +kernel
  exact hh i (kd_lt h (by decide)) h
theorem rk_8_12 (i : Nat) (h : (kd i).1 = 8) : kd (rt i 12) = (13, 10) := by
  have hh : ∀ i, i < NC → (kd i).1 = 8 → kd (rt i 12) = (13, 10) := by decide +kernel
  exact hh i (kd_lt h (by decide)) h
theorem rk_8_13 (i : Nat) (h : (kd i).1 = 8) : kd (rt i 13) = (13, 10) := by
  have hh : ∀ i, i < NC → (kd i).1 = 8 → kd (rt i 13) = (13, 10) := by decide +kernel
  exact hh i (kd_lt h (by decide)) h
theorem rk_8_14 (i : Nat) (h : (kd i).1 = 8) : kd (rt i 14) = (13, 11) := by
  have hh : ∀ i, i < NC → (kd i).1 = 8 → kd (rt i 14) = (13, 11) := by decide +kernel
  exact hh i (kd_lt h (by decide)) h
theorem rk_8_15 (i : Nat) (h : (kd i).1 = 8) : kd (rt i 15) = (13, 900) := by
  have hh : ∀ i, i < NC → (kd i).1 = 8 → kd (rt i 15) = (13, 900) := by decide +kernel
  exact hh i (kd_lt h (by decide)) h
theorem rk_9_0 (i : Nat) (h : (kd i).1 = 9) : kd (rt i 0) = (14, 900) := by
  have hh : ∀ i, i < NC → (kd i).1 = 9 → kd (rt i 0) = (14, 900) := by decide +kernel
  exact hh i (kd_lt h (by decide)) h
theorem rk_10_2 (i : Nat) (h : (kd i).1 = 10) : kd (rt i 2) = (16, 30) := by
  have hh : ∀ i, i < NC → (kd i).1 = 10 → kd (rt i 2) = (16, 30) := by decide +kernel
  exact hh i (kd_lt h (by decide)) h
theorem rk_11_0 (i : Nat) (h : (kd i).1 = 11) : kd (rt i 0) = (14, 900) := by
  have hh : ∀ i, i < NC → (kd i).1 = 11 → kd (rt i 0) = (14, 900) := by decide +kernel
  exact hh i (kd_lt h (by decide)) h
theorem rk_11_2 (i : Nat) (h : (kd i).1 = 11) : kd (rt i 2) = (8, 0) := by
  have hh : ∀ i, i < NC → (kd i).1 = 11 → kd (rt i 2) = (8, 0) := by decide +kernel
  exact hh i (kd_lt h (by decide)) h
theorem rk_11_4 (i : Nat) (h : (kd i).1 = 11) : kd (rt i 4) = (6, 0) := by
  have hh : ∀ i, i < NC → (kd i).1 = 11 → kd (rt i 4) = (6, 0) := by decide +kernel
  exact hh i (kd_lt h (by decide)) h
theorem rk_11_5 (i : Nat) (h : (kd i).1 = 11) : kd (rt i 5) = (0, 0) := by
  have hh : ∀ i, i < NC → (kd i).1 = 11 → kd (rt i 5) = (0, 0) := by decide +kernel
  exact hh i (kd_lt h (by decide)) h
theorem rk_11_6 (i : Nat) (h : (kd i).1 = 11) : kd (rt i 6) = (3, 0) := by
  have hh : ∀ i, i < NC → (kd i).1 = 11 → kd (rt i 6) = (3, 0) := by decide +kernel
  exact hh i (kd_lt h (by decide)) h
theorem rk_11_7 (i : Nat) (h : (kd i).1 = 11) : kd (rt i 7) = (2, 0) := by
  have hh : ∀ i, i < NC → (kd i).1 = 11 → kd (rt i 7) = (2, 0) := by decide +kernel
  exact hh i (kd_lt h (by decide)) h
theorem rk_11_8 (i : Nat) (h : (kd i).1 = 11) : kd (rt i 8) = (7, 0) := by
  have hh : ∀ i, i < NC → (kd i).1 = 11 → kd (rt i 8) = (7, 0) := by decide +kernel
  exact hh i (kd_lt h (by decide)) h
theorem rk_12_0 (i : Nat) (h : (kd i).1 = 12) : kd (rt i 0) = (13, 1200) := by
  have hh : ∀ i, i < NC → (kd i).1 = 12 → kd (rt i 0) = (13, 1200) := by decide +kernel
  exact hh i (kd_lt h (by decide)) h
theorem rk_12_1 (i : Nat) (h : (kd i).1 = 12) : kd (rt i 1) = (13, 1200) := by
  have hh : ∀ i, i < NC → (kd i).1 = 12 → kd (rt i 1) = (13, 1200) := by decide +kernel
  exact hh i (kd_lt h (by decide)) h
theorem rk_12_2 (i : Nat) (h : (kd i).1 = 12) : kd (rt i 2) = (13, 3600) := by
  have hh : ∀ i, i < NC → (kd i).1 = 12 → kd (rt i 2) = (13, 3600) := by decide +kernel
  exact hh i (kd_lt h (by decide)) h
theorem rk_12_3 (i : Nat) (h : (kd i).1 = 12) : kd (rt i 3) = (13, 17) := by
  have hh : ∀ i, i < NC → (kd i).1 = 12 → kd (rt i 3) = (13, 17) := by decide +kernel
  exact hh i (kd_lt h (by decide)) h
theorem rk_12_4 (i : Nat) (h : (kd i).1 = 12) : kd (rt i 4) = (15, 3) := by
  have hh : ∀ i, i < NC → (kd i).1 = 12 → kd (rt i 4) = (15, 3) := by decide +kernel
  exact hh i (kd_lt h (by decide)) h
theorem rk_12_6 (i : Nat) (h : (kd i).1 = 12) : kd (rt i 6) = (13, 900) := by
  have hh : ∀ i, i < NC → (kd i).1 = 12 → kd (rt i 6) = (13, 900) := by decide +kernel
  exact hh i (kd_lt h (by decide)) h
theorem rk_12_18 (i : Nat) (h : (kd i).1 = 12) : kd (rt i 18) = (15, 40960) := by
  have hh : ∀ i, i < NC → (kd i).1 = 12 → kd (rt i 18) = (15, 40960) := by decide +kernel
  exact hh i (kd_lt h (by decide)) h
theorem rk_12_19 (i : Nat) (h : (kd i).1 = 12) : kd (rt i 19) = (13, 4096) := by
  have hh : ∀ i, i < NC → (kd i).1 = 12 → kd (rt i 19) = (13, 4096) := by decide +kernel
  exact hh i (kd_lt h (by decide)) h
theorem rk_12_20 (i : Nat) (h : (kd i).1 = 12) : kd (rt i 20) = (13, 64) := by
  have hh : ∀ i, i < NC → (kd i).1 = 12 → kd (rt i 20) = (13, 64) := by decide +kernel
  exact hh i (kd_lt h (by decide)) h
theorem rk_12_21 (i : Nat) (h : (kd i).1 = 12) : kd (rt i 21) = (13, 4096) := by
  have hh : ∀ i, i < NC → (kd i).1 = 12 → kd (rt i 21) = (13, 4096) := by decide +kernel
  exact hh i (kd_lt h (by decide)) h
theorem rk_12_22 (i : Nat) (h : (kd i).1 = 12) : kd (rt i 22) = (15, 1024) := by
  have hh : ∀ i, i < NC → (kd i).1 = 12 → kd (rt i 22) = (15, 1024) := by decide +kernel
  exact hh i (kd_lt h (by decide)) h
theorem rk_12_23 (i : Nat) (h : (kd i).1 = 12) : kd (rt i 23) = (13, 1024) := by
  have hh : ∀ i, i < NC → (kd i).1 = 12 → kd (rt i 23) = (13, 1024) := by decide +kernel
  exact hh i (kd_lt h (by decide)) h
theorem rk_12_24 (i : Nat) (h : (kd i).1 = 12) : kd (rt i 24) = (13, 10) := by
  have hh : ∀ i, i < NC → (kd i).1 = 12 → kd (rt i 24) = (13, 10) := by decide +kernel
  exact hh i (kd_lt h (by decide)) h
theorem rk_12_25 (i : Nat) (h : (kd i).1 = 12) : kd (rt i 25) = (13, 10) := by
  have hh : ∀ i, i < NC → (kd i).1 = 12 → kd (rt i 25) = (13, 10) := by decide +kernel
  exact hh i (kd_lt h (by decide)) h
theorem rk_12_26 (i : Nat) (h : (kd i).1 = 12) : kd (rt i 26) = (13, 10) := by
  have hh : ∀ i, i < NC → (kd i).1 = 12 → kd (rt i 26) = (13, 10) := by decide +kernel
  exact hh i (kd_lt h (by decide)) h
theorem rk_12_27 (i : Nat) (h : (kd i).1 = 12) : kd (rt i 27) = (13, 3) := by
  have hh : ∀ i, i < NC → (kd i).1 = 12 → kd (rt i 27) = (13, 3) := by decide +kernel
  exact hh i (kd_lt h (by decide)) h
theorem rk_12_28 (i : Nat) (h : (kd i).1 = 12) : kd (rt i 28) = (13, 3) := by
  have hh : ∀ i, i < NC → (kd i).1 = 12 → kd (rt i 28) = (13, 3) := by decide +kernel
  exact hh i (kd_lt h (by decide)) h
theorem rk_12_30 (i : Nat) (h : (kd i).1 = 12) : kd (rt i 30) = (16, 2496) := by
  have hh : ∀ i, i < NC → (kd i).1 = 12 → kd (rt i 30) = (16, 2496) := by decide +kernel
  exact hh i (kd_lt h (by decide)) h
theorem rk_12_31 (i : Nat) (h : (kd i).1 = 12) : kd (rt i 31) = (13, 25) := by
  have hh : ∀ i, i < NC → (kd i).1 = 12 → kd (rt i 31) = (13, 25) := by decide +kernel
  exact hh i (kd_lt h (by decide)) h
theorem rk_12_32 (i : Nat) (h : (kd i).1 = 12) : kd (rt i 32) = (13, 25) := by
  have hh : ∀ i, i < NC → (kd i).1 = 12 → kd (rt i 32) = (13, 25) := by decide +kernel
  exact hh i (kd_lt h (by decide)) h
theorem rk_12_35 (i : Nat) (h : (kd i).1 = 12) : kd (rt i 35) = (16, 49) := by
  have hh : ∀ i, i < NC → (kd i).1 = 12 → kd (rt i 35) = (16, 49) := by decide +kernel
  exact hh i (kd_lt h (by decide)) h
theorem rk_12_36 (i : Nat) (h : (kd i).1 = 12) : kd (rt i 36) = (13, 4) := by
  have hh : ∀ i, i < NC → (kd i).1 = 12 → kd (rt i 36) = (13, 4) := by decide +kernel
  exact hh i (kd_lt h (by decide)) h
theorem rk_12_37 (i : Nat) (h : (kd i).1 = 12) : kd (rt i 37) = (13, 4) := by
  have hh : ∀ i, i < NC → (kd i).1 = 12 → kd (rt i 37) = (13, 4) := by decide +kernel
  exact hh i (kd_lt h (by decide)) h
theorem rk_12_38 (i : Nat) (h : (kd i).1 = 12) : kd (rt i 38) = (16, 120) := by
  have hh : ∀ i, i < NC → (kd i).1 = 12 → kd (rt i 38) = (16, 120) := by decide +kernel
  exact hh i (kd_lt h (by decide)) h

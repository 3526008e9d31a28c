def WSG : List Cond := lw_tbl.filter goodWord
theorem wsg {w : Cond} (h : w ∈ lw_tbl) (hg : goodWord w = true) : w ∈ WSG := List.mem_filter.mpr ⟨h, hg⟩
theorem wsg_good {w : Cond} (h : w ∈ WSG) : goodWord w = true := (List.mem_filter.mp h).2
theorem lk {w : Cond} (i : Nat) (h : lw_tbl[i]? = some w) (hg : goodWord w = true) : w ∈ WSG := wsg (List.mem_of_getElem? h) hg
theorem lkS {w : Cond} (i : Nat) (h : (k2_sels lw_privs)[i]? = some w) (hg : goodWord w = true) : w ∈ WSG := wsg (List.mem_append_left _ (List.mem_of_getElem? h)) hg
theorem lkT1 {w : Cond} (i : Nat) (h : tables_1_1[i]? = some w) (hg : goodWord w = true) : w ∈ WSG := wsg (List.mem_append_right _ (by unfold tables_1; exact List.mem_append_left _ (List.mem_of_getElem? h))) hg
theorem lkT2 {w : Cond} (i : Nat) (h : tables_1_2[i]? = some w) (hg : goodWord w = true) : w ∈ WSG := wsg (List.mem_append_right _ (by unfold tables_1; exact List.mem_append_right _ (List.mem_append_left _ (List.mem_of_getElem? h)))) hg
theorem lkT3 {w : Cond} (i : Nat) (h : tables_1_3[i]? = some w) (hg : goodWord w = true) : w ∈ WSG := wsg (List.mem_append_right _ (by unfold tables_1; exact List.mem_append_right _ (List.mem_append_right _ (List.mem_append_left _ (List.mem_of_getElem? h))))) hg
theorem lkT4 {w : Cond} (i : Nat) (h : tables_1_4[i]? = some w) (hg : goodWord w = true) : w ∈ WSG := wsg (List.mem_append_right _ (by unfold tables_1; exact List.mem_append_right _ (List.mem_append_right _ (List.mem_append_right _ (List.mem_append_left _ (List.mem_of_getElem? h)))))) hg
theorem lkT5 {w : Cond} (i : Nat) (h : tables_1_5[i]? = some w) (hg : goodWord w = true) : w ∈ WSG := wsg (List.mem_append_right _ (by unfold tables_1; exact List.mem_append_right _ (List.mem_append_right _ (List.mem_append_right _ (List.mem_append_right _ (List.mem_append_left _ (List.mem_of_getElem? h))))))) hg
theorem lkT6 {w : Cond} (i : Nat) (h : tables_1_6[i]? = some w) (hg : goodWord w = true) : w ∈ WSG := wsg (List.mem_append_right _ (by unfold tables_1; exact List.mem_append_right _ (List.mem_append_right _ (List.mem_append_right _ (List.mem_append_right _ (List.mem_append_right _ (List.mem_append_left _ (List.mem_of_getElem? h)))))))) hg
theorem lkT7 {w : Cond} (i : Nat) (h : tables_1_7[i]? = some w) (hg : goodWord w = true) : w ∈ WSG := wsg (List.mem_append_right _ (by unfold tables_1; exact List.mem_append_right _ (List.mem_append_right _ (List.mem_append_right _ (List.mem_append_right _ (List.mem_append_right _ (List.mem_append_right _ (List.mem_append_left _ (List.mem_of_getElem? h))))))))) hg
theorem lkT8 {w : Cond} (i : Nat) (h : tables_1_8[i]? = some w) (hg : goodWord w = true) : w ∈ WSG := wsg (List.mem_append_right _ (by unfold tables_1; exact List.mem_append_right _ (List.mem_append_right _ (List.mem_append_right _ (List.mem_append_right _ (List.mem_append_right _ (List.mem_append_right _ (List.mem_append_right _ (List.mem_append_left _ (List.mem_of_getElem? h)))))))))) hg
theorem lkT9 {w : Cond} (i : Nat) (h : tables_1_9[i]? = some w) (hg : goodWord w = true) : w ∈ WSG := wsg (List.mem_append_right _ (by unfold tables_1; exact List.mem_append_right _ (List.mem_append_right _ (List.mem_append_right _ (List.mem_append_right _ (List.mem_append_right _ (List.mem_append_right _ (List.mem_append_right _ (List.mem_append_right _ (List.mem_append_left _ (List.mem_of_getElem? h))))))))))) hg
theorem lkT10 {w : Cond} (i : Nat) (h : tables_1_10[i]? = some w) (hg : goodWord w = true) : w ∈ WSG := wsg (List.mem_append_right _ (by unfold tables_1; exact List.mem_append_right _ (List.mem_append_right _ (List.mem_append_right _ (List.mem_append_right _ (List.mem_append_right _ (List.mem_append_right _ (List.mem_append_right _ (List.mem_append_right _ (List.mem_append_right _ (List.mem_of_getElem? h))))))))))) hg
set_option maxRecDepth 20000 in
theorem lk_0 : Cond.selects RX11 yX11_lay yX11_lay ∈ WSG := lkS 0 rfl rfl
set_option maxRecDepth 20000 in
theorem lk_1 : Cond.selects RX3 yX3_truthOf yX3_truthOf ∈ WSG := lkS 1 rfl rfl
set_option maxRecDepth 20000 in
theorem lk_2 : Cond.selects RX2 yX2_settle yX2_settle ∈ WSG := lkS 2 rfl rfl
set_option maxRecDepth 20000 in
theorem lk_3 : Cond.selects RX2 yX2_spread yX2_spread ∈ WSG := lkS 3 rfl rfl
set_option maxRecDepth 20000 in
theorem lk_4 : Cond.selects RX2 yX2_nightsFor yX2_nightsFor ∈ WSG := lkS 4 rfl rfl
set_option maxRecDepth 20000 in
theorem lk_5 : Cond.selects RX2 yX2_areTogether yX2_areTogether ∈ WSG := lkS 5 rfl rfl
set_option maxRecDepth 20000 in
theorem lk_6 : Cond.selects RX7 yX7_sayAsItIs yX7_sayAsItIs ∈ WSG := lkS 6 rfl rfl
set_option maxRecDepth 20000 in
theorem lk_7 : Cond.selects RX7 yX7_serve yX7_serve ∈ WSG := lkS 7 rfl rfl
set_option maxRecDepth 20000 in
theorem lk_8 : Cond.selects RX7 yX7_firstOf yX7_firstOf ∈ WSG := lkS 8 rfl rfl
set_option maxRecDepth 20000 in
theorem lk_9 : Cond.selects RX7 yX7_turnOf yX7_turnOf ∈ WSG := lkS 9 rfl rfl
set_option maxRecDepth 20000 in
theorem lk_10 : Cond.selects RX7 yX7_openOf yX7_openOf ∈ WSG := lkS 10 rfl rfl
set_option maxRecDepth 20000 in
theorem lk_11 : Cond.selects RX11 yX11_makeNight yX11_makeNight ∈ WSG := lkS 11 rfl rfl
set_option maxRecDepth 20000 in
theorem lk_13 : Cond.selects RX9 yX9_runEnd yX9_runEnd ∈ WSG := lkS 13 rfl rfl
set_option maxRecDepth 20000 in
theorem lk_14 : Cond.selects RX6 yX6_readSky yX6_readSky ∈ WSG := lkS 14 rfl rfl
set_option maxRecDepth 20000 in
theorem lk_15 : Cond.selects RX6 yX6_take yX6_take ∈ WSG := lkS 15 rfl rfl
set_option maxRecDepth 20000 in
theorem lk_16 : Cond.selects RX6 yX6_refuse yX6_refuse ∈ WSG := lkS 16 rfl rfl
set_option maxRecDepth 20000 in
theorem lk_17 : Cond.selects RX6 yX6_takeNumber yX6_takeNumber ∈ WSG := lkS 17 rfl rfl
set_option maxRecDepth 20000 in
theorem lk_18 : Cond.selects RX6 yX6_endLine yX6_endLine ∈ WSG := lkS 18 rfl rfl
set_option maxRecDepth 20000 in
theorem lk_19 : Cond.selects RX6 yX6_readLine yX6_readLine ∈ WSG := lkS 19 rfl rfl
set_option maxRecDepth 20000 in
theorem lk_20 : Cond.selects RX6 yX6_readWish yX6_readWish ∈ WSG := lkS 20 rfl rfl
set_option maxRecDepth 20000 in
theorem lk_21 : Cond.selects RX6 yX6_readOperand yX6_readOperand ∈ WSG := lkS 21 rfl rfl
set_option maxRecDepth 20000 in
theorem lk_22 : Cond.selects RX6 yX6_open yX6_open ∈ WSG := lkS 22 rfl rfl
set_option maxRecDepth 20000 in
theorem lk_23 : Cond.selects RX6 yX6_await yX6_await ∈ WSG := lkS 23 rfl rfl
set_option maxRecDepth 20000 in
theorem lk_24 : Cond.selects RX6 yX6_readAtom yX6_readAtom ∈ WSG := lkS 24 rfl rfl
set_option maxRecDepth 20000 in
theorem lk_25 : Cond.selects RX6 yX6_readOperator yX6_readOperator ∈ WSG := lkS 25 rfl rfl
set_option maxRecDepth 20000 in
theorem lk_26 : Cond.selects RX6 yX6_arithmeticSign yX6_arithmeticSign ∈ WSG := lkS 26 rfl rfl
set_option maxRecDepth 20000 in
theorem lk_27 : Cond.selects RX6 yX6_join yX6_join ∈ WSG := lkS 27 rfl rfl
set_option maxRecDepth 20000 in
theorem lk_28 : Cond.selects RX6 yX6_settleDownTo yX6_settleDownTo ∈ WSG := lkS 28 rfl rfl
set_option maxRecDepth 20000 in
theorem lk_29 : Cond.selects RX6 yX6_close yX6_close ∈ WSG := lkS 29 rfl rfl
set_option maxRecDepth 20000 in
theorem lk_30 : Cond.selects RX6 yX6_comparingSign yX6_comparingSign ∈ WSG := lkS 30 rfl rfl
set_option maxRecDepth 20000 in
theorem lk_31 : Cond.selects RX6 yX6_endWish yX6_endWish ∈ WSG := lkS 31 rfl rfl
set_option maxRecDepth 20000 in
theorem lk_32 : Cond.selects RX11 yX11_forgetWhatWasFound yX11_forgetWhatWasFound ∈ WSG := lkS 32 rfl rfl
set_option maxRecDepth 20000 in
theorem lk_33 : Cond.selects RX11 yX11_checkWish yX11_checkWish ∈ WSG := lkS 33 rfl rfl
set_option maxRecDepth 20000 in
theorem lk_34 : Cond.selects RX11 yX11_checkCells yX11_checkCells ∈ WSG := lkS 34 rfl rfl
set_option maxRecDepth 20000 in
theorem lk_35 : Cond.selects RX11 yX11_checkSet yX11_checkSet ∈ WSG := lkS 35 rfl rfl
set_option maxRecDepth 20000 in
theorem lk_36 : Cond.selects RX11 yX11_checkOpen yX11_checkOpen ∈ WSG := lkS 36 rfl rfl
set_option maxRecDepth 20000 in
theorem lk_37 : Cond.selects RX11 yX11_checkWhat yX11_checkWhat ∈ WSG := lkS 37 rfl rfl
set_option maxRecDepth 20000 in
theorem lk_38 : Cond.selects RX11 yX11_checkHundredths yX11_checkHundredths ∈ WSG := lkS 38 rfl rfl
set_option maxRecDepth 20000 in
theorem lk_39 : Cond.selects RX11 yX11_checkRule yX11_checkRule ∈ WSG := lkS 39 rfl rfl
set_option maxRecDepth 20000 in
theorem lk_40 : Cond.selects RX11 yX11_checkPerson yX11_checkPerson ∈ WSG := lkS 40 rfl rfl
set_option maxRecDepth 20000 in
theorem lk_41 : Cond.selects RX7 yX7_sayOtherwise yX7_sayOtherwise ∈ WSG := lkS 41 rfl rfl
set_option maxRecDepth 20000 in
theorem lk_42 : Cond.selects RX11 yX11_trayThere yX11_trayThere ∈ WSG := lkS 42 rfl rfl
set_option maxRecDepth 20000 in
theorem lk_43 : Cond.selects RX5 yX5_search yX5_search ∈ WSG := lkS 43 rfl rfl
set_option maxRecDepth 20000 in
theorem lk_44 : Cond.selects RX5 yX5_fits yX5_fits ∈ WSG := lkS 44 rfl rfl
set_option maxRecDepth 20000 in
theorem lk_45 : Cond.selects RX5 yX5_keep yX5_keep ∈ WSG := lkS 45 rfl rfl
set_option maxRecDepth 20000 in
theorem lk_46 : Cond.selects RX1 yX1_takePart yX1_takePart ∈ WSG := lkS 46 rfl rfl
set_option maxRecDepth 20000 in
theorem lk_47 : Cond.selects RX1 yX1_placeOfCell yX1_placeOfCell ∈ WSG := lkS 47 rfl rfl
set_option maxRecDepth 20000 in
theorem lk_48 : Cond.selects RX1 yX1_joinAt yX1_joinAt ∈ WSG := lkS 48 rfl rfl
set_option maxRecDepth 20000 in
theorem lk_49 : Cond.selects RX1 yX1_isNew yX1_isNew ∈ WSG := lkS 49 rfl rfl
set_option maxRecDepth 20000 in
theorem lk_50 : Cond.selects RX1 yX1_sortPlans yX1_sortPlans ∈ WSG := lkS 50 rfl rfl
set_option maxRecDepth 20000 in
theorem lk_51 : Cond.selects RX1 yX1_plansOf yX1_plansOf ∈ WSG := lkS 51 rfl rfl
set_option maxRecDepth 20000 in
theorem lk_52 : Cond.selects RX11 yX11_takeReserve yX11_takeReserve ∈ WSG := lkS 52 rfl rfl
set_option maxRecDepth 20000 in
theorem lk_53 : Cond.selects RX4 yX4_byGranting yX4_byGranting ∈ WSG := lkS 53 rfl rfl
set_option maxRecDepth 20000 in
theorem lk_54 : Cond.selects RX11 yX11_checkImage yX11_checkImage ∈ WSG := lkS 54 rfl rfl
set_option maxRecDepth 20000 in
theorem lk_55 : Cond.selects RX12 yX12_laysTruths yX12_laysTruths ∈ WSG := lkS 55 rfl rfl
set_option maxRecDepth 20000 in
theorem lk_56 : Cond.selects RX12 yX12_everywhere yX12_everywhere ∈ WSG := lkS 56 rfl rfl
set_option maxRecDepth 20000 in
theorem lk_57 : Cond.selects RX12 yX12_cells yX12_cells ∈ WSG := lkS 57 rfl rfl
set_option maxRecDepth 20000 in
theorem lk_58 : Cond.selects RX12 yX12_blown yX12_blown ∈ WSG := lkS 58 rfl rfl
set_option maxRecDepth 20000 in
theorem lk_59 : Cond.selects RX12 yX12_worksOut yX12_worksOut ∈ WSG := lkS 59 rfl rfl
set_option maxRecDepth 20000 in
theorem lk_60 : Cond.selects RX12 yX12_plain yX12_plain ∈ WSG := lkS 60 rfl rfl
set_option maxRecDepth 20000 in
theorem lk_61 : Cond.selects RX12 yX12_fails yX12_fails ∈ WSG := lkS 61 rfl rfl
set_option maxRecDepth 20000 in
theorem lk_62 : Cond.selects RX12 yX12_readsOn yX12_readsOn ∈ WSG := lkS 62 rfl rfl
set_option maxRecDepth 20000 in
theorem lk_63 : Cond.selects RX12 yX12_see yX12_see ∈ WSG := lkS 63 rfl rfl
set_option maxRecDepth 20000 in
theorem lk_64 : Cond.selects RX12 yX12_mustWord yX12_mustWord ∈ WSG := lkS 64 rfl rfl
set_option maxRecDepth 20000 in
theorem lk_65 : Cond.selects RX12 yX12_took yX12_took ∈ WSG := lkS 65 rfl rfl
set_option maxRecDepth 20000 in
theorem lk_66 : Cond.selects RX12 yX12_isWord yX12_isWord ∈ WSG := lkS 66 rfl rfl
set_option maxRecDepth 20000 in
theorem lk_67 : Cond.selects RX12 yX12_blames yX12_blames ∈ WSG := lkS 67 rfl rfl
set_option maxRecDepth 20000 in
theorem lk_68 : Cond.selects RX12 yX12_number yX12_number ∈ WSG := lkS 68 rfl rfl
set_option maxRecDepth 20000 in
theorem lk_69 : Cond.selects RX12 yX12_readStop yX12_readStop ∈ WSG := lkS 69 rfl rfl
set_option maxRecDepth 20000 in
theorem lk_70 : Cond.selects RX12 yX12_mustSign yX12_mustSign ∈ WSG := lkS 70 rfl rfl
set_option maxRecDepth 20000 in
theorem lk_71 : Cond.selects RX12 yX12_readLine yX12_readLine ∈ WSG := lkS 71 rfl rfl
set_option maxRecDepth 20000 in
theorem lk_72 : Cond.selects RX12 yX12_readWish yX12_readWish ∈ WSG := lkS 72 rfl rfl
set_option maxRecDepth 20000 in
theorem lk_73 : Cond.selects RX12 yX12_readTruth yX12_readTruth ∈ WSG := lkS 73 rfl rfl
set_option maxRecDepth 20000 in
theorem lk_74 : Cond.selects RX12 yX12_readBoth yX12_readBoth ∈ WSG := lkS 74 rfl rfl
set_option maxRecDepth 20000 in
theorem lk_75 : Cond.selects RX12 yX12_readUnit yX12_readUnit ∈ WSG := lkS 75 rfl rfl
set_option maxRecDepth 20000 in
theorem lk_76 : Cond.selects RX12 yX12_goesIn yX12_goesIn ∈ WSG := lkS 76 rfl rfl
set_option maxRecDepth 20000 in
theorem lk_77 : Cond.selects RX12 yX12_laysStep yX12_laysStep ∈ WSG := lkS 77 rfl rfl
set_option maxRecDepth 20000 in
theorem lk_78 : Cond.selects RX12 yX12_isSign yX12_isSign ∈ WSG := lkS 78 rfl rfl
set_option maxRecDepth 20000 in
theorem lk_79 : Cond.selects RX12 yX12_readSum yX12_readSum ∈ WSG := lkS 79 rfl rfl
set_option maxRecDepth 20000 in
theorem lk_80 : Cond.selects RX12 yX12_readTerm yX12_readTerm ∈ WSG := lkS 80 rfl rfl
set_option maxRecDepth 20000 in
theorem lk_81 : Cond.selects RX12 yX12_readAtom yX12_readAtom ∈ WSG := lkS 81 rfl rfl
set_option maxRecDepth 20000 in
theorem lk_82 : Cond.selects RX12 yX12_isWish yX12_isWish ∈ WSG := lkS 82 rfl rfl
set_option maxRecDepth 20000 in
theorem lk_83 : Cond.selects RX12 yX12_doesHold yX12_doesHold ∈ WSG := lkS 83 rfl rfl
set_option maxRecDepth 20000 in
theorem lk_84 : Cond.selects RX12 yX12_isOpen yX12_isOpen ∈ WSG := lkS 84 rfl rfl
set_option maxRecDepth 20000 in
theorem lk_85 : Cond.selects RX12 yX12_isSky yX12_isSky ∈ WSG := lkS 85 rfl rfl
set_option maxRecDepth 20000 in
theorem lk_86 : Cond.selects RX12 yX12_whyNot yX12_whyNot ∈ WSG := lkS 86 rfl rfl
set_option maxRecDepth 20000 in
theorem lk_87 : Cond.selects RX12 yX12_musts yX12_musts ∈ WSG := lkS 87 rfl rfl
set_option maxRecDepth 20000 in
theorem lk_88 : Cond.selects RX12 yX12_grantedIn yX12_grantedIn ∈ WSG := lkS 88 rfl rfl
set_option maxRecDepth 20000 in
theorem lk_89 : Cond.selects RX12 yX12_isAsked yX12_isAsked ∈ WSG := lkS 89 rfl rfl
set_option maxRecDepth 20000 in
theorem lk_90 : Cond.selects RX12 yX12_laysPlans yX12_laysPlans ∈ WSG := lkS 90 rfl rfl
set_option maxRecDepth 20000 in
theorem lk_91 : Cond.selects RX12 yX12_planFor yX12_planFor ∈ WSG := lkS 91 rfl rfl
set_option maxRecDepth 20000 in
theorem lk_92 : Cond.selects RX12 yX12_openFault yX12_openFault ∈ WSG := lkS 92 rfl rfl
set_option maxRecDepth 20000 in
theorem lk_93 : Cond.selects RX12 yX12_weight yX12_weight ∈ WSG := lkS 93 rfl rfl
set_option maxRecDepth 20000 in
theorem lk_94 : Cond.selects RX12 yX12_heartsOf yX12_heartsOf ∈ WSG := lkS 94 rfl rfl
set_option maxRecDepth 20000 in
theorem lk_95 : Cond.selects RX12 yX12_expects yX12_expects ∈ WSG := lkS 95 rfl rfl
set_option maxRecDepth 20000 in
theorem lk_96 : Cond.selects RX12 yX12_asksAsItIs yX12_asksAsItIs ∈ WSG := lkS 96 rfl rfl
set_option maxRecDepth 20000 in
theorem lk_97 : Cond.selects RX12 yX12_serves yX12_serves ∈ WSG := lkS 97 rfl rfl
set_option maxRecDepth 20000 in
theorem lk_98 : Cond.selects RX12 yX12_key yX12_key ∈ WSG := lkS 98 rfl rfl
set_option maxRecDepth 20000 in
theorem lk_99 : Cond.selects RX12 yX12_manyOf yX12_manyOf ∈ WSG := lkS 99 rfl rfl
set_option maxRecDepth 20000 in
theorem lk_100 : Cond.selects RX12 yX12_shareOf yX12_shareOf ∈ WSG := lkS 100 rfl rfl
set_option maxRecDepth 20000 in
theorem lk_101 : Cond.selects RX12 yX12_shareBy yX12_shareBy ∈ WSG := lkS 101 rfl rfl
set_option maxRecDepth 20000 in
theorem lk_102 : Cond.selects RX12 yX12_wantsFault yX12_wantsFault ∈ WSG := lkS 102 rfl rfl
set_option maxRecDepth 20000 in
theorem lk_103 : Cond.selects RX12 yX12_trayFault yX12_trayFault ∈ WSG := lkS 103 rfl rfl
set_option maxRecDepth 20000 in
theorem lk_104 : Cond.selects RX12 yX12_goesWants yX12_goesWants ∈ WSG := lkS 104 rfl rfl
set_option maxRecDepth 20000 in
theorem lk_105 : Cond.selects RX12 yX12_doPart yX12_doPart ∈ WSG := lkS 105 rfl rfl
set_option maxRecDepth 20000 in
theorem lk_106 : Cond.selects RX12 yX12_sayFault yX12_sayFault ∈ WSG := lkS 106 rfl rfl
set_option maxRecDepth 20000 in
theorem lk_107 : Cond.selects RX12 yX12_reads yX12_reads ∈ WSG := lkS 107 rfl rfl
set_option maxRecDepth 20000 in
theorem lk_108 : Cond.selects RX12 yX12_laysReading yX12_laysReading ∈ WSG := lkS 108 rfl rfl
set_option maxRecDepth 20000 in
theorem lk_109 : Cond.selects RX12 yX12_laysPair yX12_laysPair ∈ WSG := lkS 109 rfl rfl
set_option maxRecDepth 20000 in
theorem lk_110 : Cond.selects RX12 yX12_unlike yX12_unlike ∈ WSG := lkS 110 rfl rfl
set_option maxRecDepth 20000 in
theorem lk_111 : Cond.selects RX12 yX12_areLike yX12_areLike ∈ WSG := lkS 111 rfl rfl
set_option maxRecDepth 20000 in
theorem lk_112 : Cond.selects RX12 yX12_holdsIn yX12_holdsIn ∈ WSG := lkS 112 rfl rfl
set_option maxRecDepth 20000 in
theorem lk_113 : Cond.selects RX12 yX12_keeps yX12_keeps ∈ WSG := lkS 113 rfl rfl
set_option maxRecDepth 20000 in
theorem lk_114 : Cond.selects RX12 yX12_goesBy yX12_goesBy ∈ WSG := lkS 114 rfl rfl
set_option maxRecDepth 20000 in
theorem lk_115 : Cond.selects RX12 yX12_draw yX12_draw ∈ WSG := lkS 115 rfl rfl
set_option maxRecDepth 20000 in
theorem lk_116 : Cond.selects RX12 yX12_holdFault yX12_holdFault ∈ WSG := lkS 116 rfl rfl
set_option maxRecDepth 20000 in
theorem lk_117 : Cond.selects RX12 yX12_laysWorth yX12_laysWorth ∈ WSG := lkS 117 rfl rfl
set_option maxRecDepth 20000 in
theorem lk_118 : Cond.selects RX12 yX12_grantsNow yX12_grantsNow ∈ WSG := lkS 118 rfl rfl
set_option maxRecDepth 20000 in
theorem lk_119 : Cond.selects RX12 yX12_cut yX12_cut ∈ WSG := lkS 119 rfl rfl
set_option maxRecDepth 20000 in
theorem lk_121 : Cond.initialized RX11 ∈ WSG := lkT1 1 rfl rfl
set_option maxRecDepth 20000 in
theorem lk_122 : Cond.initialized RX8 ∈ WSG := lkT1 2 rfl rfl
set_option maxRecDepth 20000 in
theorem lk_123 : Cond.initialized RX6 ∈ WSG := lkT1 3 rfl rfl
set_option maxRecDepth 20000 in
theorem lk_124 : Cond.initialized RX9 ∈ WSG := lkT1 4 rfl rfl
set_option maxRecDepth 20000 in
theorem lk_125 : Cond.initialized RX0 ∈ WSG := lkT1 5 rfl rfl
set_option maxRecDepth 20000 in
theorem lk_126 : Cond.initialized RX3 ∈ WSG := lkT1 6 rfl rfl
set_option maxRecDepth 20000 in
theorem lk_127 : Cond.initialized RJ7 ∈ WSG := lkT1 7 rfl rfl
set_option maxRecDepth 20000 in
theorem lk_128 : Cond.initialized RX2 ∈ WSG := lkT1 8 rfl rfl
set_option maxRecDepth 20000 in
theorem lk_129 : Cond.initialized RX7 ∈ WSG := lkT1 9 rfl rfl
set_option maxRecDepth 20000 in
theorem lk_130 : Cond.initialized RX5 ∈ WSG := lkT1 10 rfl rfl
set_option maxRecDepth 20000 in
theorem lk_131 : Cond.initialized RX1 ∈ WSG := lkT1 11 rfl rfl
set_option maxRecDepth 20000 in
theorem lk_132 : Cond.initialized RX4 ∈ WSG := lkT1 12 rfl rfl
set_option maxRecDepth 20000 in
theorem lk_133 : Cond.initialized RX10 ∈ WSG := lkT1 13 rfl rfl
set_option maxRecDepth 20000 in
theorem lk_134 : Cond.initialized RX12 ∈ WSG := lkT1 14 rfl rfl
set_option maxRecDepth 20000 in
theorem lk_135 : Cond.initialized "java/lang/Math" ∈ WSG := lkT1 15 rfl rfl
set_option maxRecDepth 20000 in
theorem lk_139 : Cond.initialized "java/lang/IllegalArgumentException" ∈ WSG := lkT1 19 rfl rfl
set_option maxRecDepth 20000 in
theorem lk_140 : Cond.initialized "java/lang/String" ∈ WSG := lkT1 20 rfl rfl
set_option maxRecDepth 20000 in
theorem lk_141 : Cond.initialized RJ1 ∈ WSG := lkT1 21 rfl rfl
set_option maxRecDepth 20000 in
theorem lk_143 : Cond.initialized RJ3 ∈ WSG := lkT1 23 rfl rfl
set_option maxRecDepth 20000 in
theorem lk_145 : Cond.initialized "java/lang/System" ∈ WSG := lkT1 25 rfl rfl
set_option maxRecDepth 20000 in
theorem lk_146 : Cond.initialized "java/util/NoSuchElementException" ∈ WSG := lkT1 26 rfl rfl
set_option maxRecDepth 20000 in
theorem lk_147 : Cond.initialized RJ6 ∈ WSG := lkT1 27 rfl rfl
set_option maxRecDepth 20000 in
theorem lk_148 : Cond.initialized "java/lang/IllegalStateException" ∈ WSG := lkT1 28 rfl rfl
set_option maxRecDepth 20000 in
theorem lk_149 : Cond.initialized "java/lang/IndexOutOfBoundsException" ∈ WSG := lkT1 29 rfl rfl
set_option maxRecDepth 20000 in
theorem lk_164 : Cond.fieldLink RX8 28 "RainWishes$Sky" "lines" "I" ∈ WSG := lkT1 44 rfl rfl
set_option maxRecDepth 20000 in
theorem lk_165 : Cond.fieldLink RX11 142 "RainWishes$Sky" "lines" "I" ∈ WSG := lkT1 45 rfl rfl
set_option maxRecDepth 20000 in
theorem lk_166 : Cond.fieldLink RX6 110 "RainWishes$Sky" "lines" "I" ∈ WSG := lkT1 46 rfl rfl
set_option maxRecDepth 20000 in
theorem lk_167 : Cond.fieldLink RX8 31 "RainWishes$Sky" "parishes" "I" ∈ WSG := lkT1 47 rfl rfl
set_option maxRecDepth 20000 in
theorem lk_168 : Cond.fieldLink RX6 95 "RainWishes$Sky" "parishes" "I" ∈ WSG := lkT1 48 rfl rfl
set_option maxRecDepth 20000 in
theorem lk_169 : Cond.fieldLink RX11 312 "RainWishes$Sky" "parishes" "I" ∈ WSG := lkT1 49 rfl rfl
set_option maxRecDepth 20000 in
theorem lk_170 : Cond.fieldLink RX8 34 "RainWishes$Sky" "days" "I" ∈ WSG := lkT1 50 rfl rfl
set_option maxRecDepth 20000 in
theorem lk_171 : Cond.fieldLink RX6 104 "RainWishes$Sky" "days" "I" ∈ WSG := lkT1 51 rfl rfl
set_option maxRecDepth 20000 in
theorem lk_172 : Cond.fieldLink RX11 439 "RainWishes$Sky" "days" "I" ∈ WSG := lkT1 52 rfl rfl
set_option maxRecDepth 20000 in
theorem lk_173 : Cond.fieldLink RX8 9 "RainWishes$Sky" "clouds" "I" ∈ WSG := lkT1 53 rfl rfl
set_option maxRecDepth 20000 in
theorem lk_174 : Cond.fieldLink RX6 124 "RainWishes$Sky" "clouds" "I" ∈ WSG := lkT1 54 rfl rfl
set_option maxRecDepth 20000 in
theorem lk_175 : Cond.fieldLink RX3 73 "RainWishes$Sky" "clouds" "I" ∈ WSG := lkT1 55 rfl rfl
set_option maxRecDepth 20000 in
theorem lk_176 : Cond.fieldLink RX11 386 "RainWishes$Sky" "clouds" "I" ∈ WSG := lkT1 56 rfl rfl
set_option maxRecDepth 20000 in
theorem lk_177 : Cond.fieldLink RX8 37 "RainWishes$Sky" "wind" "I" ∈ WSG := lkT1 57 rfl rfl
set_option maxRecDepth 20000 in
theorem lk_178 : Cond.fieldLink RX6 126 "RainWishes$Sky" "wind" "I" ∈ WSG := lkT1 58 rfl rfl
set_option maxRecDepth 20000 in
theorem lk_179 : Cond.fieldLink RX11 442 "RainWishes$Sky" "wind" "I" ∈ WSG := lkT1 59 rfl rfl
set_option maxRecDepth 20000 in
theorem lk_180 : Cond.fieldLink RX8 40 "RainWishes$Sky" "wishes" "I" ∈ WSG := lkT1 60 rfl rfl
set_option maxRecDepth 20000 in
theorem lk_181 : Cond.fieldLink RX3 28 "RainWishes$Sky" "wishes" "I" ∈ WSG := lkT1 61 rfl rfl
set_option maxRecDepth 20000 in
theorem lk_182 : Cond.fieldLink RX7 60 "RainWishes$Sky" "wishes" "I" ∈ WSG := lkT1 62 rfl rfl
set_option maxRecDepth 20000 in
theorem lk_183 : Cond.fieldLink RX11 133 "RainWishes$Sky" "wishes" "I" ∈ WSG := lkT1 63 rfl rfl
set_option maxRecDepth 20000 in
theorem lk_184 : Cond.fieldLink RX2 77 "RainWishes$Sky" "wishes" "I" ∈ WSG := lkT1 64 rfl rfl
set_option maxRecDepth 20000 in
theorem lk_185 : Cond.fieldLink RX0 45 "RainWishes$Sky" "wishes" "I" ∈ WSG := lkT1 65 rfl rfl
set_option maxRecDepth 20000 in
theorem lk_186 : Cond.fieldLink RX6 128 "RainWishes$Sky" "wishes" "I" ∈ WSG := lkT1 66 rfl rfl
set_option maxRecDepth 20000 in
theorem lk_187 : Cond.fieldLink RX8 43 "RainWishes$Sky" "musts" "I" ∈ WSG := lkT1 67 rfl rfl
set_option maxRecDepth 20000 in
theorem lk_188 : Cond.fieldLink RX11 162 "RainWishes$Sky" "musts" "I" ∈ WSG := lkT1 68 rfl rfl
set_option maxRecDepth 20000 in
theorem lk_189 : Cond.fieldLink RX3 76 "RainWishes$Sky" "musts" "I" ∈ WSG := lkT1 69 rfl rfl
set_option maxRecDepth 20000 in
theorem lk_190 : Cond.fieldLink RX6 141 "RainWishes$Sky" "musts" "I" ∈ WSG := lkT1 70 rfl rfl
set_option maxRecDepth 20000 in
theorem lk_191 : Cond.fieldLink RX7 102 "RainWishes$Sky" "musts" "I" ∈ WSG := lkT1 71 rfl rfl
set_option maxRecDepth 20000 in
theorem lk_192 : Cond.fieldLink RX2 96 "RainWishes$Sky" "musts" "I" ∈ WSG := lkT1 72 rfl rfl
set_option maxRecDepth 20000 in
theorem lk_193 : Cond.fieldLink RX1 51 "RainWishes$Sky" "cells" "I" ∈ WSG := lkT1 73 rfl rfl
set_option maxRecDepth 20000 in
theorem lk_194 : Cond.fieldLink RX8 52 "RainWishes$Sky" "cells" "I" ∈ WSG := lkT1 74 rfl rfl
set_option maxRecDepth 20000 in
theorem lk_195 : Cond.fieldLink RX5 53 "RainWishes$Sky" "cells" "I" ∈ WSG := lkT1 75 rfl rfl
set_option maxRecDepth 20000 in
theorem lk_196 : Cond.fieldLink RX11 382 "RainWishes$Sky" "cells" "I" ∈ WSG := lkT1 76 rfl rfl
set_option maxRecDepth 20000 in
theorem lk_197 : Cond.fieldLink RX5 30 "RainWishes$Sky" "allCells" "I" ∈ WSG := lkT1 77 rfl rfl
set_option maxRecDepth 20000 in
theorem lk_198 : Cond.fieldLink RX8 55 "RainWishes$Sky" "allCells" "I" ∈ WSG := lkT1 78 rfl rfl
set_option maxRecDepth 20000 in
theorem lk_199 : Cond.fieldLink RX2 56 "RainWishes$Sky" "allCells" "I" ∈ WSG := lkT1 79 rfl rfl
set_option maxRecDepth 20000 in
theorem lk_200 : Cond.fieldLink RX3 64 "RainWishes$Sky" "allCells" "I" ∈ WSG := lkT1 80 rfl rfl
set_option maxRecDepth 20000 in
theorem lk_201 : Cond.fieldLink RX6 189 "RainWishes$Sky" "allCells" "I" ∈ WSG := lkT1 81 rfl rfl
set_option maxRecDepth 20000 in
theorem lk_202 : Cond.fieldLink RX11 208 "RainWishes$Sky" "allCells" "I" ∈ WSG := lkT1 82 rfl rfl
set_option maxRecDepth 20000 in
theorem lk_203 : Cond.fieldLink RX8 46 "RainWishes$Sky" "codes" "I" ∈ WSG := lkT1 83 rfl rfl
set_option maxRecDepth 20000 in
theorem lk_204 : Cond.fieldLink RX6 147 "RainWishes$Sky" "codes" "I" ∈ WSG := lkT1 84 rfl rfl
set_option maxRecDepth 20000 in
theorem lk_205 : Cond.fieldLink RX8 58 "RainWishes$Sky" "blown" "I" ∈ WSG := lkT1 85 rfl rfl
set_option maxRecDepth 20000 in
theorem lk_206 : Cond.fieldLink RX8 61 "RainWishes$Sky" "blownBy" "I" ∈ WSG := lkT1 86 rfl rfl
set_option maxRecDepth 20000 in
theorem lk_207 : Cond.fieldLink RX8 15 "RainWishes$Sky" "by" "[I" ∈ WSG := lkT1 87 rfl rfl
set_option maxRecDepth 20000 in
theorem lk_208 : Cond.fieldLink RX7 75 "RainWishes$Sky" "by" "[I" ∈ WSG := lkT1 88 rfl rfl
set_option maxRecDepth 20000 in
theorem lk_209 : Cond.fieldLink RX0 50 "RainWishes$Sky" "by" "[I" ∈ WSG := lkT1 89 rfl rfl
set_option maxRecDepth 20000 in
theorem lk_210 : Cond.fieldLink RX11 155 "RainWishes$Sky" "by" "[I" ∈ WSG := lkT1 90 rfl rfl
set_option maxRecDepth 20000 in
theorem lk_211 : Cond.fieldLink RX6 133 "RainWishes$Sky" "by" "[I" ∈ WSG := lkT1 91 rfl rfl
set_option maxRecDepth 20000 in
theorem lk_212 : Cond.fieldLink RX8 19 "RainWishes$Sky" "weight" "[I" ∈ WSG := lkT1 92 rfl rfl
set_option maxRecDepth 20000 in
theorem lk_213 : Cond.fieldLink RX7 37 "RainWishes$Sky" "weight" "[I" ∈ WSG := lkT1 93 rfl rfl
set_option maxRecDepth 20000 in
theorem lk_214 : Cond.fieldLink RX0 53 "RainWishes$Sky" "weight" "[I" ∈ WSG := lkT1 94 rfl rfl
set_option maxRecDepth 20000 in
theorem lk_215 : Cond.fieldLink RX11 159 "RainWishes$Sky" "weight" "[I" ∈ WSG := lkT1 95 rfl rfl
set_option maxRecDepth 20000 in
theorem lk_216 : Cond.fieldLink RX6 135 "RainWishes$Sky" "weight" "[I" ∈ WSG := lkT1 96 rfl rfl
set_option maxRecDepth 20000 in
theorem lk_217 : Cond.fieldLink RX8 22 "RainWishes$Sky" "from" "[I" ∈ WSG := lkT1 97 rfl rfl
set_option maxRecDepth 20000 in
theorem lk_218 : Cond.fieldLink RX3 38 "RainWishes$Sky" "from" "[I" ∈ WSG := lkT1 98 rfl rfl
set_option maxRecDepth 20000 in
theorem lk_219 : Cond.fieldLink RX6 144 "RainWishes$Sky" "from" "[I" ∈ WSG := lkT1 99 rfl rfl
set_option maxRecDepth 20000 in
theorem lk_220 : Cond.fieldLink RX8 25 "RainWishes$Sky" "code" "[I" ∈ WSG := lkT1 100 rfl rfl
set_option maxRecDepth 20000 in
theorem lk_221 : Cond.fieldLink RX3 41 "RainWishes$Sky" "code" "[I" ∈ WSG := lkT1 101 rfl rfl
set_option maxRecDepth 20000 in
theorem lk_270 : Cond.fieldLink RX9 7 "RainWishes$Tokens" "text" "[B" ∈ WSG := lkT1 150 rfl rfl
set_option maxRecDepth 20000 in
theorem lk_271 : Cond.fieldLink RX9 13 "RainWishes$Tokens" "length" "I" ∈ WSG := lkT1 151 rfl rfl
set_option maxRecDepth 20000 in
theorem lk_272 : Cond.fieldLink RX9 17 "RainWishes$Tokens" "end" "I" ∈ WSG := lkT1 152 rfl rfl
set_option maxRecDepth 20000 in
theorem lk_273 : Cond.fieldLink RX9 23 "RainWishes$Tokens" "start" "I" ∈ WSG := lkT1 153 rfl rfl
set_option maxRecDepth 20000 in
theorem lk_274 : Cond.fieldLink RX6 66 "RainWishes$Tokens" "start" "I" ∈ WSG := lkT1 154 rfl rfl
set_option maxRecDepth 20000 in
theorem lk_275 : Cond.fieldLink RX6 51 "RainWishes$Tokens" "kind" "I" ∈ WSG := lkT1 155 rfl rfl
set_option maxRecDepth 20000 in
theorem lk_276 : Cond.fieldLink RX9 26 "RainWishes$Tokens" "kind" "I" ∈ WSG := lkT1 156 rfl rfl
set_option maxRecDepth 20000 in
theorem lk_288 : Cond.fieldLink RX6 24 "RainWishes$Parser" "tokens" "LRainWishes$Tokens;" ∈ WSG := lkT1 168 rfl rfl
set_option maxRecDepth 20000 in
theorem lk_289 : Cond.fieldLink RX6 28 "RainWishes$Parser" "sky" "LRainWishes$Sky;" ∈ WSG := lkT1 169 rfl rfl
set_option maxRecDepth 20000 in
theorem lk_290 : Cond.fieldLink RX6 9 "RainWishes$Parser" "waiting" "[I" ∈ WSG := lkT1 170 rfl rfl
set_option maxRecDepth 20000 in
theorem lk_291 : Cond.fieldLink RX6 150 "RainWishes$Parser" "top" "I" ∈ WSG := lkT1 171 rfl rfl
set_option maxRecDepth 20000 in
theorem lk_292 : Cond.fieldLink RX6 153 "RainWishes$Parser" "nested" "I" ∈ WSG := lkT1 172 rfl rfl
set_option maxRecDepth 20000 in
theorem lk_293 : Cond.fieldLink RX6 156 "RainWishes$Parser" "parens" "I" ∈ WSG := lkT1 173 rfl rfl
set_option maxRecDepth 20000 in
theorem lk_294 : Cond.fieldLink RX6 159 "RainWishes$Parser" "squares" "I" ∈ WSG := lkT1 174 rfl rfl
set_option maxRecDepth 20000 in
theorem lk_295 : Cond.fieldLink RX6 164 "RainWishes$Parser" "compared" "Z" ∈ WSG := lkT1 175 rfl rfl
set_option maxRecDepth 20000 in
theorem lk_296 : Cond.fieldLink RX6 40 "RainWishes$Parser" "state" "I" ∈ WSG := lkT1 176 rfl rfl
set_option maxRecDepth 20000 in
theorem lk_297 : Cond.fieldLink RX6 84 "RainWishes$Parser" "number" "I" ∈ WSG := lkT1 177 rfl rfl
set_option maxRecDepth 20000 in
theorem lk_298 : Cond.fieldLink RX6 37 "RainWishes$Parser" "fault" "I" ∈ WSG := lkT1 178 rfl rfl
set_option maxRecDepth 20000 in
theorem lk_299 : Cond.fieldLink RX11 127 "RainWishes$Parser" "fault" "I" ∈ WSG := lkT1 179 rfl rfl
set_option maxRecDepth 20000 in
theorem lk_300 : Cond.fieldLink RX6 15 "RainWishes$Parser" "place" "I" ∈ WSG := lkT1 180 rfl rfl
set_option maxRecDepth 20000 in
theorem lk_301 : Cond.fieldLink RX11 149 "RainWishes$Parser" "place" "I" ∈ WSG := lkT1 181 rfl rfl
set_option maxRecDepth 20000 in
theorem lk_335 : Cond.fieldLink RX0 23 "RainWishes$Book" "open" "I" ∈ WSG := lkT1 215 rfl rfl
set_option maxRecDepth 20000 in
theorem lk_336 : Cond.fieldLink RX2 41 "RainWishes$Book" "open" "I" ∈ WSG := lkT1 216 rfl rfl
set_option maxRecDepth 20000 in
theorem lk_337 : Cond.fieldLink RX7 53 "RainWishes$Book" "open" "I" ∈ WSG := lkT1 217 rfl rfl
set_option maxRecDepth 20000 in
theorem lk_338 : Cond.fieldLink RX11 165 "RainWishes$Book" "open" "I" ∈ WSG := lkT1 218 rfl rfl
set_option maxRecDepth 20000 in
theorem lk_339 : Cond.fieldLink RX0 9 "RainWishes$Book" "ages" "[I" ∈ WSG := lkT1 219 rfl rfl
set_option maxRecDepth 20000 in
theorem lk_340 : Cond.fieldLink RX7 48 "RainWishes$Book" "ages" "[I" ∈ WSG := lkT1 220 rfl rfl
set_option maxRecDepth 20000 in
theorem lk_341 : Cond.fieldLink RX11 168 "RainWishes$Book" "ages" "[I" ∈ WSG := lkT1 221 rfl rfl
set_option maxRecDepth 20000 in
theorem lk_342 : Cond.fieldLink RX0 15 "RainWishes$Book" "dues" "[I" ∈ WSG := lkT1 222 rfl rfl
set_option maxRecDepth 20000 in
theorem lk_343 : Cond.fieldLink RX11 363 "RainWishes$Book" "dues" "[I" ∈ WSG := lkT1 223 rfl rfl
set_option maxRecDepth 20000 in
theorem lk_344 : Cond.fieldLink RX0 33 "RainWishes$Book" "deeds" "I" ∈ WSG := lkT1 224 rfl rfl
set_option maxRecDepth 20000 in
theorem lk_345 : Cond.fieldLink RX11 368 "RainWishes$Book" "deeds" "I" ∈ WSG := lkT1 225 rfl rfl
set_option maxRecDepth 20000 in
theorem lk_346 : Cond.fieldLink RX0 36 "RainWishes$Book" "eldest" "I" ∈ WSG := lkT1 226 rfl rfl
set_option maxRecDepth 20000 in
theorem lk_347 : Cond.fieldLink RX0 20 "RainWishes$Book" "past" "[[I" ∈ WSG := lkT1 227 rfl rfl
set_option maxRecDepth 20000 in
theorem lk_367 : Cond.methodLink RX3 22 yJ7_fill_53178 ∈ WSG := lkT2 7 rfl rfl
set_option maxRecDepth 20000 in
theorem lk_368 : Cond.static yJ7_fill_53178 ∈ WSG := lkT2 8 rfl rfl
set_option maxRecDepth 20000 in
theorem lk_369 : Cond.code yJ7_fill_53178 cJ7_fill_53178 4 none ∈ WSG := lkT2 9 rfl rfl
set_option maxRecDepth 20000 in
theorem lk_370 : Cond.fieldLink RX3 18 "RainWishes$Field" "sky" "LRainWishes$Sky;" ∈ WSG := lkT2 10 rfl rfl
set_option maxRecDepth 20000 in
theorem lk_371 : Cond.fieldLink RX3 9 "RainWishes$Field" "held" "[I" ∈ WSG := lkT2 11 rfl rfl
set_option maxRecDepth 20000 in
theorem lk_372 : Cond.fieldLink RX3 15 "RainWishes$Field" "stack" "[I" ∈ WSG := lkT2 12 rfl rfl
set_option maxRecDepth 20000 in
theorem lk_386 : Cond.fieldLink RX2 21 "RainWishes$Choices" "sky" "LRainWishes$Sky;" ∈ WSG := lkT2 26 rfl rfl
set_option maxRecDepth 20000 in
theorem lk_387 : Cond.fieldLink RX2 25 "RainWishes$Choices" "book" "LRainWishes$Book;" ∈ WSG := lkT2 27 rfl rfl
set_option maxRecDepth 20000 in
theorem lk_388 : Cond.fieldLink RX2 29 "RainWishes$Choices" "field" "LRainWishes$Field;" ∈ WSG := lkT2 28 rfl rfl
set_option maxRecDepth 20000 in
theorem lk_389 : Cond.fieldLink RX2 9 "RainWishes$Choices" "able" "[I" ∈ WSG := lkT2 29 rfl rfl
set_option maxRecDepth 20000 in
theorem lk_390 : Cond.fieldLink RX1 102 "RainWishes$Choices" "able" "[I" ∈ WSG := lkT2 30 rfl rfl
set_option maxRecDepth 20000 in
theorem lk_391 : Cond.fieldLink RX11 426 "RainWishes$Choices" "able" "[I" ∈ WSG := lkT2 31 rfl rfl
set_option maxRecDepth 20000 in
theorem lk_392 : Cond.fieldLink RX2 47 "RainWishes$Choices" "ables" "I" ∈ WSG := lkT2 32 rfl rfl
set_option maxRecDepth 20000 in
theorem lk_393 : Cond.fieldLink RX1 97 "RainWishes$Choices" "ables" "I" ∈ WSG := lkT2 33 rfl rfl
set_option maxRecDepth 20000 in
theorem lk_394 : Cond.fieldLink RX11 198 "RainWishes$Choices" "ables" "I" ∈ WSG := lkT2 34 rfl rfl
set_option maxRecDepth 20000 in
theorem lk_395 : Cond.fieldLink RX2 15 "RainWishes$Choices" "least" "[I" ∈ WSG := lkT2 35 rfl rfl
set_option maxRecDepth 20000 in
theorem lk_396 : Cond.fieldLink RX2 18 "RainWishes$Choices" "fewest" "[I" ∈ WSG := lkT2 36 rfl rfl
set_option maxRecDepth 20000 in
theorem lk_397 : Cond.fieldLink RX2 37 "RainWishes$Choices" "open" "I" ∈ WSG := lkT2 37 rfl rfl
set_option maxRecDepth 20000 in
theorem lk_398 : Cond.fieldLink RX2 33 "RainWishes$Choices" "fresh" "Z" ∈ WSG := lkT2 38 rfl rfl
set_option maxRecDepth 20000 in
theorem lk_424 : Cond.fieldLink RX7 18 "RainWishes$Rules" "sky" "LRainWishes$Sky;" ∈ WSG := lkT2 64 rfl rfl
set_option maxRecDepth 20000 in
theorem lk_425 : Cond.fieldLink RX7 22 "RainWishes$Rules" "book" "LRainWishes$Book;" ∈ WSG := lkT2 65 rfl rfl
set_option maxRecDepth 20000 in
theorem lk_426 : Cond.fieldLink RX7 26 "RainWishes$Rules" "choices" "LRainWishes$Choices;" ∈ WSG := lkT2 66 rfl rfl
set_option maxRecDepth 20000 in
theorem lk_427 : Cond.fieldLink RX7 9 "RainWishes$Rules" "saidWeight" "[I" ∈ WSG := lkT2 67 rfl rfl
set_option maxRecDepth 20000 in
theorem lk_428 : Cond.fieldLink RX7 15 "RainWishes$Rules" "saidAge" "[I" ∈ WSG := lkT2 68 rfl rfl
set_option maxRecDepth 20000 in
theorem lk_429 : Cond.fieldLink RX7 57 "RainWishes$Rules" "saidOpen" "I" ∈ WSG := lkT2 69 rfl rfl
set_option maxRecDepth 20000 in
theorem lk_430 : Cond.fieldLink RX7 92 "RainWishes$Rules" "gain" "I" ∈ WSG := lkT2 70 rfl rfl
set_option maxRecDepth 20000 in
theorem lk_431 : Cond.fieldLink RX11 302 "RainWishes$Rules" "gain" "I" ∈ WSG := lkT2 71 rfl rfl
set_option maxRecDepth 20000 in
theorem lk_432 : Cond.fieldLink RX7 95 "RainWishes$Rules" "form" "I" ∈ WSG := lkT2 72 rfl rfl
set_option maxRecDepth 20000 in
theorem lk_433 : Cond.fieldLink RX11 305 "RainWishes$Rules" "form" "I" ∈ WSG := lkT2 73 rfl rfl
set_option maxRecDepth 20000 in
theorem lk_457 : Cond.fieldLink RX5 15 "RainWishes$Meant" "sky" "LRainWishes$Sky;" ∈ WSG := lkT2 97 rfl rfl
set_option maxRecDepth 20000 in
theorem lk_458 : Cond.fieldLink RX5 11 "RainWishes$Meant" "told" "[I" ∈ WSG := lkT2 98 rfl rfl
set_option maxRecDepth 20000 in
theorem lk_459 : Cond.fieldLink RX5 25 "RainWishes$Meant" "many" "I" ∈ WSG := lkT2 99 rfl rfl
set_option maxRecDepth 20000 in
theorem lk_460 : Cond.fieldLink RX5 54 "RainWishes$Meant" "care" "I" ∈ WSG := lkT2 100 rfl rfl
set_option maxRecDepth 20000 in
theorem lk_461 : Cond.fieldLink RX5 57 "RainWishes$Meant" "wet" "I" ∈ WSG := lkT2 101 rfl rfl
set_option maxRecDepth 20000 in
theorem lk_462 : Cond.fieldLink RX5 38 "RainWishes$Meant" "cells" "I" ∈ WSG := lkT2 102 rfl rfl
set_option maxRecDepth 20000 in
theorem lk_463 : Cond.fieldLink RX11 326 "RainWishes$Meant" "cells" "I" ∈ WSG := lkT2 103 rfl rfl
set_option maxRecDepth 20000 in
theorem lk_464 : Cond.fieldLink RX5 35 "RainWishes$Meant" "ways" "I" ∈ WSG := lkT2 104 rfl rfl
set_option maxRecDepth 20000 in
theorem lk_465 : Cond.fieldLink RX11 329 "RainWishes$Meant" "ways" "I" ∈ WSG := lkT2 105 rfl rfl
set_option maxRecDepth 20000 in
theorem lk_488 : Cond.fieldLink RX1 27 "RainWishes$Brackets" "sky" "LRainWishes$Sky;" ∈ WSG := lkT2 128 rfl rfl
set_option maxRecDepth 20000 in
theorem lk_489 : Cond.fieldLink RX1 31 "RainWishes$Brackets" "choices" "LRainWishes$Choices;" ∈ WSG := lkT2 129 rfl rfl
set_option maxRecDepth 20000 in
theorem lk_490 : Cond.fieldLink RX1 9 "RainWishes$Brackets" "joint" "[I" ∈ WSG := lkT2 130 rfl rfl
set_option maxRecDepth 20000 in
theorem lk_491 : Cond.fieldLink RX1 13 "RainWishes$Brackets" "cellOf" "[I" ∈ WSG := lkT2 131 rfl rfl
set_option maxRecDepth 20000 in
theorem lk_492 : Cond.fieldLink RX1 16 "RainWishes$Brackets" "plansIn" "[I" ∈ WSG := lkT2 132 rfl rfl
set_option maxRecDepth 20000 in
theorem lk_493 : Cond.fieldLink RX1 21 "RainWishes$Brackets" "found" "[[I" ∈ WSG := lkT2 133 rfl rfl
set_option maxRecDepth 20000 in
theorem lk_494 : Cond.fieldLink RX1 24 "RainWishes$Brackets" "ways" "[I" ∈ WSG := lkT2 134 rfl rfl
set_option maxRecDepth 20000 in
theorem lk_495 : Cond.fieldLink RX1 41 "RainWishes$Brackets" "parts" "I" ∈ WSG := lkT2 135 rfl rfl
set_option maxRecDepth 20000 in
theorem lk_496 : Cond.fieldLink RX1 44 "RainWishes$Brackets" "spokenOf" "I" ∈ WSG := lkT2 136 rfl rfl
set_option maxRecDepth 20000 in
theorem lk_524 : Cond.fieldLink RX4 11 "RainWishes$Holding" "weights" "[I" ∈ WSG := lkT2 164 rfl rfl
set_option maxRecDepth 20000 in
theorem lk_525 : Cond.fieldLink RX4 30 "RainWishes$Holding" "many" "I" ∈ WSG := lkT2 165 rfl rfl
set_option maxRecDepth 20000 in
theorem lk_526 : Cond.fieldLink RX4 17 "RainWishes$Holding" "worth" "[[J" ∈ WSG := lkT2 166 rfl rfl
set_option maxRecDepth 20000 in
theorem lk_527 : Cond.fieldLink RX4 20 "RainWishes$Holding" "scale" "[J" ∈ WSG := lkT2 167 rfl rfl
set_option maxRecDepth 20000 in
theorem lk_545 : Cond.fieldLink RX10 19 "RainWishes$Tray" "sort" "I" ∈ WSG := lkT2 185 rfl rfl
set_option maxRecDepth 20000 in
theorem lk_546 : Cond.fieldLink RX10 9 "RainWishes$Tray" "many" "I" ∈ WSG := lkT2 186 rfl rfl
set_option maxRecDepth 20000 in
theorem lk_547 : Cond.fieldLink RX1 35 "RainWishes$Tray" "many" "I" ∈ WSG := lkT2 187 rfl rfl
set_option maxRecDepth 20000 in
theorem lk_548 : Cond.fieldLink RX5 19 "RainWishes$Tray" "many" "I" ∈ WSG := lkT2 188 rfl rfl
set_option maxRecDepth 20000 in
theorem lk_549 : Cond.fieldLink RX4 24 "RainWishes$Tray" "many" "I" ∈ WSG := lkT2 189 rfl rfl
set_option maxRecDepth 20000 in
theorem lk_550 : Cond.fieldLink RX11 223 "RainWishes$Tray" "many" "I" ∈ WSG := lkT2 190 rfl rfl
set_option maxRecDepth 20000 in
theorem lk_551 : Cond.fieldLink RX10 15 "RainWishes$Tray" "row" "[J" ∈ WSG := lkT2 191 rfl rfl
set_option maxRecDepth 20000 in
theorem lk_552 : Cond.fieldLink RX5 26 "RainWishes$Tray" "row" "[J" ∈ WSG := lkT2 192 rfl rfl
set_option maxRecDepth 20000 in
theorem lk_553 : Cond.fieldLink RX4 31 "RainWishes$Tray" "row" "[J" ∈ WSG := lkT2 193 rfl rfl
set_option maxRecDepth 20000 in
theorem lk_554 : Cond.fieldLink RX1 47 "RainWishes$Tray" "row" "[J" ∈ WSG := lkT2 194 rfl rfl
set_option maxRecDepth 20000 in
theorem lk_555 : Cond.fieldLink RX11 376 "RainWishes$Tray" "row" "[J" ∈ WSG := lkT2 195 rfl rfl
set_option maxRecDepth 20000 in
theorem lk_565 : Cond.fieldLink RX11 9 "RainWishes" "tape" "[B" ∈ WSG := lkT2 205 rfl rfl
set_option maxRecDepth 20000 in
theorem lk_566 : Cond.fieldLink RX11 108 "RainWishes" "onTape" "I" ∈ WSG := lkT2 206 rfl rfl
set_option maxRecDepth 20000 in
theorem lk_567 : Cond.fieldLink RX11 20 "RainWishes" "sky" "LRainWishes$Sky;" ∈ WSG := lkT2 207 rfl rfl
set_option maxRecDepth 20000 in
theorem lk_568 : Cond.fieldLink RX11 24 "RainWishes" "draft" "LRainWishes$Sky;" ∈ WSG := lkT2 208 rfl rfl
set_option maxRecDepth 20000 in
theorem lk_569 : Cond.fieldLink RX11 32 "RainWishes" "parser" "LRainWishes$Parser;" ∈ WSG := lkT2 209 rfl rfl
set_option maxRecDepth 20000 in
theorem lk_570 : Cond.fieldLink RX11 39 "RainWishes" "book" "LRainWishes$Book;" ∈ WSG := lkT2 210 rfl rfl
set_option maxRecDepth 20000 in
theorem lk_571 : Cond.fieldLink RX11 48 "RainWishes" "field" "LRainWishes$Field;" ∈ WSG := lkT2 211 rfl rfl
set_option maxRecDepth 20000 in
theorem lk_572 : Cond.fieldLink RX11 57 "RainWishes" "choices" "LRainWishes$Choices;" ∈ WSG := lkT2 212 rfl rfl
set_option maxRecDepth 20000 in
theorem lk_573 : Cond.fieldLink RX11 66 "RainWishes" "rules" "LRainWishes$Rules;" ∈ WSG := lkT2 213 rfl rfl
set_option maxRecDepth 20000 in
theorem lk_574 : Cond.fieldLink RX11 73 "RainWishes" "meant" "LRainWishes$Meant;" ∈ WSG := lkT2 214 rfl rfl
set_option maxRecDepth 20000 in
theorem lk_575 : Cond.fieldLink RX11 82 "RainWishes" "brackets" "LRainWishes$Brackets;" ∈ WSG := lkT2 215 rfl rfl
set_option maxRecDepth 20000 in
theorem lk_576 : Cond.fieldLink RX11 89 "RainWishes" "reserve" "LRainWishes$Holding;" ∈ WSG := lkT2 216 rfl rfl
set_option maxRecDepth 20000 in
theorem lk_577 : Cond.fieldLink RX11 95 "RainWishes" "trays" "[LRainWishes$Tray;" ∈ WSG := lkT2 217 rfl rfl
set_option maxRecDepth 20000 in
theorem lk_578 : Cond.fieldLink RX11 100 "RainWishes" "imageSkies" "[LRainWishes$Sky;" ∈ WSG := lkT2 218 rfl rfl
set_option maxRecDepth 20000 in
theorem lk_579 : Cond.fieldLink RX11 104 "RainWishes" "imageBooks" "[LRainWishes$Book;" ∈ WSG := lkT2 219 rfl rfl
set_option maxRecDepth 20000 in
theorem lk_580 : Cond.fieldLink RX11 13 "RainWishes" "imaged" "[Z" ∈ WSG := lkT2 220 rfl rfl
set_option maxRecDepth 20000 in
theorem lk_618 : Cond.methodLink RX11 112 yX11_lay ∈ WSG := lkT3 18 rfl rfl
set_option maxRecDepth 20000 in
theorem lk_620 : Cond.instanceMethod yX11_lay ∈ WSG := lkT3 20 rfl rfl
set_option maxRecDepth 20000 in
theorem lk_621 : Cond.code yX11_lay cX11_lay 3 none ∈ WSG := lkT3 21 rfl rfl
set_option maxRecDepth 20000 in
theorem lk_630 : Cond.methodLink RX11 186 yX3_whyNot ∈ WSG := lkT3 30 rfl rfl
set_option maxRecDepth 20000 in
theorem lk_631 : Cond.instanceMethod yX3_whyNot ∈ WSG := lkT3 31 rfl rfl
set_option maxRecDepth 20000 in
theorem lk_632 : Cond.selects RX3 yX3_whyNot yX3_whyNot ∈ WSG := lkT3 32 rfl rfl
set_option maxRecDepth 20000 in
theorem lk_633 : Cond.code yX3_whyNot cX3_whyNot 5 (some .int) ∈ WSG := lkT3 33 rfl rfl
set_option maxRecDepth 20000 in
theorem lk_634 : Cond.methodLink RX3 44 yJ6_bitCount_0f7a4 ∈ WSG := lkT3 34 rfl rfl
set_option maxRecDepth 20000 in
theorem lk_635 : Cond.static yJ6_bitCount_0f7a4 ∈ WSG := lkT3 35 rfl rfl
set_option maxRecDepth 20000 in
theorem lk_636 : Cond.code yJ6_bitCount_0f7a4 cJ6_bitCount_0f7a4 1 (some .int) ∈ WSG := lkT3 36 rfl rfl
set_option maxRecDepth 20000 in
theorem lk_637 : Cond.constant RJ6 265 (1431655765 : Int32) ∈ WSG := lkT3 37 rfl rfl
set_option maxRecDepth 20000 in
theorem lk_638 : Cond.constant RJ6 266 (858993459 : Int32) ∈ WSG := lkT3 38 rfl rfl
set_option maxRecDepth 20000 in
theorem lk_639 : Cond.constant RJ6 267 (252645135 : Int32) ∈ WSG := lkT3 39 rfl rfl
set_option maxRecDepth 20000 in
theorem lk_640 : Cond.methodLink RX3 70 yX8_weatherOf ∈ WSG := lkT3 40 rfl rfl
set_option maxRecDepth 20000 in
theorem lk_641 : Cond.instanceMethod yX8_weatherOf ∈ WSG := lkT3 41 rfl rfl
set_option maxRecDepth 20000 in
theorem lk_642 : Cond.selects RX8 yX8_weatherOf yX8_weatherOf ∈ WSG := lkT3 42 rfl rfl
set_option maxRecDepth 20000 in
theorem lk_643 : Cond.code yX8_weatherOf cX8_weatherOf 2 (some .int) ∈ WSG := lkT3 43 rfl rfl
set_option maxRecDepth 20000 in
theorem lk_644 : Cond.methodLink RX3 67 yX3_at ∈ WSG := lkT3 44 rfl rfl
set_option maxRecDepth 20000 in
theorem lk_645 : Cond.instanceMethod yX3_at ∈ WSG := lkT3 45 rfl rfl
set_option maxRecDepth 20000 in
theorem lk_646 : Cond.selects RX3 yX3_at yX3_at ∈ WSG := lkT3 46 rfl rfl
set_option maxRecDepth 20000 in
theorem lk_647 : Cond.code yX3_at cX3_at 4 (some .int) ∈ WSG := lkT3 47 rfl rfl
set_option maxRecDepth 20000 in
theorem lk_648 : Cond.methodLink RX3 34 yX3_truthOf ∈ WSG := lkT3 48 rfl rfl
set_option maxRecDepth 20000 in
theorem lk_650 : Cond.instanceMethod yX3_truthOf ∈ WSG := lkT3 50 rfl rfl
set_option maxRecDepth 20000 in
theorem lk_651 : Cond.code yX3_truthOf cX3_truthOf 7 (some .int) ∈ WSG := lkT3 51 rfl rfl
set_option maxRecDepth 20000 in
theorem lk_652 : Cond.methodLink RX3 50 yX3_reckon ∈ WSG := lkT3 52 rfl rfl
set_option maxRecDepth 20000 in
theorem lk_653 : Cond.static yX3_reckon ∈ WSG := lkT3 53 rfl rfl
set_option maxRecDepth 20000 in
theorem lk_654 : Cond.code yX3_reckon cX3_reckon 5 (some .long) ∈ WSG := lkT3 54 rfl rfl
set_option maxRecDepth 20000 in
theorem lk_655 : Cond.methodLink RX3 54 yX3_kept ∈ WSG := lkT3 55 rfl rfl
set_option maxRecDepth 20000 in
theorem lk_656 : Cond.static yX3_kept ∈ WSG := lkT3 56 rfl rfl
set_option maxRecDepth 20000 in
theorem lk_657 : Cond.code yX3_kept cX3_kept 2 (some .int) ∈ WSG := lkT3 57 rfl rfl
set_option maxRecDepth 20000 in
theorem lk_658 : Cond.constantLong RX3 58 (1000000 : Int64) ∈ WSG := lkT3 58 rfl rfl
set_option maxRecDepth 20000 in
theorem lk_659 : Cond.constant RX3 60 (1000000 : Int32) ∈ WSG := lkT3 59 rfl rfl
set_option maxRecDepth 20000 in
theorem lk_660 : Cond.constantLong RX3 61 (-1000000 : Int64) ∈ WSG := lkT3 60 rfl rfl
set_option maxRecDepth 20000 in
theorem lk_661 : Cond.constant RX3 63 (-1000000 : Int32) ∈ WSG := lkT3 61 rfl rfl
set_option maxRecDepth 20000 in
theorem lk_666 : Cond.methodLink RX11 194 yX2_settled ∈ WSG := lkT3 66 rfl rfl
set_option maxRecDepth 20000 in
theorem lk_667 : Cond.instanceMethod yX2_settled ∈ WSG := lkT3 67 rfl rfl
set_option maxRecDepth 20000 in
theorem lk_668 : Cond.selects RX2 yX2_settled yX2_settled ∈ WSG := lkT3 68 rfl rfl
set_option maxRecDepth 20000 in
theorem lk_669 : Cond.code yX2_settled cX2_settled 1 (some (.object "RainWishes$Choices")) ∈ WSG := lkT3 69 rfl rfl
set_option maxRecDepth 20000 in
theorem lk_670 : Cond.methodLink RX2 44 yX2_settle ∈ WSG := lkT3 70 rfl rfl
set_option maxRecDepth 20000 in
theorem lk_672 : Cond.instanceMethod yX2_settle ∈ WSG := lkT3 72 rfl rfl
set_option maxRecDepth 20000 in
theorem lk_673 : Cond.code yX2_settle cX2_settle 3 none ∈ WSG := lkT3 73 rfl rfl
set_option maxRecDepth 20000 in
theorem lk_674 : Cond.methodLink RX2 50 yJ7_fill_53178 ∈ WSG := lkT3 74 rfl rfl
set_option maxRecDepth 20000 in
theorem lk_675 : Cond.methodLink RX2 61 yX3_whyNot ∈ WSG := lkT3 75 rfl rfl
set_option maxRecDepth 20000 in
theorem lk_676 : Cond.methodLink RX2 67 yX3_grantedBy ∈ WSG := lkT3 76 rfl rfl
set_option maxRecDepth 20000 in
theorem lk_677 : Cond.instanceMethod yX3_grantedBy ∈ WSG := lkT3 77 rfl rfl
set_option maxRecDepth 20000 in
theorem lk_678 : Cond.selects RX3 yX3_grantedBy yX3_grantedBy ∈ WSG := lkT3 78 rfl rfl
set_option maxRecDepth 20000 in
theorem lk_679 : Cond.code yX3_grantedBy cX3_grantedBy 3 (some .int) ∈ WSG := lkT3 79 rfl rfl
set_option maxRecDepth 20000 in
theorem lk_680 : Cond.methodLink RX2 71 yX2_lesser ∈ WSG := lkT3 80 rfl rfl
set_option maxRecDepth 20000 in
theorem lk_681 : Cond.static yX2_lesser ∈ WSG := lkT3 81 rfl rfl
set_option maxRecDepth 20000 in
theorem lk_682 : Cond.code yX2_lesser cX2_lesser 3 (some .int) ∈ WSG := lkT3 82 rfl rfl
set_option maxRecDepth 20000 in
theorem lk_683 : Cond.methodLink RX2 80 yJ6_bitCount_0f7a4 ∈ WSG := lkT3 83 rfl rfl
set_option maxRecDepth 20000 in
theorem lk_684 : Cond.methodLink RX2 74 yX2_spread ∈ WSG := lkT3 84 rfl rfl
set_option maxRecDepth 20000 in
theorem lk_686 : Cond.instanceMethod yX2_spread ∈ WSG := lkT3 86 rfl rfl
set_option maxRecDepth 20000 in
theorem lk_687 : Cond.code yX2_spread cX2_spread 3 none ∈ WSG := lkT3 87 rfl rfl
set_option maxRecDepth 20000 in
theorem lk_692 : Cond.methodLink RX11 257 yX2_nightsForAll ∈ WSG := lkT3 92 rfl rfl
set_option maxRecDepth 20000 in
theorem lk_693 : Cond.instanceMethod yX2_nightsForAll ∈ WSG := lkT3 93 rfl rfl
set_option maxRecDepth 20000 in
theorem lk_694 : Cond.selects RX2 yX2_nightsForAll yX2_nightsForAll ∈ WSG := lkT3 94 rfl rfl
set_option maxRecDepth 20000 in
theorem lk_695 : Cond.code yX2_nightsForAll cX2_nightsForAll 2 (some .int) ∈ WSG := lkT3 95 rfl rfl
set_option maxRecDepth 20000 in
theorem lk_696 : Cond.methodLink RX2 93 yX2_nightsFor ∈ WSG := lkT3 96 rfl rfl
set_option maxRecDepth 20000 in
theorem lk_698 : Cond.instanceMethod yX2_nightsFor ∈ WSG := lkT3 98 rfl rfl
set_option maxRecDepth 20000 in
theorem lk_699 : Cond.code yX2_nightsFor cX2_nightsFor 5 (some .int) ∈ WSG := lkT3 99 rfl rfl
set_option maxRecDepth 20000 in
theorem lk_700 : Cond.methodLink RX2 86 yX2_areTogether ∈ WSG := lkT3 100 rfl rfl
set_option maxRecDepth 20000 in
theorem lk_702 : Cond.instanceMethod yX2_areTogether ∈ WSG := lkT3 102 rfl rfl
set_option maxRecDepth 20000 in
theorem lk_703 : Cond.code yX2_areTogether cX2_areTogether 2 (some .boolean) ∈ WSG := lkT3 103 rfl rfl
set_option maxRecDepth 20000 in
theorem lk_708 : Cond.methodLink RX11 290 yX7_servedAsAsked ∈ WSG := lkT3 108 rfl rfl
set_option maxRecDepth 20000 in
theorem lk_709 : Cond.instanceMethod yX7_servedAsAsked ∈ WSG := lkT3 109 rfl rfl
set_option maxRecDepth 20000 in
theorem lk_710 : Cond.selects RX7 yX7_servedAsAsked yX7_servedAsAsked ∈ WSG := lkT3 110 rfl rfl
set_option maxRecDepth 20000 in
theorem lk_711 : Cond.code yX7_servedAsAsked cX7_servedAsAsked 2 (some .int) ∈ WSG := lkT3 111 rfl rfl
set_option maxRecDepth 20000 in
theorem lk_712 : Cond.methodLink RX7 30 yX7_sayAsItIs ∈ WSG := lkT3 112 rfl rfl
set_option maxRecDepth 20000 in
theorem lk_714 : Cond.instanceMethod yX7_sayAsItIs ∈ WSG := lkT3 114 rfl rfl
set_option maxRecDepth 20000 in
theorem lk_715 : Cond.code yX7_sayAsItIs cX7_sayAsItIs 1 none ∈ WSG := lkT3 115 rfl rfl
set_option maxRecDepth 20000 in
theorem lk_716 : Cond.methodLink RX7 42 arraycopyName ∈ WSG := lkT3 116 rfl rfl
set_option maxRecDepth 20000 in
theorem lk_717 : Cond.static arraycopyName ∈ WSG := lkT3 117 rfl rfl
set_option maxRecDepth 20000 in
theorem lk_718 : Cond.native arraycopyName ∈ WSG := lkT3 118 rfl rfl
set_option maxRecDepth 20000 in
theorem lk_719 : Cond.methodLink RX7 33 yX7_serve ∈ WSG := lkT3 119 rfl rfl
set_option maxRecDepth 20000 in
theorem lk_721 : Cond.instanceMethod yX7_serve ∈ WSG := lkT3 121 rfl rfl
set_option maxRecDepth 20000 in
theorem lk_722 : Cond.code yX7_serve cX7_serve 6 (some .int) ∈ WSG := lkT3 122 rfl rfl
set_option maxRecDepth 20000 in
theorem lk_723 : Cond.methodLink RX7 63 yX7_firstOf ∈ WSG := lkT3 123 rfl rfl
set_option maxRecDepth 20000 in
theorem lk_725 : Cond.instanceMethod yX7_firstOf ∈ WSG := lkT3 125 rfl rfl
set_option maxRecDepth 20000 in
theorem lk_726 : Cond.code yX7_firstOf cX7_firstOf 7 (some .int) ∈ WSG := lkT3 126 rfl rfl
set_option maxRecDepth 20000 in
theorem lk_727 : Cond.methodLink RX7 72 yX7_turnOf ∈ WSG := lkT3 127 rfl rfl
set_option maxRecDepth 20000 in
theorem lk_729 : Cond.instanceMethod yX7_turnOf ∈ WSG := lkT3 129 rfl rfl
set_option maxRecDepth 20000 in
theorem lk_730 : Cond.code yX7_turnOf cX7_turnOf 4 (some .int) ∈ WSG := lkT3 130 rfl rfl
set_option maxRecDepth 20000 in
theorem lk_731 : Cond.methodLink RX7 78 yX7_openOf ∈ WSG := lkT3 131 rfl rfl
set_option maxRecDepth 20000 in
theorem lk_733 : Cond.instanceMethod yX7_openOf ∈ WSG := lkT3 133 rfl rfl
set_option maxRecDepth 20000 in
theorem lk_734 : Cond.code yX7_openOf cX7_openOf 4 (some .int) ∈ WSG := lkT3 134 rfl rfl
set_option maxRecDepth 20000 in
theorem lk_735 : Cond.methodLink RX7 67 yX2_leastPlan ∈ WSG := lkT3 135 rfl rfl
set_option maxRecDepth 20000 in
theorem lk_736 : Cond.instanceMethod yX2_leastPlan ∈ WSG := lkT3 136 rfl rfl
set_option maxRecDepth 20000 in
theorem lk_737 : Cond.selects RX2 yX2_leastPlan yX2_leastPlan ∈ WSG := lkT3 137 rfl rfl
set_option maxRecDepth 20000 in
theorem lk_738 : Cond.code yX2_leastPlan cX2_leastPlan 2 (some .int) ∈ WSG := lkT3 138 rfl rfl
set_option maxRecDepth 20000 in
theorem lk_739 : Cond.methodLink RX7 81 yJ6_bitCount_0f7a4 ∈ WSG := lkT3 139 rfl rfl
set_option maxRecDepth 20000 in
theorem lk_740 : Cond.methodLink RX11 254 yX8_weightOf ∈ WSG := lkT3 140 rfl rfl
set_option maxRecDepth 20000 in
theorem lk_741 : Cond.instanceMethod yX8_weightOf ∈ WSG := lkT3 141 rfl rfl
set_option maxRecDepth 20000 in
theorem lk_742 : Cond.selects RX8 yX8_weightOf yX8_weightOf ∈ WSG := lkT3 142 rfl rfl
set_option maxRecDepth 20000 in
theorem lk_743 : Cond.code yX8_weightOf cX8_weightOf 4 (some .int) ∈ WSG := lkT3 143 rfl rfl
set_option maxRecDepth 20000 in
theorem lk_748 : Cond.methodLink RX11 351 yX11_makeNight ∈ WSG := lkT3 148 rfl rfl
set_option maxRecDepth 20000 in
theorem lk_750 : Cond.instanceMethod yX11_makeNight ∈ WSG := lkT3 150 rfl rfl
set_option maxRecDepth 20000 in
theorem lk_751 : Cond.code yX11_makeNight cX11_makeNight 3 (some .int) ∈ WSG := lkT3 151 rfl rfl
set_option maxRecDepth 20000 in
theorem lk_752 : Cond.methodLink RX11 190 yX3_grantedBy ∈ WSG := lkT3 152 rfl rfl
set_option maxRecDepth 20000 in
theorem lk_753 : Cond.methodLink RX11 354 yX0_remember ∈ WSG := lkT3 153 rfl rfl
set_option maxRecDepth 20000 in
theorem lk_754 : Cond.instanceMethod yX0_remember ∈ WSG := lkT3 154 rfl rfl
set_option maxRecDepth 20000 in
theorem lk_755 : Cond.selects RX0 yX0_remember yX0_remember ∈ WSG := lkT3 155 rfl rfl
set_option maxRecDepth 20000 in
theorem lk_756 : Cond.code yX0_remember cX0_remember 2 none ∈ WSG := lkT3 156 rfl rfl
set_option maxRecDepth 20000 in
theorem lk_757 : Cond.methodLink RX0 39 arraycopyName ∈ WSG := lkT3 157 rfl rfl
set_option maxRecDepth 20000 in
theorem lk_758 : Cond.methodLink RX11 357 yX0_pass ∈ WSG := lkT3 158 rfl rfl
set_option maxRecDepth 20000 in
theorem lk_759 : Cond.instanceMethod yX0_pass ∈ WSG := lkT3 159 rfl rfl
set_option maxRecDepth 20000 in
theorem lk_760 : Cond.selects RX0 yX0_pass yX0_pass ∈ WSG := lkT3 160 rfl rfl
set_option maxRecDepth 20000 in
theorem lk_761 : Cond.code yX0_pass cX0_pass 4 none ∈ WSG := lkT3 161 rfl rfl
set_option maxRecDepth 20000 in
theorem lk_766 : Cond.methodLink RX11 263 yJ6_bitCount_0f7a4 ∈ WSG := lkT3 166 rfl rfl
set_option maxRecDepth 20000 in
theorem lk_767 : Cond.methodLink RX11 445 yX0_allDues ∈ WSG := lkT3 167 rfl rfl
set_option maxRecDepth 20000 in
theorem lk_768 : Cond.instanceMethod yX0_allDues ∈ WSG := lkT3 168 rfl rfl
set_option maxRecDepth 20000 in
theorem lk_769 : Cond.selects RX0 yX0_allDues yX0_allDues ∈ WSG := lkT3 169 rfl rfl
set_option maxRecDepth 20000 in
theorem lk_770 : Cond.code yX0_allDues cX0_allDues 3 (some .int) ∈ WSG := lkT3 170 rfl rfl
set_option maxRecDepth 20000 in
theorem lk_779 : Cond.classLink RX11 116 "java/lang/IllegalArgumentException" ∈ WSG := lkT3 179 rfl rfl
set_option maxRecDepth 20000 in
theorem lk_847 : Cond.methodLink RX11 123 yX6_parse ∈ WSG := lkT4 7 rfl rfl
set_option maxRecDepth 20000 in
theorem lk_848 : Cond.instanceMethod yX6_parse ∈ WSG := lkT4 8 rfl rfl
set_option maxRecDepth 20000 in
theorem lk_849 : Cond.selects RX6 yX6_parse yX6_parse ∈ WSG := lkT4 9 rfl rfl
set_option maxRecDepth 20000 in
theorem lk_850 : Cond.code yX6_parse cX6_parse 4 (some .boolean) ∈ WSG := lkT4 10 rfl rfl
set_option maxRecDepth 20000 in
theorem lk_851 : Cond.methodLink RX6 32 yX8_clear ∈ WSG := lkT4 11 rfl rfl
set_option maxRecDepth 20000 in
theorem lk_852 : Cond.instanceMethod yX8_clear ∈ WSG := lkT4 12 rfl rfl
set_option maxRecDepth 20000 in
theorem lk_853 : Cond.selects RX8 yX8_clear yX8_clear ∈ WSG := lkT4 13 rfl rfl
set_option maxRecDepth 20000 in
theorem lk_854 : Cond.code yX8_clear cX8_clear 1 none ∈ WSG := lkT4 14 rfl rfl
set_option maxRecDepth 20000 in
theorem lk_855 : Cond.methodLink RX8 49 yX8_measure ∈ WSG := lkT4 15 rfl rfl
set_option maxRecDepth 20000 in
theorem lk_856 : Cond.instanceMethod yX8_measure ∈ WSG := lkT4 16 rfl rfl
set_option maxRecDepth 20000 in
theorem lk_857 : Cond.selects RX8 yX8_measure yX8_measure ∈ WSG := lkT4 17 rfl rfl
set_option maxRecDepth 20000 in
theorem lk_858 : Cond.code yX8_measure cX8_measure 3 none ∈ WSG := lkT4 18 rfl rfl
set_option maxRecDepth 20000 in
theorem lk_859 : Cond.methodLink RX6 43 yX9_begin ∈ WSG := lkT4 19 rfl rfl
set_option maxRecDepth 20000 in
theorem lk_860 : Cond.instanceMethod yX9_begin ∈ WSG := lkT4 20 rfl rfl
set_option maxRecDepth 20000 in
theorem lk_861 : Cond.selects RX9 yX9_begin yX9_begin ∈ WSG := lkT4 21 rfl rfl
set_option maxRecDepth 20000 in
theorem lk_862 : Cond.code yX9_begin cX9_begin 2 none ∈ WSG := lkT4 22 rfl rfl
set_option maxRecDepth 20000 in
theorem lk_863 : Cond.methodLink RX9 20 yX9_advance ∈ WSG := lkT4 23 rfl rfl
set_option maxRecDepth 20000 in
theorem lk_864 : Cond.instanceMethod yX9_advance ∈ WSG := lkT4 24 rfl rfl
set_option maxRecDepth 20000 in
theorem lk_865 : Cond.selects RX9 yX9_advance yX9_advance ∈ WSG := lkT4 25 rfl rfl
set_option maxRecDepth 20000 in
theorem lk_866 : Cond.code yX9_advance cX9_advance 1 none ∈ WSG := lkT4 26 rfl rfl
set_option maxRecDepth 20000 in
theorem lk_867 : Cond.methodLink RX9 29 yX9_runEnd ∈ WSG := lkT4 27 rfl rfl
set_option maxRecDepth 20000 in
theorem lk_869 : Cond.instanceMethod yX9_runEnd ∈ WSG := lkT4 29 rfl rfl
set_option maxRecDepth 20000 in
theorem lk_870 : Cond.code yX9_runEnd cX9_runEnd 4 (some .int) ∈ WSG := lkT4 30 rfl rfl
set_option maxRecDepth 20000 in
theorem lk_872 : Cond.methodLink RX9 35 yJ0_indexOf_0f7a4 ∈ WSG := lkT4 32 rfl rfl
set_option maxRecDepth 20000 in
theorem lk_873 : Cond.instanceMethod yJ0_indexOf_0f7a4 ∈ WSG := lkT4 33 rfl rfl
set_option maxRecDepth 20000 in
theorem lk_874 : Cond.selects "java/lang/String" yJ0_indexOf_0f7a4 yJ0_indexOf_0f7a4 ∈ WSG := lkT4 34 rfl rfl
set_option maxRecDepth 20000 in
theorem lk_875 : Cond.code yJ0_indexOf_0f7a4 cJ0_indexOf_0f7a4 2 (some .int) ∈ WSG := lkT4 35 rfl rfl
set_option maxRecDepth 20000 in
theorem lk_876 : Cond.methodLink RJ0 633 yJ0_indexOf_7cf53 ∈ WSG := lkT4 36 rfl rfl
set_option maxRecDepth 20000 in
theorem lk_877 : Cond.instanceMethod yJ0_indexOf_7cf53 ∈ WSG := lkT4 37 rfl rfl
set_option maxRecDepth 20000 in
theorem lk_878 : Cond.selects "java/lang/String" yJ0_indexOf_7cf53 yJ0_indexOf_7cf53 ∈ WSG := lkT4 38 rfl rfl
set_option maxRecDepth 20000 in
theorem lk_879 : Cond.code yJ0_indexOf_7cf53 cJ0_indexOf_7cf53 3 (some .int) ∈ WSG := lkT4 39 rfl rfl
set_option maxRecDepth 20000 in
theorem lk_880 : Cond.methodLink RJ0 492 yJ0_isLatin1_aae02 ∈ WSG := lkT4 40 rfl rfl
set_option maxRecDepth 20000 in
theorem lk_881 : Cond.instanceMethod yJ0_isLatin1_aae02 ∈ WSG := lkT4 41 rfl rfl
set_option maxRecDepth 20000 in
theorem lk_882 : Cond.selects "java/lang/String" yJ0_isLatin1_aae02 yJ0_isLatin1_aae02 ∈ WSG := lkT4 42 rfl rfl
set_option maxRecDepth 20000 in
theorem lk_883 : Cond.code yJ0_isLatin1_aae02 cJ0_isLatin1_aae02 1 (some .boolean) ∈ WSG := lkT4 43 rfl rfl
set_option maxRecDepth 20000 in
theorem lk_884 : Cond.fieldLink RJ0 38 "java/lang/String" "COMPACT_STRINGS" "Z" ∈ WSG := lkT4 44 rfl rfl
set_option maxRecDepth 20000 in
theorem lk_886 : Cond.methodLink RJ0 505 yJ0_length_8abf5 ∈ WSG := lkT4 46 rfl rfl
set_option maxRecDepth 20000 in
theorem lk_887 : Cond.instanceMethod yJ0_length_8abf5 ∈ WSG := lkT4 47 rfl rfl
set_option maxRecDepth 20000 in
theorem lk_888 : Cond.selects "java/lang/String" yJ0_length_8abf5 yJ0_length_8abf5 ∈ WSG := lkT4 48 rfl rfl
set_option maxRecDepth 20000 in
theorem lk_889 : Cond.code yJ0_length_8abf5 cJ0_length_8abf5 1 (some .int) ∈ WSG := lkT4 49 rfl rfl
set_option maxRecDepth 20000 in
theorem lk_890 : Cond.methodLink RJ0 335 yJ0_coder_7d493 ∈ WSG := lkT4 50 rfl rfl
set_option maxRecDepth 20000 in
theorem lk_891 : Cond.instanceMethod yJ0_coder_7d493 ∈ WSG := lkT4 51 rfl rfl
set_option maxRecDepth 20000 in
theorem lk_892 : Cond.selects "java/lang/String" yJ0_coder_7d493 yJ0_coder_7d493 ∈ WSG := lkT4 52 rfl rfl
set_option maxRecDepth 20000 in
theorem lk_893 : Cond.code yJ0_coder_7d493 cJ0_coder_7d493 1 (some .byte) ∈ WSG := lkT4 53 rfl rfl
set_option maxRecDepth 20000 in
theorem lk_894 : Cond.methodLink RJ0 637 yJ1_indexOf_4cfef ∈ WSG := lkT4 54 rfl rfl
set_option maxRecDepth 20000 in
theorem lk_895 : Cond.static yJ1_indexOf_4cfef ∈ WSG := lkT4 55 rfl rfl
set_option maxRecDepth 20000 in
theorem lk_896 : Cond.code yJ1_indexOf_4cfef cJ1_indexOf_4cfef 4 (some .int) ∈ WSG := lkT4 56 rfl rfl
set_option maxRecDepth 20000 in
theorem lk_897 : Cond.methodLink RJ1 88 yJ1_canEncode_9a6ad ∈ WSG := lkT4 57 rfl rfl
set_option maxRecDepth 20000 in
theorem lk_898 : Cond.static yJ1_canEncode_9a6ad ∈ WSG := lkT4 58 rfl rfl
set_option maxRecDepth 20000 in
theorem lk_899 : Cond.code yJ1_canEncode_9a6ad cJ1_canEncode_9a6ad 1 (some .boolean) ∈ WSG := lkT4 59 rfl rfl
set_option maxRecDepth 20000 in
theorem lk_900 : Cond.methodLink RJ1 92 Lib.Math.max.name ∈ WSG := lkT4 60 rfl rfl
set_option maxRecDepth 20000 in
theorem lk_901 : Cond.static Lib.Math.max.name ∈ WSG := lkT4 61 rfl rfl
set_option maxRecDepth 20000 in
theorem lk_902 : Cond.code Lib.Math.max.name Lib.Math.max.code 2 (some .int) ∈ WSG := lkT4 62 rfl rfl
set_option maxRecDepth 20000 in
theorem lk_903 : Cond.methodLink RJ1 38 Lib.Math.min.name ∈ WSG := lkT4 63 rfl rfl
set_option maxRecDepth 20000 in
theorem lk_904 : Cond.static Lib.Math.min.name ∈ WSG := lkT4 64 rfl rfl
set_option maxRecDepth 20000 in
theorem lk_905 : Cond.code Lib.Math.min.name Lib.Math.min.code 2 (some .int) ∈ WSG := lkT4 65 rfl rfl
set_option maxRecDepth 20000 in
theorem lk_906 : Cond.methodLink RJ1 95 yJ1_indexOfChar_4cfef ∈ WSG := lkT4 66 rfl rfl
set_option maxRecDepth 20000 in
theorem lk_907 : Cond.static yJ1_indexOfChar_4cfef ∈ WSG := lkT4 67 rfl rfl
set_option maxRecDepth 20000 in
theorem lk_908 : Cond.code yJ1_indexOfChar_4cfef cJ1_indexOfChar_4cfef 6 (some .int) ∈ WSG := lkT4 68 rfl rfl
set_option maxRecDepth 20000 in
theorem lk_927 : Cond.fieldLink RJ0 1053 "jdk/internal/util/Preconditions" "SIOOBE_FORMATTER" "Ljava/util/function/BiFunction;" ∈ WSG := lkT4 87 rfl rfl
set_option maxRecDepth 20000 in
theorem lk_958 : Cond.methodLink RX6 47 yX6_readSky ∈ WSG := lkT4 118 rfl rfl
set_option maxRecDepth 20000 in
theorem lk_960 : Cond.instanceMethod yX6_readSky ∈ WSG := lkT4 120 rfl rfl
set_option maxRecDepth 20000 in
theorem lk_961 : Cond.code yX6_readSky cX6_readSky 2 (some .boolean) ∈ WSG := lkT4 121 rfl rfl
set_option maxRecDepth 20000 in
theorem lk_963 : Cond.methodLink RX6 88 yX6_take ∈ WSG := lkT4 123 rfl rfl
set_option maxRecDepth 20000 in
theorem lk_965 : Cond.instanceMethod yX6_take ∈ WSG := lkT4 125 rfl rfl
set_option maxRecDepth 20000 in
theorem lk_966 : Cond.code yX6_take cX6_take 2 (some .boolean) ∈ WSG := lkT4 126 rfl rfl
set_option maxRecDepth 20000 in
theorem lk_967 : Cond.methodLink RX6 69 yX9_at ∈ WSG := lkT4 127 rfl rfl
set_option maxRecDepth 20000 in
theorem lk_968 : Cond.instanceMethod yX9_at ∈ WSG := lkT4 128 rfl rfl
set_option maxRecDepth 20000 in
theorem lk_969 : Cond.selects RX9 yX9_at yX9_at ∈ WSG := lkT4 129 rfl rfl
set_option maxRecDepth 20000 in
theorem lk_970 : Cond.code yX9_at cX9_at 3 (some .boolean) ∈ WSG := lkT4 130 rfl rfl
set_option maxRecDepth 20000 in
theorem lk_971 : Cond.methodLink RX9 41 yJ0_length_8abf5 ∈ WSG := lkT4 131 rfl rfl
set_option maxRecDepth 20000 in
theorem lk_972 : Cond.methodLink RX9 44 yJ0_charAt_5068e ∈ WSG := lkT4 132 rfl rfl
set_option maxRecDepth 20000 in
theorem lk_973 : Cond.instanceMethod yJ0_charAt_5068e ∈ WSG := lkT4 133 rfl rfl
set_option maxRecDepth 20000 in
theorem lk_974 : Cond.selects "java/lang/String" yJ0_charAt_5068e yJ0_charAt_5068e ∈ WSG := lkT4 134 rfl rfl
set_option maxRecDepth 20000 in
theorem lk_975 : Cond.code yJ0_charAt_5068e cJ0_charAt_5068e 2 (some .char) ∈ WSG := lkT4 135 rfl rfl
set_option maxRecDepth 20000 in
theorem lk_976 : Cond.methodLink RJ0 495 yJ1_charAt_3b067 ∈ WSG := lkT4 136 rfl rfl
set_option maxRecDepth 20000 in
theorem lk_977 : Cond.static yJ1_charAt_3b067 ∈ WSG := lkT4 137 rfl rfl
set_option maxRecDepth 20000 in
theorem lk_978 : Cond.code yJ1_charAt_3b067 cJ1_charAt_3b067 2 (some .char) ∈ WSG := lkT4 138 rfl rfl
set_option maxRecDepth 20000 in
theorem lk_979 : Cond.methodLink RJ1 9 yJ0_checkIndex_df160 ∈ WSG := lkT4 139 rfl rfl
set_option maxRecDepth 20000 in
theorem lk_980 : Cond.static yJ0_checkIndex_df160 ∈ WSG := lkT4 140 rfl rfl
set_option maxRecDepth 20000 in
theorem lk_981 : Cond.code yJ0_checkIndex_df160 cJ0_checkIndex_df160 2 none ∈ WSG := lkT4 141 rfl rfl
set_option maxRecDepth 20000 in
theorem lk_982 : Cond.methodLink RJ0 1059 yJ3_checkIndex_8e157 ∈ WSG := lkT4 142 rfl rfl
set_option maxRecDepth 20000 in
theorem lk_983 : Cond.static yJ3_checkIndex_8e157 ∈ WSG := lkT4 143 rfl rfl
set_option maxRecDepth 20000 in
theorem lk_984 : Cond.code yJ3_checkIndex_8e157 cJ3_checkIndex_8e157 3 (some .int) ∈ WSG := lkT4 144 rfl rfl
set_option maxRecDepth 20000 in
theorem lk_992 : Cond.methodLink RX6 73 yX6_refuse ∈ WSG := lkT4 152 rfl rfl
set_option maxRecDepth 20000 in
theorem lk_994 : Cond.instanceMethod yX6_refuse ∈ WSG := lkT4 154 rfl rfl
set_option maxRecDepth 20000 in
theorem lk_995 : Cond.code yX6_refuse cX6_refuse 2 (some .boolean) ∈ WSG := lkT4 155 rfl rfl
set_option maxRecDepth 20000 in
theorem lk_996 : Cond.methodLink RX6 77 yX9_advance ∈ WSG := lkT4 156 rfl rfl
set_option maxRecDepth 20000 in
theorem lk_997 : Cond.methodLink RX6 91 yX6_takeNumber ∈ WSG := lkT4 157 rfl rfl
set_option maxRecDepth 20000 in
theorem lk_999 : Cond.instanceMethod yX6_takeNumber ∈ WSG := lkT4 159 rfl rfl
set_option maxRecDepth 20000 in
theorem lk_1000 : Cond.code yX6_takeNumber cX6_takeNumber 3 (some .boolean) ∈ WSG := lkT4 160 rfl rfl
set_option maxRecDepth 20000 in
theorem lk_1001 : Cond.methodLink RX6 80 yX9_value ∈ WSG := lkT4 161 rfl rfl
set_option maxRecDepth 20000 in
theorem lk_1002 : Cond.instanceMethod yX9_value ∈ WSG := lkT4 162 rfl rfl
set_option maxRecDepth 20000 in
theorem lk_1003 : Cond.selects RX9 yX9_value yX9_value ∈ WSG := lkT4 163 rfl rfl
set_option maxRecDepth 20000 in
theorem lk_1004 : Cond.code yX9_value cX9_value 3 (some .int) ∈ WSG := lkT4 164 rfl rfl
set_option maxRecDepth 20000 in
theorem lk_1005 : Cond.methodLink RX6 98 Lib.Math.min.name ∈ WSG := lkT4 165 rfl rfl
set_option maxRecDepth 20000 in
theorem lk_1006 : Cond.methodLink RX6 63 yX8_measure ∈ WSG := lkT4 166 rfl rfl
set_option maxRecDepth 20000 in
theorem lk_1007 : Cond.methodLink RX6 107 yX6_endLine ∈ WSG := lkT4 167 rfl rfl
set_option maxRecDepth 20000 in
theorem lk_1009 : Cond.instanceMethod yX6_endLine ∈ WSG := lkT4 169 rfl rfl
set_option maxRecDepth 20000 in
theorem lk_1010 : Cond.code yX6_endLine cX6_endLine 1 (some .boolean) ∈ WSG := lkT4 170 rfl rfl
set_option maxRecDepth 20000 in
theorem lk_1012 : Cond.methodLink RX6 54 yX6_readLine ∈ WSG := lkT4 172 rfl rfl
set_option maxRecDepth 20000 in
theorem lk_1014 : Cond.instanceMethod yX6_readLine ∈ WSG := lkT4 174 rfl rfl
set_option maxRecDepth 20000 in
theorem lk_1015 : Cond.code yX6_readLine cX6_readLine 2 (some .boolean) ∈ WSG := lkT4 175 rfl rfl
set_option maxRecDepth 20000 in
theorem lk_1017 : Cond.methodLink RX6 117 yX6_readWish ∈ WSG := lkT4 177 rfl rfl
set_option maxRecDepth 20000 in
theorem lk_1019 : Cond.instanceMethod yX6_readWish ∈ WSG := lkT4 179 rfl rfl
set_option maxRecDepth 20000 in
theorem lk_1020 : Cond.code yX6_readWish cX6_readWish 2 (some .boolean) ∈ WSG := lkT4 180 rfl rfl
set_option maxRecDepth 20000 in
theorem lk_1027 : Cond.methodLink RX6 57 yX6_readOperand ∈ WSG := lkT4 187 rfl rfl
set_option maxRecDepth 20000 in
theorem lk_1029 : Cond.instanceMethod yX6_readOperand ∈ WSG := lkT4 189 rfl rfl
set_option maxRecDepth 20000 in
theorem lk_1030 : Cond.code yX6_readOperand cX6_readOperand 1 (some .boolean) ∈ WSG := lkT4 190 rfl rfl
set_option maxRecDepth 20000 in
theorem lk_1032 : Cond.methodLink RX6 170 yX6_open ∈ WSG := lkT4 192 rfl rfl
set_option maxRecDepth 20000 in
theorem lk_1034 : Cond.instanceMethod yX6_open ∈ WSG := lkT4 194 rfl rfl
set_option maxRecDepth 20000 in
theorem lk_1035 : Cond.code yX6_open cX6_open 3 (some .boolean) ∈ WSG := lkT4 195 rfl rfl
set_option maxRecDepth 20000 in
theorem lk_1036 : Cond.methodLink RX6 180 yX6_await ∈ WSG := lkT4 196 rfl rfl
set_option maxRecDepth 20000 in
theorem lk_1038 : Cond.instanceMethod yX6_await ∈ WSG := lkT4 198 rfl rfl
set_option maxRecDepth 20000 in
theorem lk_1039 : Cond.code yX6_await cX6_await 3 (some .boolean) ∈ WSG := lkT4 199 rfl rfl
set_option maxRecDepth 20000 in
theorem lk_1042 : Cond.methodLink RX6 177 yX6_readAtom ∈ WSG := lkT4 202 rfl rfl
set_option maxRecDepth 20000 in
theorem lk_1044 : Cond.instanceMethod yX6_readAtom ∈ WSG := lkT4 204 rfl rfl
set_option maxRecDepth 20000 in
theorem lk_1045 : Cond.code yX6_readAtom cX6_readAtom 4 (some .boolean) ∈ WSG := lkT4 205 rfl rfl
set_option maxRecDepth 20000 in
theorem lk_1046 : Cond.methodLink RX6 183 yX8_emit ∈ WSG := lkT4 206 rfl rfl
set_option maxRecDepth 20000 in
theorem lk_1047 : Cond.instanceMethod yX8_emit ∈ WSG := lkT4 207 rfl rfl
set_option maxRecDepth 20000 in
theorem lk_1048 : Cond.selects RX8 yX8_emit yX8_emit ∈ WSG := lkT4 208 rfl rfl
set_option maxRecDepth 20000 in
theorem lk_1049 : Cond.code yX8_emit cX8_emit 3 none ∈ WSG := lkT4 209 rfl rfl
set_option maxRecDepth 20000 in
theorem lk_1054 : Cond.methodLink RX6 198 yX8_cellsOnDay ∈ WSG := lkT4 214 rfl rfl
set_option maxRecDepth 20000 in
theorem lk_1055 : Cond.instanceMethod yX8_cellsOnDay ∈ WSG := lkT4 215 rfl rfl
set_option maxRecDepth 20000 in
theorem lk_1056 : Cond.selects RX8 yX8_cellsOnDay yX8_cellsOnDay ∈ WSG := lkT4 216 rfl rfl
set_option maxRecDepth 20000 in
theorem lk_1057 : Cond.code yX8_cellsOnDay cX8_cellsOnDay 4 (some .int) ∈ WSG := lkT4 217 rfl rfl
set_option maxRecDepth 20000 in
theorem lk_1058 : Cond.methodLink RX6 202 yX8_cellsOfParish ∈ WSG := lkT4 218 rfl rfl
set_option maxRecDepth 20000 in
theorem lk_1059 : Cond.instanceMethod yX8_cellsOfParish ∈ WSG := lkT4 219 rfl rfl
set_option maxRecDepth 20000 in
theorem lk_1060 : Cond.selects RX8 yX8_cellsOfParish yX8_cellsOfParish ∈ WSG := lkT4 220 rfl rfl
set_option maxRecDepth 20000 in
theorem lk_1061 : Cond.code yX8_cellsOfParish cX8_cellsOfParish 2 (some .int) ∈ WSG := lkT4 221 rfl rfl
set_option maxRecDepth 20000 in
theorem lk_1062 : Cond.methodLink RX6 60 yX6_readOperator ∈ WSG := lkT4 222 rfl rfl
set_option maxRecDepth 20000 in
theorem lk_1064 : Cond.instanceMethod yX6_readOperator ∈ WSG := lkT4 224 rfl rfl
set_option maxRecDepth 20000 in
theorem lk_1065 : Cond.code yX6_readOperator cX6_readOperator 2 (some .boolean) ∈ WSG := lkT4 225 rfl rfl
set_option maxRecDepth 20000 in
theorem lk_1066 : Cond.methodLink RX6 205 yX6_arithmeticSign ∈ WSG := lkT4 226 rfl rfl
set_option maxRecDepth 20000 in
theorem lk_1068 : Cond.instanceMethod yX6_arithmeticSign ∈ WSG := lkT4 228 rfl rfl
set_option maxRecDepth 20000 in
theorem lk_1069 : Cond.code yX6_arithmeticSign cX6_arithmeticSign 1 (some .int) ∈ WSG := lkT4 229 rfl rfl
set_option maxRecDepth 20000 in
theorem lk_1073 : Cond.methodLink RX6 208 yX6_join ∈ WSG := lkT4 233 rfl rfl
set_option maxRecDepth 20000 in
theorem lk_1075 : Cond.instanceMethod yX6_join ∈ WSG := lkT4 235 rfl rfl
set_option maxRecDepth 20000 in
theorem lk_1076 : Cond.code yX6_join cX6_join 3 (some .boolean) ∈ WSG := lkT4 236 rfl rfl
set_option maxRecDepth 20000 in
theorem lk_1077 : Cond.fieldLink RX6 240 "RainWishes$Parser" "TIGHT" "[I" ∈ WSG := lkT4 237 rfl rfl
set_option maxRecDepth 20000 in
theorem lk_1079 : Cond.methodLink RX6 243 yX6_settleDownTo ∈ WSG := lkT4 239 rfl rfl
set_option maxRecDepth 20000 in
theorem lk_1081 : Cond.instanceMethod yX6_settleDownTo ∈ WSG := lkT5 1 rfl rfl
set_option maxRecDepth 20000 in
theorem lk_1082 : Cond.code yX6_settleDownTo cX6_settleDownTo 2 none ∈ WSG := lkT5 2 rfl rfl
set_option maxRecDepth 20000 in
theorem lk_1084 : Cond.methodLink RX6 213 yX6_close ∈ WSG := lkT5 4 rfl rfl
set_option maxRecDepth 20000 in
theorem lk_1086 : Cond.instanceMethod yX6_close ∈ WSG := lkT5 6 rfl rfl
set_option maxRecDepth 20000 in
theorem lk_1087 : Cond.code yX6_close cX6_close 2 (some .boolean) ∈ WSG := lkT5 7 rfl rfl
set_option maxRecDepth 20000 in
theorem lk_1088 : Cond.methodLink RX6 216 yX6_comparingSign ∈ WSG := lkT5 8 rfl rfl
set_option maxRecDepth 20000 in
theorem lk_1090 : Cond.instanceMethod yX6_comparingSign ∈ WSG := lkT5 10 rfl rfl
set_option maxRecDepth 20000 in
theorem lk_1091 : Cond.code yX6_comparingSign cX6_comparingSign 1 (some .int) ∈ WSG := lkT5 11 rfl rfl
set_option maxRecDepth 20000 in
theorem lk_1098 : Cond.methodLink RX6 225 yX6_endWish ∈ WSG := lkT5 18 rfl rfl
set_option maxRecDepth 20000 in
theorem lk_1100 : Cond.instanceMethod yX6_endWish ∈ WSG := lkT5 20 rfl rfl
set_option maxRecDepth 20000 in
theorem lk_1101 : Cond.code yX6_endWish cX6_endWish 1 none ∈ WSG := lkT5 21 rfl rfl
set_option maxRecDepth 20000 in
theorem lk_1102 : Cond.methodLink RX11 130 yX8_copyFrom ∈ WSG := lkT5 22 rfl rfl
set_option maxRecDepth 20000 in
theorem lk_1103 : Cond.instanceMethod yX8_copyFrom ∈ WSG := lkT5 23 rfl rfl
set_option maxRecDepth 20000 in
theorem lk_1104 : Cond.selects RX8 yX8_copyFrom yX8_copyFrom ∈ WSG := lkT5 24 rfl rfl
set_option maxRecDepth 20000 in
theorem lk_1105 : Cond.code yX8_copyFrom cX8_copyFrom 2 none ∈ WSG := lkT5 25 rfl rfl
set_option maxRecDepth 20000 in
theorem lk_1106 : Cond.methodLink RX8 64 arraycopyName ∈ WSG := lkT5 26 rfl rfl
set_option maxRecDepth 20000 in
theorem lk_1107 : Cond.methodLink RX11 136 yX0_begin ∈ WSG := lkT5 27 rfl rfl
set_option maxRecDepth 20000 in
theorem lk_1108 : Cond.instanceMethod yX0_begin ∈ WSG := lkT5 28 rfl rfl
set_option maxRecDepth 20000 in
theorem lk_1109 : Cond.selects RX0 yX0_begin yX0_begin ∈ WSG := lkT5 29 rfl rfl
set_option maxRecDepth 20000 in
theorem lk_1110 : Cond.code yX0_begin cX0_begin 2 none ∈ WSG := lkT5 30 rfl rfl
set_option maxRecDepth 20000 in
theorem lk_1111 : Cond.methodLink RX0 27 yJ7_fill_53178 ∈ WSG := lkT5 31 rfl rfl
set_option maxRecDepth 20000 in
theorem lk_1112 : Cond.methodLink RX11 139 yX11_forgetWhatWasFound ∈ WSG := lkT5 32 rfl rfl
set_option maxRecDepth 20000 in
theorem lk_1114 : Cond.instanceMethod yX11_forgetWhatWasFound ∈ WSG := lkT5 34 rfl rfl
set_option maxRecDepth 20000 in
theorem lk_1115 : Cond.code yX11_forgetWhatWasFound cX11_forgetWhatWasFound 1 none ∈ WSG := lkT5 35 rfl rfl
set_option maxRecDepth 20000 in
theorem lk_1116 : Cond.methodLink RX11 145 yX3_forget ∈ WSG := lkT5 36 rfl rfl
set_option maxRecDepth 20000 in
theorem lk_1117 : Cond.instanceMethod yX3_forget ∈ WSG := lkT5 37 rfl rfl
set_option maxRecDepth 20000 in
theorem lk_1118 : Cond.selects RX3 yX3_forget yX3_forget ∈ WSG := lkT5 38 rfl rfl
set_option maxRecDepth 20000 in
theorem lk_1119 : Cond.code yX3_forget cX3_forget 1 none ∈ WSG := lkT5 39 rfl rfl
set_option maxRecDepth 20000 in
theorem lk_1120 : Cond.methodLink RX11 148 yX2_forget ∈ WSG := lkT5 40 rfl rfl
set_option maxRecDepth 20000 in
theorem lk_1121 : Cond.instanceMethod yX2_forget ∈ WSG := lkT5 41 rfl rfl
set_option maxRecDepth 20000 in
theorem lk_1122 : Cond.selects RX2 yX2_forget yX2_forget ∈ WSG := lkT5 42 rfl rfl
set_option maxRecDepth 20000 in
theorem lk_1123 : Cond.code yX2_forget cX2_forget 1 none ∈ WSG := lkT5 43 rfl rfl
set_option maxRecDepth 20000 in
theorem lk_1132 : Cond.methodLink RX11 152 yX11_checkWish ∈ WSG := lkT5 52 rfl rfl
set_option maxRecDepth 20000 in
theorem lk_1134 : Cond.instanceMethod yX11_checkWish ∈ WSG := lkT5 54 rfl rfl
set_option maxRecDepth 20000 in
theorem lk_1135 : Cond.code yX11_checkWish cX11_checkWish 2 none ∈ WSG := lkT5 55 rfl rfl
set_option maxRecDepth 20000 in
theorem lk_1136 : Cond.classLink RX11 201 "java/util/NoSuchElementException" ∈ WSG := lkT5 56 rfl rfl
set_option maxRecDepth 20000 in
theorem lk_1152 : Cond.methodLink RX11 171 yX3_weathersOf ∈ WSG := lkT5 72 rfl rfl
set_option maxRecDepth 20000 in
theorem lk_1153 : Cond.instanceMethod yX3_weathersOf ∈ WSG := lkT5 73 rfl rfl
set_option maxRecDepth 20000 in
theorem lk_1154 : Cond.selects RX3 yX3_weathersOf yX3_weathersOf ∈ WSG := lkT5 74 rfl rfl
set_option maxRecDepth 20000 in
theorem lk_1155 : Cond.code yX3_weathersOf cX3_weathersOf 4 (some .int) ∈ WSG := lkT5 75 rfl rfl
set_option maxRecDepth 20000 in
theorem lk_1164 : Cond.methodLink RX11 177 yX11_checkCells ∈ WSG := lkT5 84 rfl rfl
set_option maxRecDepth 20000 in
theorem lk_1166 : Cond.instanceMethod yX11_checkCells ∈ WSG := lkT5 86 rfl rfl
set_option maxRecDepth 20000 in
theorem lk_1167 : Cond.code yX11_checkCells cX11_checkCells 2 none ∈ WSG := lkT5 87 rfl rfl
set_option maxRecDepth 20000 in
theorem lk_1169 : Cond.methodLink RX11 180 yX8_weatherOf ∈ WSG := lkT5 89 rfl rfl
set_option maxRecDepth 20000 in
theorem lk_1177 : Cond.methodLink RX11 183 yX3_at ∈ WSG := lkT5 97 rfl rfl
set_option maxRecDepth 20000 in
theorem lk_1192 : Cond.methodLink RX11 231 yX11_checkSet ∈ WSG := lkT5 112 rfl rfl
set_option maxRecDepth 20000 in
theorem lk_1194 : Cond.instanceMethod yX11_checkSet ∈ WSG := lkT5 114 rfl rfl
set_option maxRecDepth 20000 in
theorem lk_1195 : Cond.code yX11_checkSet cX11_checkSet 2 none ∈ WSG := lkT5 115 rfl rfl
set_option maxRecDepth 20000 in
theorem lk_1197 : Cond.methodLink RX11 234 yX2_leastPlan ∈ WSG := lkT5 117 rfl rfl
set_option maxRecDepth 20000 in
theorem lk_1205 : Cond.methodLink RX11 237 yX2_smallestQuarrel ∈ WSG := lkT5 125 rfl rfl
set_option maxRecDepth 20000 in
theorem lk_1206 : Cond.instanceMethod yX2_smallestQuarrel ∈ WSG := lkT5 126 rfl rfl
set_option maxRecDepth 20000 in
theorem lk_1207 : Cond.selects RX2 yX2_smallestQuarrel yX2_smallestQuarrel ∈ WSG := lkT5 127 rfl rfl
set_option maxRecDepth 20000 in
theorem lk_1208 : Cond.code yX2_smallestQuarrel cX2_smallestQuarrel 4 (some .int) ∈ WSG := lkT5 128 rfl rfl
set_option maxRecDepth 20000 in
theorem lk_1216 : Cond.methodLink RX11 240 yX11_checkOpen ∈ WSG := lkT5 136 rfl rfl
set_option maxRecDepth 20000 in
theorem lk_1218 : Cond.instanceMethod yX11_checkOpen ∈ WSG := lkT5 138 rfl rfl
set_option maxRecDepth 20000 in
theorem lk_1219 : Cond.code yX11_checkOpen cX11_checkOpen 2 none ∈ WSG := lkT5 139 rfl rfl
set_option maxRecDepth 20000 in
theorem lk_1221 : Cond.methodLink RX11 243 yX2_foesOf ∈ WSG := lkT5 141 rfl rfl
set_option maxRecDepth 20000 in
theorem lk_1222 : Cond.instanceMethod yX2_foesOf ∈ WSG := lkT5 142 rfl rfl
set_option maxRecDepth 20000 in
theorem lk_1223 : Cond.selects RX2 yX2_foesOf yX2_foesOf ∈ WSG := lkT5 143 rfl rfl
set_option maxRecDepth 20000 in
theorem lk_1224 : Cond.code yX2_foesOf cX2_foesOf 4 (some .int) ∈ WSG := lkT5 144 rfl rfl
set_option maxRecDepth 20000 in
theorem lk_1232 : Cond.methodLink RX11 246 yX11_checkWhat ∈ WSG := lkT5 152 rfl rfl
set_option maxRecDepth 20000 in
theorem lk_1234 : Cond.instanceMethod yX11_checkWhat ∈ WSG := lkT5 154 rfl rfl
set_option maxRecDepth 20000 in
theorem lk_1235 : Cond.code yX11_checkWhat cX11_checkWhat 3 none ∈ WSG := lkT5 155 rfl rfl
set_option maxRecDepth 20000 in
theorem lk_1236 : Cond.methodLink RX11 250 yX2_mostPlan ∈ WSG := lkT5 156 rfl rfl
set_option maxRecDepth 20000 in
theorem lk_1237 : Cond.instanceMethod yX2_mostPlan ∈ WSG := lkT5 157 rfl rfl
set_option maxRecDepth 20000 in
theorem lk_1238 : Cond.selects RX2 yX2_mostPlan yX2_mostPlan ∈ WSG := lkT5 158 rfl rfl
set_option maxRecDepth 20000 in
theorem lk_1239 : Cond.code yX2_mostPlan cX2_mostPlan 5 (some .int) ∈ WSG := lkT5 159 rfl rfl
set_option maxRecDepth 20000 in
theorem lk_1240 : Cond.methodLink RX2 90 yX8_weightOf ∈ WSG := lkT5 160 rfl rfl
set_option maxRecDepth 20000 in
theorem lk_1248 : Cond.methodLink RX11 260 yX2_givenUpFor ∈ WSG := lkT5 168 rfl rfl
set_option maxRecDepth 20000 in
theorem lk_1249 : Cond.instanceMethod yX2_givenUpFor ∈ WSG := lkT5 169 rfl rfl
set_option maxRecDepth 20000 in
theorem lk_1250 : Cond.selects RX2 yX2_givenUpFor yX2_givenUpFor ∈ WSG := lkT5 170 rfl rfl
set_option maxRecDepth 20000 in
theorem lk_1251 : Cond.code yX2_givenUpFor cX2_givenUpFor 5 (some .int) ∈ WSG := lkT5 171 rfl rfl
set_option maxRecDepth 20000 in
theorem lk_1259 : Cond.methodLink RX11 268 yX2_followersOf ∈ WSG := lkT5 179 rfl rfl
set_option maxRecDepth 20000 in
theorem lk_1260 : Cond.instanceMethod yX2_followersOf ∈ WSG := lkT5 180 rfl rfl
set_option maxRecDepth 20000 in
theorem lk_1261 : Cond.selects RX2 yX2_followersOf yX2_followersOf ∈ WSG := lkT5 181 rfl rfl
set_option maxRecDepth 20000 in
theorem lk_1262 : Cond.code yX2_followersOf cX2_followersOf 5 (some .int) ∈ WSG := lkT5 182 rfl rfl
set_option maxRecDepth 20000 in
theorem lk_1270 : Cond.methodLink RX11 271 yX2_sureCells ∈ WSG := lkT5 190 rfl rfl
set_option maxRecDepth 20000 in
theorem lk_1271 : Cond.instanceMethod yX2_sureCells ∈ WSG := lkT5 191 rfl rfl
set_option maxRecDepth 20000 in
theorem lk_1272 : Cond.selects RX2 yX2_sureCells yX2_sureCells ∈ WSG := lkT5 192 rfl rfl
set_option maxRecDepth 20000 in
theorem lk_1273 : Cond.code yX2_sureCells cX2_sureCells 6 (some .int) ∈ WSG := lkT5 193 rfl rfl
set_option maxRecDepth 20000 in
theorem lk_1274 : Cond.methodLink RX2 99 yX8_weatherOf ∈ WSG := lkT5 194 rfl rfl
set_option maxRecDepth 20000 in
theorem lk_1275 : Cond.methodLink RX2 102 yX3_at ∈ WSG := lkT5 195 rfl rfl
set_option maxRecDepth 20000 in
theorem lk_1284 : Cond.methodLink RX11 277 yX11_checkHundredths ∈ WSG := lkT5 204 rfl rfl
set_option maxRecDepth 20000 in
theorem lk_1286 : Cond.instanceMethod yX11_checkHundredths ∈ WSG := lkT5 206 rfl rfl
set_option maxRecDepth 20000 in
theorem lk_1287 : Cond.code yX11_checkHundredths cX11_checkHundredths 2 none ∈ WSG := lkT5 207 rfl rfl
set_option maxRecDepth 20000 in
theorem lk_1289 : Cond.methodLink RX11 280 yX2_weightExpected ∈ WSG := lkT5 209 rfl rfl
set_option maxRecDepth 20000 in
theorem lk_1290 : Cond.instanceMethod yX2_weightExpected ∈ WSG := lkT5 210 rfl rfl
set_option maxRecDepth 20000 in
theorem lk_1291 : Cond.selects RX2 yX2_weightExpected yX2_weightExpected ∈ WSG := lkT5 211 rfl rfl
set_option maxRecDepth 20000 in
theorem lk_1292 : Cond.code yX2_weightExpected cX2_weightExpected 11 (some .long) ∈ WSG := lkT5 212 rfl rfl
set_option maxRecDepth 20000 in
theorem lk_1293 : Cond.methodLink RX2 105 yX2_power ∈ WSG := lkT5 213 rfl rfl
set_option maxRecDepth 20000 in
theorem lk_1294 : Cond.static yX2_power ∈ WSG := lkT5 214 rfl rfl
set_option maxRecDepth 20000 in
theorem lk_1295 : Cond.code yX2_power cX2_power 5 (some .long) ∈ WSG := lkT5 215 rfl rfl
set_option maxRecDepth 20000 in
theorem lk_1303 : Cond.methodLink RX11 284 yX2_bestByChance ∈ WSG := lkT5 223 rfl rfl
set_option maxRecDepth 20000 in
theorem lk_1304 : Cond.instanceMethod yX2_bestByChance ∈ WSG := lkT5 224 rfl rfl
set_option maxRecDepth 20000 in
theorem lk_1305 : Cond.selects RX2 yX2_bestByChance yX2_bestByChance ∈ WSG := lkT5 225 rfl rfl
set_option maxRecDepth 20000 in
theorem lk_1306 : Cond.code yX2_bestByChance cX2_bestByChance 9 (some .int) ∈ WSG := lkT5 226 rfl rfl
set_option maxRecDepth 20000 in
theorem lk_1307 : Cond.constantLong RX2 109 (-1 : Int64) ∈ WSG := lkT5 227 rfl rfl
set_option maxRecDepth 20000 in
theorem lk_1308 : Cond.methodLink RX2 111 yX2_weightExpected ∈ WSG := lkT5 228 rfl rfl
set_option maxRecDepth 20000 in
theorem lk_1316 : Cond.methodLink RX11 287 yX11_checkRule ∈ WSG := lkT5 236 rfl rfl
set_option maxRecDepth 20000 in
theorem lk_1318 : Cond.instanceMethod yX11_checkRule ∈ WSG := lkT5 238 rfl rfl
set_option maxRecDepth 20000 in
theorem lk_1319 : Cond.code yX11_checkRule cX11_checkRule 2 none ∈ WSG := lkT5 239 rfl rfl
set_option maxRecDepth 20000 in
theorem lk_1328 : Cond.methodLink RX11 293 yX11_checkPerson ∈ WSG := lkT6 8 rfl rfl
set_option maxRecDepth 20000 in
theorem lk_1330 : Cond.instanceMethod yX11_checkPerson ∈ WSG := lkT6 10 rfl rfl
set_option maxRecDepth 20000 in
theorem lk_1331 : Cond.code yX11_checkPerson cX11_checkPerson 2 none ∈ WSG := lkT6 11 rfl rfl
set_option maxRecDepth 20000 in
theorem lk_1333 : Cond.methodLink RX11 296 yX7_weightFor ∈ WSG := lkT6 13 rfl rfl
set_option maxRecDepth 20000 in
theorem lk_1334 : Cond.instanceMethod yX7_weightFor ∈ WSG := lkT6 14 rfl rfl
set_option maxRecDepth 20000 in
theorem lk_1335 : Cond.selects RX7 yX7_weightFor yX7_weightFor ∈ WSG := lkT6 15 rfl rfl
set_option maxRecDepth 20000 in
theorem lk_1336 : Cond.code yX7_weightFor cX7_weightFor 5 (some .int) ∈ WSG := lkT6 16 rfl rfl
set_option maxRecDepth 20000 in
theorem lk_1344 : Cond.methodLink RX11 299 yX7_findGain ∈ WSG := lkT6 24 rfl rfl
set_option maxRecDepth 20000 in
theorem lk_1345 : Cond.instanceMethod yX7_findGain ∈ WSG := lkT6 25 rfl rfl
set_option maxRecDepth 20000 in
theorem lk_1346 : Cond.selects RX7 yX7_findGain yX7_findGain ∈ WSG := lkT6 26 rfl rfl
set_option maxRecDepth 20000 in
theorem lk_1347 : Cond.code yX7_findGain cX7_findGain 7 none ∈ WSG := lkT6 27 rfl rfl
set_option maxRecDepth 20000 in
theorem lk_1348 : Cond.methodLink RX7 86 yX7_servedAsAsked ∈ WSG := lkT6 28 rfl rfl
set_option maxRecDepth 20000 in
theorem lk_1349 : Cond.methodLink RX7 89 yX7_weightFor ∈ WSG := lkT6 29 rfl rfl
set_option maxRecDepth 20000 in
theorem lk_1350 : Cond.methodLink RX7 98 yX7_sayOtherwise ∈ WSG := lkT6 30 rfl rfl
set_option maxRecDepth 20000 in
theorem lk_1352 : Cond.instanceMethod yX7_sayOtherwise ∈ WSG := lkT6 32 rfl rfl
set_option maxRecDepth 20000 in
theorem lk_1353 : Cond.code yX7_sayOtherwise cX7_sayOtherwise 3 (some .boolean) ∈ WSG := lkT6 33 rfl rfl
set_option maxRecDepth 20000 in
theorem lk_1362 : Cond.methodLink RX11 308 yX11_trayThere ∈ WSG := lkT6 42 rfl rfl
set_option maxRecDepth 20000 in
theorem lk_1364 : Cond.instanceMethod yX11_trayThere ∈ WSG := lkT6 44 rfl rfl
set_option maxRecDepth 20000 in
theorem lk_1365 : Cond.code yX11_trayThere cX11_trayThere 2 (some (.object "RainWishes$Tray")) ∈ WSG := lkT6 45 rfl rfl
set_option maxRecDepth 20000 in
theorem lk_1367 : Cond.classLink RX11 226 "java/lang/IllegalStateException" ∈ WSG := lkT6 47 rfl rfl
set_option maxRecDepth 20000 in
theorem lk_1384 : Cond.methodLink RX11 317 yX5_take ∈ WSG := lkT6 64 rfl rfl
set_option maxRecDepth 20000 in
theorem lk_1385 : Cond.instanceMethod yX5_take ∈ WSG := lkT6 65 rfl rfl
set_option maxRecDepth 20000 in
theorem lk_1386 : Cond.selects RX5 yX5_take yX5_take ∈ WSG := lkT6 66 rfl rfl
set_option maxRecDepth 20000 in
theorem lk_1387 : Cond.code yX5_take cX5_take 5 (some .boolean) ∈ WSG := lkT6 67 rfl rfl
set_option maxRecDepth 20000 in
theorem lk_1389 : Cond.methodLink RX11 323 yX5_find ∈ WSG := lkT6 69 rfl rfl
set_option maxRecDepth 20000 in
theorem lk_1390 : Cond.instanceMethod yX5_find ∈ WSG := lkT6 70 rfl rfl
set_option maxRecDepth 20000 in
theorem lk_1391 : Cond.selects RX5 yX5_find yX5_find ∈ WSG := lkT6 71 rfl rfl
set_option maxRecDepth 20000 in
theorem lk_1392 : Cond.code yX5_find cX5_find 2 none ∈ WSG := lkT6 72 rfl rfl
set_option maxRecDepth 20000 in
theorem lk_1393 : Cond.methodLink RX5 41 yX5_search ∈ WSG := lkT6 73 rfl rfl
set_option maxRecDepth 20000 in
theorem lk_1395 : Cond.instanceMethod yX5_search ∈ WSG := lkT6 75 rfl rfl
set_option maxRecDepth 20000 in
theorem lk_1396 : Cond.code yX5_search cX5_search 7 none ∈ WSG := lkT6 76 rfl rfl
set_option maxRecDepth 20000 in
theorem lk_1397 : Cond.methodLink RX5 45 yX5_fits ∈ WSG := lkT6 77 rfl rfl
set_option maxRecDepth 20000 in
theorem lk_1399 : Cond.instanceMethod yX5_fits ∈ WSG := lkT6 79 rfl rfl
set_option maxRecDepth 20000 in
theorem lk_1400 : Cond.code yX5_fits cX5_fits 6 (some .boolean) ∈ WSG := lkT6 80 rfl rfl
set_option maxRecDepth 20000 in
theorem lk_1401 : Cond.methodLink RX5 49 yX5_keep ∈ WSG := lkT6 81 rfl rfl
set_option maxRecDepth 20000 in
theorem lk_1403 : Cond.instanceMethod yX5_keep ∈ WSG := lkT6 83 rfl rfl
set_option maxRecDepth 20000 in
theorem lk_1404 : Cond.code yX5_keep cX5_keep 3 none ∈ WSG := lkT6 84 rfl rfl
set_option maxRecDepth 20000 in
theorem lk_1405 : Cond.methodLink RX11 332 yX5_numberAt ∈ WSG := lkT6 85 rfl rfl
set_option maxRecDepth 20000 in
theorem lk_1406 : Cond.instanceMethod yX5_numberAt ∈ WSG := lkT6 86 rfl rfl
set_option maxRecDepth 20000 in
theorem lk_1407 : Cond.selects RX5 yX5_numberAt yX5_numberAt ∈ WSG := lkT6 87 rfl rfl
set_option maxRecDepth 20000 in
theorem lk_1408 : Cond.code yX5_numberAt cX5_numberAt 4 (some .int) ∈ WSG := lkT6 88 rfl rfl
set_option maxRecDepth 20000 in
theorem lk_1416 : Cond.methodLink RX11 335 yX1_take ∈ WSG := lkT6 96 rfl rfl
set_option maxRecDepth 20000 in
theorem lk_1417 : Cond.instanceMethod yX1_take ∈ WSG := lkT6 97 rfl rfl
set_option maxRecDepth 20000 in
theorem lk_1418 : Cond.selects RX1 yX1_take yX1_take ∈ WSG := lkT6 98 rfl rfl
set_option maxRecDepth 20000 in
theorem lk_1419 : Cond.code yX1_take cX1_take 6 (some .boolean) ∈ WSG := lkT6 99 rfl rfl
set_option maxRecDepth 20000 in
theorem lk_1420 : Cond.methodLink RX1 56 yX1_takePart ∈ WSG := lkT6 100 rfl rfl
set_option maxRecDepth 20000 in
theorem lk_1422 : Cond.instanceMethod yX1_takePart ∈ WSG := lkT6 102 rfl rfl
set_option maxRecDepth 20000 in
theorem lk_1423 : Cond.code yX1_takePart cX1_takePart 6 none ∈ WSG := lkT6 103 rfl rfl
set_option maxRecDepth 20000 in
theorem lk_1424 : Cond.methodLink RX1 60 yX1_placeOfCell ∈ WSG := lkT6 104 rfl rfl
set_option maxRecDepth 20000 in
theorem lk_1426 : Cond.instanceMethod yX1_placeOfCell ∈ WSG := lkT6 106 rfl rfl
set_option maxRecDepth 20000 in
theorem lk_1427 : Cond.code yX1_placeOfCell cX1_placeOfCell 3 (some .int) ∈ WSG := lkT6 107 rfl rfl
set_option maxRecDepth 20000 in
theorem lk_1429 : Cond.methodLink RX11 338 yX1_bracket ∈ WSG := lkT6 109 rfl rfl
set_option maxRecDepth 20000 in
theorem lk_1430 : Cond.instanceMethod yX1_bracket ∈ WSG := lkT6 110 rfl rfl
set_option maxRecDepth 20000 in
theorem lk_1431 : Cond.selects RX1 yX1_bracket yX1_bracket ∈ WSG := lkT6 111 rfl rfl
set_option maxRecDepth 20000 in
theorem lk_1432 : Cond.code yX1_bracket cX1_bracket 5 none ∈ WSG := lkT6 112 rfl rfl
set_option maxRecDepth 20000 in
theorem lk_1433 : Cond.methodLink RX1 64 yX1_joinAt ∈ WSG := lkT6 113 rfl rfl
set_option maxRecDepth 20000 in
theorem lk_1435 : Cond.instanceMethod yX1_joinAt ∈ WSG := lkT6 115 rfl rfl
set_option maxRecDepth 20000 in
theorem lk_1436 : Cond.code yX1_joinAt cX1_joinAt 11 none ∈ WSG := lkT6 116 rfl rfl
set_option maxRecDepth 20000 in
theorem lk_1437 : Cond.methodLink RX11 341 yX1_all ∈ WSG := lkT6 117 rfl rfl
set_option maxRecDepth 20000 in
theorem lk_1438 : Cond.instanceMethod yX1_all ∈ WSG := lkT6 118 rfl rfl
set_option maxRecDepth 20000 in
theorem lk_1439 : Cond.selects RX1 yX1_all yX1_all ∈ WSG := lkT6 119 rfl rfl
set_option maxRecDepth 20000 in
theorem lk_1440 : Cond.code yX1_all cX1_all 1 (some .int) ∈ WSG := lkT6 120 rfl rfl
set_option maxRecDepth 20000 in
theorem lk_1441 : Cond.methodLink RX11 344 yX1_unlike ∈ WSG := lkT6 121 rfl rfl
set_option maxRecDepth 20000 in
theorem lk_1442 : Cond.instanceMethod yX1_unlike ∈ WSG := lkT6 122 rfl rfl
set_option maxRecDepth 20000 in
theorem lk_1443 : Cond.selects RX1 yX1_unlike yX1_unlike ∈ WSG := lkT6 123 rfl rfl
set_option maxRecDepth 20000 in
theorem lk_1444 : Cond.code yX1_unlike cX1_unlike 3 (some .int) ∈ WSG := lkT6 124 rfl rfl
set_option maxRecDepth 20000 in
theorem lk_1445 : Cond.methodLink RX1 68 yX1_all ∈ WSG := lkT6 125 rfl rfl
set_option maxRecDepth 20000 in
theorem lk_1446 : Cond.methodLink RX1 72 yX1_isNew ∈ WSG := lkT6 126 rfl rfl
set_option maxRecDepth 20000 in
theorem lk_1448 : Cond.instanceMethod yX1_isNew ∈ WSG := lkT6 128 rfl rfl
set_option maxRecDepth 20000 in
theorem lk_1449 : Cond.code yX1_isNew cX1_isNew 4 (some .boolean) ∈ WSG := lkT6 129 rfl rfl
set_option maxRecDepth 20000 in
theorem lk_1450 : Cond.methodLink RX11 347 yX1_heldIn ∈ WSG := lkT6 130 rfl rfl
set_option maxRecDepth 20000 in
theorem lk_1451 : Cond.instanceMethod yX1_heldIn ∈ WSG := lkT6 131 rfl rfl
set_option maxRecDepth 20000 in
theorem lk_1452 : Cond.selects RX1 yX1_heldIn yX1_heldIn ∈ WSG := lkT6 132 rfl rfl
set_option maxRecDepth 20000 in
theorem lk_1453 : Cond.code yX1_heldIn cX1_heldIn 5 (some .int) ∈ WSG := lkT6 133 rfl rfl
set_option maxRecDepth 20000 in
theorem lk_1454 : Cond.methodLink RX1 76 yX1_sortPlans ∈ WSG := lkT6 134 rfl rfl
set_option maxRecDepth 20000 in
theorem lk_1456 : Cond.instanceMethod yX1_sortPlans ∈ WSG := lkT6 136 rfl rfl
set_option maxRecDepth 20000 in
theorem lk_1457 : Cond.code yX1_sortPlans cX1_sortPlans 5 none ∈ WSG := lkT6 137 rfl rfl
set_option maxRecDepth 20000 in
theorem lk_1458 : Cond.methodLink RX1 91 yJ7_fill_53178 ∈ WSG := lkT6 138 rfl rfl
set_option maxRecDepth 20000 in
theorem lk_1459 : Cond.methodLink RX1 105 yX8_weatherOf ∈ WSG := lkT6 139 rfl rfl
set_option maxRecDepth 20000 in
theorem lk_1460 : Cond.methodLink RX1 79 yX1_plansOf ∈ WSG := lkT6 140 rfl rfl
set_option maxRecDepth 20000 in
theorem lk_1462 : Cond.instanceMethod yX1_plansOf ∈ WSG := lkT6 142 rfl rfl
set_option maxRecDepth 20000 in
theorem lk_1463 : Cond.code yX1_plansOf cX1_plansOf 5 (some .int) ∈ WSG := lkT6 143 rfl rfl
set_option maxRecDepth 20000 in
theorem lk_1464 : Cond.methodLink RX1 82 Lib.Math.max.name ∈ WSG := lkT6 144 rfl rfl
set_option maxRecDepth 20000 in
theorem lk_1465 : Cond.methodLink RX1 88 Lib.Math.min.name ∈ WSG := lkT6 145 rfl rfl
set_option maxRecDepth 20000 in
theorem lk_1504 : Cond.methodLink RX11 373 yX0_takeBack ∈ WSG := lkT6 184 rfl rfl
set_option maxRecDepth 20000 in
theorem lk_1505 : Cond.instanceMethod yX0_takeBack ∈ WSG := lkT6 185 rfl rfl
set_option maxRecDepth 20000 in
theorem lk_1506 : Cond.selects RX0 yX0_takeBack yX0_takeBack ∈ WSG := lkT6 186 rfl rfl
set_option maxRecDepth 20000 in
theorem lk_1507 : Cond.code yX0_takeBack cX0_takeBack 3 none ∈ WSG := lkT6 187 rfl rfl
set_option maxRecDepth 20000 in
theorem lk_1530 : Cond.methodLink RX11 383 yX11_drawn ∈ WSG := lkT6 210 rfl rfl
set_option maxRecDepth 20000 in
theorem lk_1531 : Cond.static yX11_drawn ∈ WSG := lkT6 211 rfl rfl
set_option maxRecDepth 20000 in
theorem lk_1532 : Cond.code yX11_drawn cX11_drawn 1 (some .int) ∈ WSG := lkT6 212 rfl rfl
set_option maxRecDepth 20000 in
theorem lk_1533 : Cond.constant RX11 389 (1103515245 : Int32) ∈ WSG := lkT6 213 rfl rfl
set_option maxRecDepth 20000 in
theorem lk_1541 : Cond.methodLink RX11 390 yX11_takeReserve ∈ WSG := lkT6 221 rfl rfl
set_option maxRecDepth 20000 in
theorem lk_1543 : Cond.instanceMethod yX11_takeReserve ∈ WSG := lkT6 223 rfl rfl
set_option maxRecDepth 20000 in
theorem lk_1544 : Cond.code yX11_takeReserve cX11_takeReserve 5 none ∈ WSG := lkT6 224 rfl rfl
set_option maxRecDepth 20000 in
theorem lk_1546 : Cond.methodLink RX11 402 yX4_take ∈ WSG := lkT6 226 rfl rfl
set_option maxRecDepth 20000 in
theorem lk_1547 : Cond.instanceMethod yX4_take ∈ WSG := lkT6 227 rfl rfl
set_option maxRecDepth 20000 in
theorem lk_1548 : Cond.selects RX4 yX4_take yX4_take ∈ WSG := lkT6 228 rfl rfl
set_option maxRecDepth 20000 in
theorem lk_1549 : Cond.code yX4_take cX4_take 3 (some .boolean) ∈ WSG := lkT6 229 rfl rfl
set_option maxRecDepth 20000 in
theorem lk_1550 : Cond.constantLong RX4 34 (99 : Int64) ∈ WSG := lkT6 230 rfl rfl
set_option maxRecDepth 20000 in
theorem lk_1552 : Cond.methodLink RX11 405 yX4_reckon ∈ WSG := lkT6 232 rfl rfl
set_option maxRecDepth 20000 in
theorem lk_1553 : Cond.instanceMethod yX4_reckon ∈ WSG := lkT6 233 rfl rfl
set_option maxRecDepth 20000 in
theorem lk_1554 : Cond.selects RX4 yX4_reckon yX4_reckon ∈ WSG := lkT6 234 rfl rfl
set_option maxRecDepth 20000 in
theorem lk_1555 : Cond.code yX4_reckon cX4_reckon 7 none ∈ WSG := lkT6 235 rfl rfl
set_option maxRecDepth 20000 in
theorem lk_1556 : Cond.methodLink RX4 36 yX4_byGranting ∈ WSG := lkT6 236 rfl rfl
set_option maxRecDepth 20000 in
theorem lk_1558 : Cond.instanceMethod yX4_byGranting ∈ WSG := lkT6 238 rfl rfl
set_option maxRecDepth 20000 in
theorem lk_1559 : Cond.code yX4_byGranting cX4_byGranting 4 (some .long) ∈ WSG := lkT6 239 rfl rfl
set_option maxRecDepth 20000 in
theorem lk_1560 : Cond.methodLink RX4 40 Lib.MathLoose.max_long.x ∈ WSG := lkT7 0 rfl rfl
set_option maxRecDepth 20000 in
theorem lk_1561 : Cond.static Lib.MathLoose.max_long.x ∈ WSG := lkT7 1 rfl rfl
set_option maxRecDepth 20000 in
theorem lk_1562 : Cond.code Lib.MathLoose.max_long.x Lib.MathLoose.max_long.code 4 (some .long) ∈ WSG := lkT7 2 rfl rfl
set_option maxRecDepth 20000 in
theorem lk_1563 : Cond.methodLink RX11 394 yX4_worthOf ∈ WSG := lkT7 3 rfl rfl
set_option maxRecDepth 20000 in
theorem lk_1564 : Cond.instanceMethod yX4_worthOf ∈ WSG := lkT7 4 rfl rfl
set_option maxRecDepth 20000 in
theorem lk_1565 : Cond.selects RX4 yX4_worthOf yX4_worthOf ∈ WSG := lkT7 5 rfl rfl
set_option maxRecDepth 20000 in
theorem lk_1566 : Cond.code yX4_worthOf cX4_worthOf 3 (some .long) ∈ WSG := lkT7 6 rfl rfl
set_option maxRecDepth 20000 in
theorem lk_1574 : Cond.methodLink RX11 397 yX4_leastNow ∈ WSG := lkT7 14 rfl rfl
set_option maxRecDepth 20000 in
theorem lk_1575 : Cond.instanceMethod yX4_leastNow ∈ WSG := lkT7 15 rfl rfl
set_option maxRecDepth 20000 in
theorem lk_1576 : Cond.selects RX4 yX4_leastNow yX4_leastNow ∈ WSG := lkT7 16 rfl rfl
set_option maxRecDepth 20000 in
theorem lk_1577 : Cond.code yX4_leastNow cX4_leastNow 6 (some .int) ∈ WSG := lkT7 17 rfl rfl
set_option maxRecDepth 20000 in
theorem lk_1586 : Cond.methodLink RX11 410 yX10_lay ∈ WSG := lkT7 26 rfl rfl
set_option maxRecDepth 20000 in
theorem lk_1587 : Cond.instanceMethod yX10_lay ∈ WSG := lkT7 27 rfl rfl
set_option maxRecDepth 20000 in
theorem lk_1588 : Cond.selects RX10 yX10_lay yX10_lay ∈ WSG := lkT7 28 rfl rfl
set_option maxRecDepth 20000 in
theorem lk_1589 : Cond.code yX10_lay cX10_lay 3 none ∈ WSG := lkT7 29 rfl rfl
set_option maxRecDepth 20000 in
theorem lk_1590 : Cond.methodLink RX10 22 yJ7_fill_d0a16 ∈ WSG := lkT7 30 rfl rfl
set_option maxRecDepth 20000 in
theorem lk_1591 : Cond.static yJ7_fill_d0a16 ∈ WSG := lkT7 31 rfl rfl
set_option maxRecDepth 20000 in
theorem lk_1592 : Cond.code yJ7_fill_d0a16 cJ7_fill_d0a16 5 none ∈ WSG := lkT7 32 rfl rfl
set_option maxRecDepth 20000 in
theorem lk_1601 : Cond.classLink RX11 412 "java/lang/IndexOutOfBoundsException" ∈ WSG := lkT7 41 rfl rfl
set_option maxRecDepth 20000 in
theorem lk_1617 : Cond.methodLink RX11 417 yX10_put ∈ WSG := lkT7 57 rfl rfl
set_option maxRecDepth 20000 in
theorem lk_1618 : Cond.instanceMethod yX10_put ∈ WSG := lkT7 58 rfl rfl
set_option maxRecDepth 20000 in
theorem lk_1619 : Cond.selects RX10 yX10_put yX10_put ∈ WSG := lkT7 59 rfl rfl
set_option maxRecDepth 20000 in
theorem lk_1620 : Cond.code yX10_put cX10_put 6 (some .long) ∈ WSG := lkT7 60 rfl rfl
set_option maxRecDepth 20000 in
theorem lk_1628 : Cond.methodLink RX11 421 Lib.Math.min.name ∈ WSG := lkT7 68 rfl rfl
set_option maxRecDepth 20000 in
theorem lk_1636 : Cond.methodLink RX11 429 yX11_checkImage ∈ WSG := lkT7 76 rfl rfl
set_option maxRecDepth 20000 in
theorem lk_1638 : Cond.instanceMethod yX11_checkImage ∈ WSG := lkT7 78 rfl rfl
set_option maxRecDepth 20000 in
theorem lk_1639 : Cond.code yX11_checkImage cX11_checkImage 2 none ∈ WSG := lkT7 79 rfl rfl
set_option maxRecDepth 20000 in
theorem lk_1641 : Cond.methodLink RX11 432 yX0_copyFrom ∈ WSG := lkT7 81 rfl rfl
set_option maxRecDepth 20000 in
theorem lk_1642 : Cond.instanceMethod yX0_copyFrom ∈ WSG := lkT7 82 rfl rfl
set_option maxRecDepth 20000 in
theorem lk_1643 : Cond.selects RX0 yX0_copyFrom yX0_copyFrom ∈ WSG := lkT7 83 rfl rfl
set_option maxRecDepth 20000 in
theorem lk_1644 : Cond.code yX0_copyFrom cX0_copyFrom 3 none ∈ WSG := lkT7 84 rfl rfl
set_option maxRecDepth 20000 in
theorem lk_1660 : Cond.methodLink RX12 89 yX12_laysTruths ∈ WSG := lkT7 100 rfl rfl
set_option maxRecDepth 20000 in
theorem lk_1662 : Cond.instanceMethod yX12_laysTruths ∈ WSG := lkT7 102 rfl rfl
set_option maxRecDepth 20000 in
theorem lk_1663 : Cond.code yX12_laysTruths cX12_laysTruths 3 none ∈ WSG := lkT7 103 rfl rfl
set_option maxRecDepth 20000 in
theorem lk_1664 : Cond.methodLink RX12 252 yX12_everywhere ∈ WSG := lkT7 104 rfl rfl
set_option maxRecDepth 20000 in
theorem lk_1666 : Cond.instanceMethod yX12_everywhere ∈ WSG := lkT7 106 rfl rfl
set_option maxRecDepth 20000 in
theorem lk_1667 : Cond.code yX12_everywhere cX12_everywhere 1 (some .int) ∈ WSG := lkT7 107 rfl rfl
set_option maxRecDepth 20000 in
theorem lk_1668 : Cond.methodLink RX12 249 yX12_cells ∈ WSG := lkT7 108 rfl rfl
set_option maxRecDepth 20000 in
theorem lk_1670 : Cond.instanceMethod yX12_cells ∈ WSG := lkT7 110 rfl rfl
set_option maxRecDepth 20000 in
theorem lk_1671 : Cond.code yX12_cells cX12_cells 1 (some .int) ∈ WSG := lkT7 111 rfl rfl
set_option maxRecDepth 20000 in
theorem lk_1672 : Cond.methodLink RX12 283 yX12_blown ∈ WSG := lkT7 112 rfl rfl
set_option maxRecDepth 20000 in
theorem lk_1674 : Cond.instanceMethod yX12_blown ∈ WSG := lkT7 114 rfl rfl
set_option maxRecDepth 20000 in
theorem lk_1675 : Cond.code yX12_blown cX12_blown 7 (some .int) ∈ WSG := lkT7 115 rfl rfl
set_option maxRecDepth 20000 in
theorem lk_1676 : Cond.methodLink RX12 279 yX12_has ∈ WSG := lkT7 116 rfl rfl
set_option maxRecDepth 20000 in
theorem lk_1677 : Cond.static yX12_has ∈ WSG := lkT7 117 rfl rfl
set_option maxRecDepth 20000 in
theorem lk_1678 : Cond.code yX12_has cX12_has 2 (some .boolean) ∈ WSG := lkT7 118 rfl rfl
set_option maxRecDepth 20000 in
theorem lk_1679 : Cond.methodLink RX12 286 yX12_worksOut ∈ WSG := lkT7 119 rfl rfl
set_option maxRecDepth 20000 in
theorem lk_1681 : Cond.instanceMethod yX12_worksOut ∈ WSG := lkT7 121 rfl rfl
set_option maxRecDepth 20000 in
theorem lk_1682 : Cond.code yX12_worksOut cX12_worksOut 6 (some .boolean) ∈ WSG := lkT7 122 rfl rfl
set_option maxRecDepth 20000 in
theorem lk_1683 : Cond.methodLink RX12 272 yX12_plain ∈ WSG := lkT7 123 rfl rfl
set_option maxRecDepth 20000 in
theorem lk_1685 : Cond.instanceMethod yX12_plain ∈ WSG := lkT7 125 rfl rfl
set_option maxRecDepth 20000 in
theorem lk_1686 : Cond.code yX12_plain cX12_plain 6 (some .int) ∈ WSG := lkT7 126 rfl rfl
set_option maxRecDepth 20000 in
theorem lk_1687 : Cond.methodLink RX12 269 yX12_size ∈ WSG := lkT7 127 rfl rfl
set_option maxRecDepth 20000 in
theorem lk_1688 : Cond.static yX12_size ∈ WSG := lkT7 128 rfl rfl
set_option maxRecDepth 20000 in
theorem lk_1689 : Cond.code yX12_size cX12_size 3 (some .int) ∈ WSG := lkT7 129 rfl rfl
set_option maxRecDepth 20000 in
theorem lk_1690 : Cond.methodLink RX12 275 yX12_done ∈ WSG := lkT7 130 rfl rfl
set_option maxRecDepth 20000 in
theorem lk_1691 : Cond.static yX12_done ∈ WSG := lkT7 131 rfl rfl
set_option maxRecDepth 20000 in
theorem lk_1692 : Cond.code yX12_done cX12_done 5 (some .int) ∈ WSG := lkT7 132 rfl rfl
set_option maxRecDepth 20000 in
theorem lk_1693 : Cond.methodLink RX12 265 yX12_bound ∈ WSG := lkT7 133 rfl rfl
set_option maxRecDepth 20000 in
theorem lk_1694 : Cond.static yX12_bound ∈ WSG := lkT7 134 rfl rfl
set_option maxRecDepth 20000 in
theorem lk_1695 : Cond.code yX12_bound cX12_bound 2 (some .int) ∈ WSG := lkT7 135 rfl rfl
set_option maxRecDepth 20000 in
theorem lk_1696 : Cond.constantLong RX12 255 (-1000000 : Int64) ∈ WSG := lkT7 136 rfl rfl
set_option maxRecDepth 20000 in
theorem lk_1697 : Cond.constantLong RX12 257 (1000000 : Int64) ∈ WSG := lkT7 137 rfl rfl
set_option maxRecDepth 20000 in
theorem lk_1698 : Cond.methodLink RX12 259 Lib.MathLoose.min_long.x ∈ WSG := lkT7 138 rfl rfl
set_option maxRecDepth 20000 in
theorem lk_1699 : Cond.static Lib.MathLoose.min_long.x ∈ WSG := lkT7 139 rfl rfl
set_option maxRecDepth 20000 in
theorem lk_1700 : Cond.code Lib.MathLoose.min_long.x Lib.MathLoose.min_long.code 4 (some .long) ∈ WSG := lkT7 140 rfl rfl
set_option maxRecDepth 20000 in
theorem lk_1701 : Cond.methodLink RX12 262 Lib.MathLoose.max_long.x ∈ WSG := lkT7 141 rfl rfl
set_option maxRecDepth 20000 in
theorem lk_1702 : Cond.fieldLink RX12 9 "RainWishesModel" "known" "[I" ∈ WSG := lkT7 142 rfl rfl
set_option maxRecDepth 20000 in
theorem lk_1703 : Cond.fieldLink RX12 13 "RainWishesModel" "fresh" "[I" ∈ WSG := lkT7 143 rfl rfl
set_option maxRecDepth 20000 in
theorem lk_1704 : Cond.fieldLink RX12 16 "RainWishesModel" "images" "[I" ∈ WSG := lkT7 144 rfl rfl
set_option maxRecDepth 20000 in
theorem lk_1705 : Cond.fieldLink RX12 19 "RainWishesModel" "kept" "[I" ∈ WSG := lkT7 145 rfl rfl
set_option maxRecDepth 20000 in
theorem lk_1706 : Cond.fieldLink RX12 22 "RainWishesModel" "isImage" "[Z" ∈ WSG := lkT7 146 rfl rfl
set_option maxRecDepth 20000 in
theorem lk_1707 : Cond.fieldLink RX12 92 "RainWishesModel" "thrown" "I" ∈ WSG := lkT7 147 rfl rfl
set_option maxRecDepth 20000 in
theorem lk_1708 : Cond.fieldLink RX12 26 "RainWishesModel" "tape" "[I" ∈ WSG := lkT7 148 rfl rfl
set_option maxRecDepth 20000 in
theorem lk_1709 : Cond.fieldLink RX12 95 "RainWishesModel" "taped" "I" ∈ WSG := lkT7 149 rfl rfl
set_option maxRecDepth 20000 in
theorem lk_1710 : Cond.fieldLink RX12 98 "RainWishesModel" "length" "I" ∈ WSG := lkT7 150 rfl rfl
set_option maxRecDepth 20000 in
theorem lk_1711 : Cond.fieldLink RX12 101 "RainWishesModel" "at" "I" ∈ WSG := lkT7 151 rfl rfl
set_option maxRecDepth 20000 in
theorem lk_1712 : Cond.fieldLink RX12 104 "RainWishesModel" "begin" "I" ∈ WSG := lkT7 152 rfl rfl
set_option maxRecDepth 20000 in
theorem lk_1713 : Cond.fieldLink RX12 107 "RainWishesModel" "token" "I" ∈ WSG := lkT7 153 rfl rfl
set_option maxRecDepth 20000 in
theorem lk_1714 : Cond.fieldLink RX12 121 "RainWishesModel" "value" "I" ∈ WSG := lkT7 154 rfl rfl
set_option maxRecDepth 20000 in
theorem lk_1715 : Cond.fieldLink RX12 127 "RainWishesModel" "bad" "I" ∈ WSG := lkT7 155 rfl rfl
set_option maxRecDepth 20000 in
theorem lk_1716 : Cond.fieldLink RX12 130 "RainWishesModel" "badPlace" "I" ∈ WSG := lkT7 156 rfl rfl
set_option maxRecDepth 20000 in
theorem lk_1717 : Cond.fieldLink RX12 246 "RainWishesModel" "faultKind" "I" ∈ WSG := lkT7 157 rfl rfl
set_option maxRecDepth 20000 in
theorem lk_1718 : Cond.fieldLink RX12 29 "RainWishesModel" "faultPlace" "I" ∈ WSG := lkT7 158 rfl rfl
set_option maxRecDepth 20000 in
theorem lk_1719 : Cond.fieldLink RX12 160 "RainWishesModel" "deep" "I" ∈ WSG := lkT7 159 rfl rfl
set_option maxRecDepth 20000 in
theorem lk_1720 : Cond.fieldLink RX12 34 "RainWishesModel" "truth" "[Z" ∈ WSG := lkT7 160 rfl rfl
set_option maxRecDepth 20000 in
theorem lk_1721 : Cond.fieldLink RX12 37 "RainWishesModel" "weatherBy" "[I" ∈ WSG := lkT7 161 rfl rfl
set_option maxRecDepth 20000 in
theorem lk_1722 : Cond.fieldLink RX12 40 "RainWishesModel" "stack" "[I" ∈ WSG := lkT7 162 rfl rfl
set_option maxRecDepth 20000 in
theorem lk_1723 : Cond.fieldLink RX12 43 "RainWishesModel" "grantedBy" "[I" ∈ WSG := lkT7 163 rfl rfl
set_option maxRecDepth 20000 in
theorem lk_1724 : Cond.fieldLink RX12 46 "RainWishesModel" "go" "[Z" ∈ WSG := lkT7 164 rfl rfl
set_option maxRecDepth 20000 in
theorem lk_1725 : Cond.fieldLink RX12 49 "RainWishesModel" "nightsBy" "[I" ∈ WSG := lkT7 165 rfl rfl
set_option maxRecDepth 20000 in
theorem lk_1726 : Cond.fieldLink RX12 52 "RainWishesModel" "keys" "[I" ∈ WSG := lkT7 166 rfl rfl
set_option maxRecDepth 20000 in
theorem lk_1727 : Cond.fieldLink RX12 55 "RainWishesModel" "askedAge" "[I" ∈ WSG := lkT7 167 rfl rfl
set_option maxRecDepth 20000 in
theorem lk_1728 : Cond.fieldLink RX12 58 "RainWishesModel" "askedWeight" "[I" ∈ WSG := lkT7 168 rfl rfl
set_option maxRecDepth 20000 in
theorem lk_1729 : Cond.fieldLink RX12 61 "RainWishesModel" "wanted" "[I" ∈ WSG := lkT7 169 rfl rfl
set_option maxRecDepth 20000 in
theorem lk_1730 : Cond.fieldLink RX12 64 "RainWishesModel" "wantedFirst" "[I" ∈ WSG := lkT7 170 rfl rfl
set_option maxRecDepth 20000 in
theorem lk_1731 : Cond.fieldLink RX12 378 "RainWishesModel" "wantedMany" "I" ∈ WSG := lkT7 171 rfl rfl
set_option maxRecDepth 20000 in
theorem lk_1732 : Cond.fieldLink RX12 67 "RainWishesModel" "reading" "[J" ∈ WSG := lkT7 172 rfl rfl
set_option maxRecDepth 20000 in
theorem lk_1733 : Cond.fieldLink RX12 71 "RainWishesModel" "readFirst" "[I" ∈ WSG := lkT7 173 rfl rfl
set_option maxRecDepth 20000 in
theorem lk_1734 : Cond.fieldLink RX12 74 "RainWishesModel" "readMany" "[I" ∈ WSG := lkT7 174 rfl rfl
set_option maxRecDepth 20000 in
theorem lk_1735 : Cond.fieldLink RX12 395 "RainWishesModel" "readAll" "I" ∈ WSG := lkT7 175 rfl rfl
set_option maxRecDepth 20000 in
theorem lk_1736 : Cond.fieldLink RX12 432 "RainWishesModel" "state" "I" ∈ WSG := lkT7 176 rfl rfl
set_option maxRecDepth 20000 in
theorem lk_1737 : Cond.fieldLink RX12 77 "RainWishesModel" "worth" "[J" ∈ WSG := lkT7 177 rfl rfl
set_option maxRecDepth 20000 in
theorem lk_1738 : Cond.fieldLink RX12 80 "RainWishesModel" "tSort" "[I" ∈ WSG := lkT7 178 rfl rfl
set_option maxRecDepth 20000 in
theorem lk_1739 : Cond.fieldLink RX12 83 "RainWishesModel" "tMany" "[I" ∈ WSG := lkT7 179 rfl rfl
set_option maxRecDepth 20000 in
theorem lk_1740 : Cond.fieldLink RX12 86 "RainWishesModel" "numbers" "[J" ∈ WSG := lkT7 180 rfl rfl
set_option maxRecDepth 20000 in
theorem lk_1832 : Cond.methodLink RX12 156 yX12_within ∈ WSG := lkT8 32 rfl rfl
set_option maxRecDepth 20000 in
theorem lk_1833 : Cond.static yX12_within ∈ WSG := lkT8 33 rfl rfl
set_option maxRecDepth 20000 in
theorem lk_1834 : Cond.code yX12_within cX12_within 6 (some .boolean) ∈ WSG := lkT8 34 rfl rfl
set_option maxRecDepth 20000 in
theorem lk_1835 : Cond.methodLink RX12 233 yX12_fails ∈ WSG := lkT8 35 rfl rfl
set_option maxRecDepth 20000 in
theorem lk_1837 : Cond.instanceMethod yX12_fails ∈ WSG := lkT8 37 rfl rfl
set_option maxRecDepth 20000 in
theorem lk_1838 : Cond.code yX12_fails cX12_fails 2 (some .int) ∈ WSG := lkT8 38 rfl rfl
set_option maxRecDepth 20000 in
theorem lk_1839 : Cond.methodLink RX12 146 yX12_readsOn ∈ WSG := lkT8 39 rfl rfl
set_option maxRecDepth 20000 in
theorem lk_1841 : Cond.instanceMethod yX12_readsOn ∈ WSG := lkT8 41 rfl rfl
set_option maxRecDepth 20000 in
theorem lk_1842 : Cond.code yX12_readsOn cX12_readsOn 2 none ∈ WSG := lkT8 42 rfl rfl
set_option maxRecDepth 20000 in
theorem lk_1843 : Cond.methodLink RX12 110 yX12_isLetter ∈ WSG := lkT8 43 rfl rfl
set_option maxRecDepth 20000 in
theorem lk_1844 : Cond.static yX12_isLetter ∈ WSG := lkT8 44 rfl rfl
set_option maxRecDepth 20000 in
theorem lk_1845 : Cond.code yX12_isLetter cX12_isLetter 1 (some .boolean) ∈ WSG := lkT8 45 rfl rfl
set_option maxRecDepth 20000 in
theorem lk_1846 : Cond.methodLink RX12 114 yX12_see ∈ WSG := lkT8 46 rfl rfl
set_option maxRecDepth 20000 in
theorem lk_1848 : Cond.instanceMethod yX12_see ∈ WSG := lkT8 48 rfl rfl
set_option maxRecDepth 20000 in
theorem lk_1849 : Cond.code yX12_see cX12_see 2 (some .int) ∈ WSG := lkT8 49 rfl rfl
set_option maxRecDepth 20000 in
theorem lk_1850 : Cond.methodLink RX12 118 yX12_isDigit ∈ WSG := lkT8 50 rfl rfl
set_option maxRecDepth 20000 in
theorem lk_1851 : Cond.static yX12_isDigit ∈ WSG := lkT8 51 rfl rfl
set_option maxRecDepth 20000 in
theorem lk_1852 : Cond.code yX12_isDigit cX12_isDigit 1 (some .boolean) ∈ WSG := lkT8 52 rfl rfl
set_option maxRecDepth 20000 in
theorem lk_1853 : Cond.methodLink RX12 124 yX12_isSignByte ∈ WSG := lkT8 53 rfl rfl
set_option maxRecDepth 20000 in
theorem lk_1854 : Cond.static yX12_isSignByte ∈ WSG := lkT8 54 rfl rfl
set_option maxRecDepth 20000 in
theorem lk_1855 : Cond.code yX12_isSignByte cX12_isSignByte 2 (some .boolean) ∈ WSG := lkT8 55 rfl rfl
set_option maxRecDepth 20000 in
theorem lk_1857 : Cond.methodLink RX12 213 yX12_mustWord ∈ WSG := lkT8 57 rfl rfl
set_option maxRecDepth 20000 in
theorem lk_1859 : Cond.instanceMethod yX12_mustWord ∈ WSG := lkT8 59 rfl rfl
set_option maxRecDepth 20000 in
theorem lk_1860 : Cond.code yX12_mustWord cX12_mustWord 2 none ∈ WSG := lkT8 60 rfl rfl
set_option maxRecDepth 20000 in
theorem lk_1861 : Cond.methodLink RX12 149 yX12_took ∈ WSG := lkT8 61 rfl rfl
set_option maxRecDepth 20000 in
theorem lk_1863 : Cond.instanceMethod yX12_took ∈ WSG := lkT8 63 rfl rfl
set_option maxRecDepth 20000 in
theorem lk_1864 : Cond.code yX12_took cX12_took 3 (some .boolean) ∈ WSG := lkT8 64 rfl rfl
set_option maxRecDepth 20000 in
theorem lk_1865 : Cond.methodLink RX12 142 yX12_isWord ∈ WSG := lkT8 65 rfl rfl
set_option maxRecDepth 20000 in
theorem lk_1867 : Cond.instanceMethod yX12_isWord ∈ WSG := lkT8 67 rfl rfl
set_option maxRecDepth 20000 in
theorem lk_1868 : Cond.code yX12_isWord cX12_isWord 4 (some .boolean) ∈ WSG := lkT8 68 rfl rfl
set_option maxRecDepth 20000 in
theorem lk_1869 : Cond.methodLink RX12 133 yJ0_length_8abf5 ∈ WSG := lkT8 69 rfl rfl
set_option maxRecDepth 20000 in
theorem lk_1870 : Cond.methodLink RX12 138 yJ0_charAt_5068e ∈ WSG := lkT8 70 rfl rfl
set_option maxRecDepth 20000 in
theorem lk_1871 : Cond.methodLink RX12 152 yX12_blames ∈ WSG := lkT8 71 rfl rfl
set_option maxRecDepth 20000 in
theorem lk_1873 : Cond.instanceMethod yX12_blames ∈ WSG := lkT8 73 rfl rfl
set_option maxRecDepth 20000 in
theorem lk_1874 : Cond.code yX12_blames cX12_blames 2 none ∈ WSG := lkT8 74 rfl rfl
set_option maxRecDepth 20000 in
theorem lk_1875 : Cond.methodLink RX12 201 yX12_number ∈ WSG := lkT8 75 rfl rfl
set_option maxRecDepth 20000 in
theorem lk_1877 : Cond.instanceMethod yX12_number ∈ WSG := lkT8 77 rfl rfl
set_option maxRecDepth 20000 in
theorem lk_1878 : Cond.code yX12_number cX12_number 4 (some .int) ∈ WSG := lkT8 78 rfl rfl
set_option maxRecDepth 20000 in
theorem lk_1879 : Cond.methodLink RX12 238 Lib.Math.min.name ∈ WSG := lkT8 79 rfl rfl
set_option maxRecDepth 20000 in
theorem lk_1880 : Cond.methodLink RX12 230 yX12_readStop ∈ WSG := lkT8 80 rfl rfl
set_option maxRecDepth 20000 in
theorem lk_1882 : Cond.instanceMethod yX12_readStop ∈ WSG := lkT8 82 rfl rfl
set_option maxRecDepth 20000 in
theorem lk_1883 : Cond.code yX12_readStop cX12_readStop 1 none ∈ WSG := lkT8 83 rfl rfl
set_option maxRecDepth 20000 in
theorem lk_1884 : Cond.methodLink RX12 187 yX12_mustSign ∈ WSG := lkT8 84 rfl rfl
set_option maxRecDepth 20000 in
theorem lk_1886 : Cond.instanceMethod yX12_mustSign ∈ WSG := lkT8 86 rfl rfl
set_option maxRecDepth 20000 in
theorem lk_1887 : Cond.code yX12_mustSign cX12_mustSign 2 none ∈ WSG := lkT8 87 rfl rfl
set_option maxRecDepth 20000 in
theorem lk_1888 : Cond.methodLink RX12 243 yX12_readLine ∈ WSG := lkT8 88 rfl rfl
set_option maxRecDepth 20000 in
theorem lk_1890 : Cond.instanceMethod yX12_readLine ∈ WSG := lkT8 90 rfl rfl
set_option maxRecDepth 20000 in
theorem lk_1891 : Cond.code yX12_readLine cX12_readLine 1 none ∈ WSG := lkT8 91 rfl rfl
set_option maxRecDepth 20000 in
theorem lk_1895 : Cond.methodLink RX12 227 yX12_readWish ∈ WSG := lkT8 95 rfl rfl
set_option maxRecDepth 20000 in
theorem lk_1897 : Cond.instanceMethod yX12_readWish ∈ WSG := lkT8 97 rfl rfl
set_option maxRecDepth 20000 in
theorem lk_1898 : Cond.code yX12_readWish cX12_readWish 5 none ∈ WSG := lkT8 98 rfl rfl
set_option maxRecDepth 20000 in
theorem lk_1902 : Cond.methodLink RX12 184 yX12_readTruth ∈ WSG := lkT8 102 rfl rfl
set_option maxRecDepth 20000 in
theorem lk_1904 : Cond.instanceMethod yX12_readTruth ∈ WSG := lkT8 104 rfl rfl
set_option maxRecDepth 20000 in
theorem lk_1905 : Cond.code yX12_readTruth cX12_readTruth 1 none ∈ WSG := lkT8 105 rfl rfl
set_option maxRecDepth 20000 in
theorem lk_1906 : Cond.methodLink RX12 163 yX12_readBoth ∈ WSG := lkT8 106 rfl rfl
set_option maxRecDepth 20000 in
theorem lk_1908 : Cond.instanceMethod yX12_readBoth ∈ WSG := lkT8 108 rfl rfl
set_option maxRecDepth 20000 in
theorem lk_1909 : Cond.code yX12_readBoth cX12_readBoth 1 none ∈ WSG := lkT8 109 rfl rfl
set_option maxRecDepth 20000 in
theorem lk_1910 : Cond.methodLink RX12 171 yX12_readUnit ∈ WSG := lkT8 110 rfl rfl
set_option maxRecDepth 20000 in
theorem lk_1912 : Cond.instanceMethod yX12_readUnit ∈ WSG := lkT8 112 rfl rfl
set_option maxRecDepth 20000 in
theorem lk_1913 : Cond.code yX12_readUnit cX12_readUnit 2 none ∈ WSG := lkT8 113 rfl rfl
set_option maxRecDepth 20000 in
theorem lk_1915 : Cond.methodLink RX12 178 yX12_goesIn ∈ WSG := lkT8 115 rfl rfl
set_option maxRecDepth 20000 in
theorem lk_1917 : Cond.instanceMethod yX12_goesIn ∈ WSG := lkT8 117 rfl rfl
set_option maxRecDepth 20000 in
theorem lk_1918 : Cond.code yX12_goesIn cX12_goesIn 1 none ∈ WSG := lkT8 118 rfl rfl
set_option maxRecDepth 20000 in
theorem lk_1919 : Cond.methodLink RX12 168 yX12_laysStep ∈ WSG := lkT8 119 rfl rfl
set_option maxRecDepth 20000 in
theorem lk_1921 : Cond.instanceMethod yX12_laysStep ∈ WSG := lkT8 121 rfl rfl
set_option maxRecDepth 20000 in
theorem lk_1922 : Cond.code yX12_laysStep cX12_laysStep 2 none ∈ WSG := lkT8 122 rfl rfl
set_option maxRecDepth 20000 in
theorem lk_1923 : Cond.methodLink RX12 181 yX12_isSign ∈ WSG := lkT8 123 rfl rfl
set_option maxRecDepth 20000 in
theorem lk_1925 : Cond.instanceMethod yX12_isSign ∈ WSG := lkT8 125 rfl rfl
set_option maxRecDepth 20000 in
theorem lk_1926 : Cond.code yX12_isSign cX12_isSign 2 (some .boolean) ∈ WSG := lkT8 126 rfl rfl
set_option maxRecDepth 20000 in
theorem lk_1927 : Cond.methodLink RX12 190 yX12_readSum ∈ WSG := lkT8 127 rfl rfl
set_option maxRecDepth 20000 in
theorem lk_1929 : Cond.instanceMethod yX12_readSum ∈ WSG := lkT8 129 rfl rfl
set_option maxRecDepth 20000 in
theorem lk_1930 : Cond.code yX12_readSum cX12_readSum 2 none ∈ WSG := lkT8 130 rfl rfl
set_option maxRecDepth 20000 in
theorem lk_1931 : Cond.methodLink RX12 193 yX12_readTerm ∈ WSG := lkT8 131 rfl rfl
set_option maxRecDepth 20000 in
theorem lk_1933 : Cond.instanceMethod yX12_readTerm ∈ WSG := lkT8 133 rfl rfl
set_option maxRecDepth 20000 in
theorem lk_1934 : Cond.code yX12_readTerm cX12_readTerm 1 none ∈ WSG := lkT8 134 rfl rfl
set_option maxRecDepth 20000 in
theorem lk_1935 : Cond.methodLink RX12 196 yX12_readAtom ∈ WSG := lkT8 135 rfl rfl
set_option maxRecDepth 20000 in
theorem lk_1937 : Cond.instanceMethod yX12_readAtom ∈ WSG := lkT8 137 rfl rfl
set_option maxRecDepth 20000 in
theorem lk_1938 : Cond.code yX12_readAtom cX12_readAtom 3 none ∈ WSG := lkT8 138 rfl rfl
set_option maxRecDepth 20000 in
theorem lk_1953 : Cond.methodLink RX12 305 yX12_isWish ∈ WSG := lkT8 153 rfl rfl
set_option maxRecDepth 20000 in
theorem lk_1955 : Cond.instanceMethod yX12_isWish ∈ WSG := lkT8 155 rfl rfl
set_option maxRecDepth 20000 in
theorem lk_1956 : Cond.code yX12_isWish cX12_isWish 2 (some .boolean) ∈ WSG := lkT8 156 rfl rfl
set_option maxRecDepth 20000 in
theorem lk_1957 : Cond.constantLong RX12 308 (5 : Int64) ∈ WSG := lkT8 157 rfl rfl
set_option maxRecDepth 20000 in
theorem lk_1958 : Cond.methodLink RX12 292 yX12_doesHold ∈ WSG := lkT8 158 rfl rfl
set_option maxRecDepth 20000 in
theorem lk_1960 : Cond.instanceMethod yX12_doesHold ∈ WSG := lkT8 160 rfl rfl
set_option maxRecDepth 20000 in
theorem lk_1961 : Cond.code yX12_doesHold cX12_doesHold 3 (some .boolean) ∈ WSG := lkT8 161 rfl rfl
set_option maxRecDepth 20000 in
theorem lk_1962 : Cond.methodLink RX12 289 yX12_isOpen ∈ WSG := lkT8 162 rfl rfl
set_option maxRecDepth 20000 in
theorem lk_1964 : Cond.instanceMethod yX12_isOpen ∈ WSG := lkT8 164 rfl rfl
set_option maxRecDepth 20000 in
theorem lk_1965 : Cond.code yX12_isOpen cX12_isOpen 2 (some .boolean) ∈ WSG := lkT8 165 rfl rfl
set_option maxRecDepth 20000 in
theorem lk_1970 : Cond.methodLink RX12 295 yX12_isSky ∈ WSG := lkT8 170 rfl rfl
set_option maxRecDepth 20000 in
theorem lk_1972 : Cond.instanceMethod yX12_isSky ∈ WSG := lkT8 172 rfl rfl
set_option maxRecDepth 20000 in
theorem lk_1973 : Cond.code yX12_isSky cX12_isSky 3 (some .boolean) ∈ WSG := lkT8 173 rfl rfl
set_option maxRecDepth 20000 in
theorem lk_1982 : Cond.methodLink RX12 310 yX12_whyNot ∈ WSG := lkT8 182 rfl rfl
set_option maxRecDepth 20000 in
theorem lk_1984 : Cond.instanceMethod yX12_whyNot ∈ WSG := lkT8 184 rfl rfl
set_option maxRecDepth 20000 in
theorem lk_1985 : Cond.code yX12_whyNot cX12_whyNot 3 (some .int) ∈ WSG := lkT8 185 rfl rfl
set_option maxRecDepth 20000 in
theorem lk_1986 : Cond.methodLink RX12 299 yX12_musts ∈ WSG := lkT8 186 rfl rfl
set_option maxRecDepth 20000 in
theorem lk_1988 : Cond.instanceMethod yX12_musts ∈ WSG := lkT8 188 rfl rfl
set_option maxRecDepth 20000 in
theorem lk_1989 : Cond.code yX12_musts cX12_musts 3 (some .int) ∈ WSG := lkT8 189 rfl rfl
set_option maxRecDepth 20000 in
theorem lk_1990 : Cond.methodLink RX12 302 yX12_grantedIn ∈ WSG := lkT8 190 rfl rfl
set_option maxRecDepth 20000 in
theorem lk_1992 : Cond.instanceMethod yX12_grantedIn ∈ WSG := lkT8 192 rfl rfl
set_option maxRecDepth 20000 in
theorem lk_1993 : Cond.code yX12_grantedIn cX12_grantedIn 4 (some .int) ∈ WSG := lkT8 193 rfl rfl
set_option maxRecDepth 20000 in
theorem lk_2006 : Cond.methodLink RX12 313 yX12_isAsked ∈ WSG := lkT8 206 rfl rfl
set_option maxRecDepth 20000 in
theorem lk_2008 : Cond.instanceMethod yX12_isAsked ∈ WSG := lkT8 208 rfl rfl
set_option maxRecDepth 20000 in
theorem lk_2009 : Cond.code yX12_isAsked cX12_isAsked 2 (some .boolean) ∈ WSG := lkT8 209 rfl rfl
set_option maxRecDepth 20000 in
theorem lk_2010 : Cond.methodLink RX12 316 yX12_laysPlans ∈ WSG := lkT8 210 rfl rfl
set_option maxRecDepth 20000 in
theorem lk_2012 : Cond.instanceMethod yX12_laysPlans ∈ WSG := lkT8 212 rfl rfl
set_option maxRecDepth 20000 in
theorem lk_2013 : Cond.code yX12_laysPlans cX12_laysPlans 3 none ∈ WSG := lkT8 213 rfl rfl
set_option maxRecDepth 20000 in
theorem lk_2014 : Cond.methodLink RX12 319 yX12_planFor ∈ WSG := lkT8 214 rfl rfl
set_option maxRecDepth 20000 in
theorem lk_2016 : Cond.instanceMethod yX12_planFor ∈ WSG := lkT8 216 rfl rfl
set_option maxRecDepth 20000 in
theorem lk_2017 : Cond.code yX12_planFor cX12_planFor 4 (some .int) ∈ WSG := lkT8 217 rfl rfl
set_option maxRecDepth 20000 in
theorem lk_2026 : Cond.methodLink RX12 322 yX12_openFault ∈ WSG := lkT8 226 rfl rfl
set_option maxRecDepth 20000 in
theorem lk_2028 : Cond.instanceMethod yX12_openFault ∈ WSG := lkT8 228 rfl rfl
set_option maxRecDepth 20000 in
theorem lk_2029 : Cond.code yX12_openFault cX12_openFault 2 (some .int) ∈ WSG := lkT8 229 rfl rfl
set_option maxRecDepth 20000 in
theorem lk_2034 : Cond.constantLong RX12 325 (2 : Int64) ∈ WSG := lkT8 234 rfl rfl
set_option maxRecDepth 20000 in
theorem lk_2035 : Cond.methodLink RX12 327 yX12_weight ∈ WSG := lkT8 235 rfl rfl
set_option maxRecDepth 20000 in
theorem lk_2037 : Cond.instanceMethod yX12_weight ∈ WSG := lkT8 237 rfl rfl
set_option maxRecDepth 20000 in
theorem lk_2038 : Cond.code yX12_weight cX12_weight 4 (some .int) ∈ WSG := lkT8 238 rfl rfl
set_option maxRecDepth 20000 in
theorem lk_2047 : Cond.methodLink RX12 329 yX12_heartsOf ∈ WSG := lkT9 7 rfl rfl
set_option maxRecDepth 20000 in
theorem lk_2049 : Cond.instanceMethod yX12_heartsOf ∈ WSG := lkT9 9 rfl rfl
set_option maxRecDepth 20000 in
theorem lk_2050 : Cond.code yX12_heartsOf cX12_heartsOf 5 (some .int) ∈ WSG := lkT9 10 rfl rfl
set_option maxRecDepth 20000 in
theorem lk_2063 : Cond.constantLong RX12 336 (100 : Int64) ∈ WSG := lkT9 23 rfl rfl
set_option maxRecDepth 20000 in
theorem lk_2064 : Cond.methodLink RX12 338 yX12_expects ∈ WSG := lkT9 24 rfl rfl
set_option maxRecDepth 20000 in
theorem lk_2066 : Cond.instanceMethod yX12_expects ∈ WSG := lkT9 26 rfl rfl
set_option maxRecDepth 20000 in
theorem lk_2067 : Cond.code yX12_expects cX12_expects 8 (some .long) ∈ WSG := lkT9 27 rfl rfl
set_option maxRecDepth 20000 in
theorem lk_2068 : Cond.methodLink RX12 332 yX12_power ∈ WSG := lkT9 28 rfl rfl
set_option maxRecDepth 20000 in
theorem lk_2069 : Cond.static yX12_power ∈ WSG := lkT9 29 rfl rfl
set_option maxRecDepth 20000 in
theorem lk_2070 : Cond.code yX12_power cX12_power 6 (some .long) ∈ WSG := lkT9 30 rfl rfl
set_option maxRecDepth 20000 in
theorem lk_2079 : Cond.methodLink RX12 351 yX12_isRule ∈ WSG := lkT9 39 rfl rfl
set_option maxRecDepth 20000 in
theorem lk_2080 : Cond.static yX12_isRule ∈ WSG := lkT9 40 rfl rfl
set_option maxRecDepth 20000 in
theorem lk_2081 : Cond.code yX12_isRule cX12_isRule 1 (some .boolean) ∈ WSG := lkT9 41 rfl rfl
set_option maxRecDepth 20000 in
theorem lk_2082 : Cond.constantLong RX12 349 (3 : Int64) ∈ WSG := lkT9 42 rfl rfl
set_option maxRecDepth 20000 in
theorem lk_2083 : Cond.methodLink RX12 354 yX12_asksAsItIs ∈ WSG := lkT9 43 rfl rfl
set_option maxRecDepth 20000 in
theorem lk_2085 : Cond.instanceMethod yX12_asksAsItIs ∈ WSG := lkT9 45 rfl rfl
set_option maxRecDepth 20000 in
theorem lk_2086 : Cond.code yX12_asksAsItIs cX12_asksAsItIs 2 none ∈ WSG := lkT9 46 rfl rfl
set_option maxRecDepth 20000 in
theorem lk_2087 : Cond.methodLink RX12 357 yX12_serves ∈ WSG := lkT9 47 rfl rfl
set_option maxRecDepth 20000 in
theorem lk_2089 : Cond.instanceMethod yX12_serves ∈ WSG := lkT9 49 rfl rfl
set_option maxRecDepth 20000 in
theorem lk_2090 : Cond.code yX12_serves cX12_serves 7 (some .int) ∈ WSG := lkT9 50 rfl rfl
set_option maxRecDepth 20000 in
theorem lk_2091 : Cond.methodLink RX12 345 yX12_key ∈ WSG := lkT9 51 rfl rfl
set_option maxRecDepth 20000 in
theorem lk_2093 : Cond.instanceMethod yX12_key ∈ WSG := lkT9 53 rfl rfl
set_option maxRecDepth 20000 in
theorem lk_2094 : Cond.code yX12_key cX12_key 5 (some .int) ∈ WSG := lkT9 54 rfl rfl
set_option maxRecDepth 20000 in
theorem lk_2095 : Cond.methodLink RX12 342 yX12_manyOf ∈ WSG := lkT9 55 rfl rfl
set_option maxRecDepth 20000 in
theorem lk_2097 : Cond.instanceMethod yX12_manyOf ∈ WSG := lkT9 57 rfl rfl
set_option maxRecDepth 20000 in
theorem lk_2098 : Cond.code yX12_manyOf cX12_manyOf 5 (some .int) ∈ WSG := lkT9 58 rfl rfl
set_option maxRecDepth 20000 in
theorem lk_2103 : Cond.methodLink RX12 360 yX12_isBody ∈ WSG := lkT9 63 rfl rfl
set_option maxRecDepth 20000 in
theorem lk_2104 : Cond.static yX12_isBody ∈ WSG := lkT9 64 rfl rfl
set_option maxRecDepth 20000 in
theorem lk_2105 : Cond.code yX12_isBody cX12_isBody 1 (some .boolean) ∈ WSG := lkT9 65 rfl rfl
set_option maxRecDepth 20000 in
theorem lk_2106 : Cond.methodLink RX12 363 yX12_shareOf ∈ WSG := lkT9 66 rfl rfl
set_option maxRecDepth 20000 in
theorem lk_2108 : Cond.instanceMethod yX12_shareOf ∈ WSG := lkT9 68 rfl rfl
set_option maxRecDepth 20000 in
theorem lk_2109 : Cond.code yX12_shareOf cX12_shareOf 5 (some .int) ∈ WSG := lkT9 69 rfl rfl
set_option maxRecDepth 20000 in
theorem lk_2114 : Cond.methodLink RX12 366 yX12_shareBy ∈ WSG := lkT9 74 rfl rfl
set_option maxRecDepth 20000 in
theorem lk_2116 : Cond.instanceMethod yX12_shareBy ∈ WSG := lkT9 76 rfl rfl
set_option maxRecDepth 20000 in
theorem lk_2117 : Cond.code yX12_shareBy cX12_shareBy 5 (some .int) ∈ WSG := lkT9 77 rfl rfl
set_option maxRecDepth 20000 in
theorem lk_2126 : Cond.methodLink RX12 392 yX12_wantsFault ∈ WSG := lkT9 86 rfl rfl
set_option maxRecDepth 20000 in
theorem lk_2128 : Cond.instanceMethod yX12_wantsFault ∈ WSG := lkT9 88 rfl rfl
set_option maxRecDepth 20000 in
theorem lk_2129 : Cond.code yX12_wantsFault cX12_wantsFault 5 (some .int) ∈ WSG := lkT9 89 rfl rfl
set_option maxRecDepth 20000 in
theorem lk_2130 : Cond.methodLink RX12 385 yX12_trayFault ∈ WSG := lkT9 90 rfl rfl
set_option maxRecDepth 20000 in
theorem lk_2132 : Cond.instanceMethod yX12_trayFault ∈ WSG := lkT9 92 rfl rfl
set_option maxRecDepth 20000 in
theorem lk_2133 : Cond.code yX12_trayFault cX12_trayFault 2 (some .int) ∈ WSG := lkT9 93 rfl rfl
set_option maxRecDepth 20000 in
theorem lk_2134 : Cond.methodLink RX12 369 yX12_isTray ∈ WSG := lkT9 94 rfl rfl
set_option maxRecDepth 20000 in
theorem lk_2135 : Cond.static yX12_isTray ∈ WSG := lkT9 95 rfl rfl
set_option maxRecDepth 20000 in
theorem lk_2136 : Cond.code yX12_isTray cX12_isTray 1 (some .boolean) ∈ WSG := lkT9 96 rfl rfl
set_option maxRecDepth 20000 in
theorem lk_2137 : Cond.constantLong RX12 388 (10 : Int64) ∈ WSG := lkT9 97 rfl rfl
set_option maxRecDepth 20000 in
theorem lk_2138 : Cond.constantLong RX12 390 (12 : Int64) ∈ WSG := lkT9 98 rfl rfl
set_option maxRecDepth 20000 in
theorem lk_2139 : Cond.methodLink RX12 381 yX12_goesWants ∈ WSG := lkT9 99 rfl rfl
set_option maxRecDepth 20000 in
theorem lk_2141 : Cond.instanceMethod yX12_goesWants ∈ WSG := lkT9 101 rfl rfl
set_option maxRecDepth 20000 in
theorem lk_2142 : Cond.code yX12_goesWants cX12_goesWants 6 none ∈ WSG := lkT9 102 rfl rfl
set_option maxRecDepth 20000 in
theorem lk_2143 : Cond.methodLink RX12 375 yX12_doPart ∈ WSG := lkT9 103 rfl rfl
set_option maxRecDepth 20000 in
theorem lk_2145 : Cond.instanceMethod yX12_doPart ∈ WSG := lkT9 105 rfl rfl
set_option maxRecDepth 20000 in
theorem lk_2146 : Cond.code yX12_doPart cX12_doPart 7 (some .boolean) ∈ WSG := lkT9 106 rfl rfl
set_option maxRecDepth 20000 in
theorem lk_2147 : Cond.methodLink RX12 372 yX12_isSo ∈ WSG := lkT9 107 rfl rfl
set_option maxRecDepth 20000 in
theorem lk_2148 : Cond.static yX12_isSo ∈ WSG := lkT9 108 rfl rfl
set_option maxRecDepth 20000 in
theorem lk_2149 : Cond.code yX12_isSo cX12_isSo 2 (some .boolean) ∈ WSG := lkT9 109 rfl rfl
set_option maxRecDepth 20000 in
theorem lk_2154 : Cond.methodLink RX12 408 yX12_sayFault ∈ WSG := lkT9 114 rfl rfl
set_option maxRecDepth 20000 in
theorem lk_2156 : Cond.instanceMethod yX12_sayFault ∈ WSG := lkT9 116 rfl rfl
set_option maxRecDepth 20000 in
theorem lk_2157 : Cond.code yX12_sayFault cX12_sayFault 6 (some .int) ∈ WSG := lkT9 117 rfl rfl
set_option maxRecDepth 20000 in
theorem lk_2158 : Cond.methodLink RX12 411 yX12_reads ∈ WSG := lkT9 118 rfl rfl
set_option maxRecDepth 20000 in
theorem lk_2160 : Cond.instanceMethod yX12_reads ∈ WSG := lkT9 120 rfl rfl
set_option maxRecDepth 20000 in
theorem lk_2161 : Cond.code yX12_reads cX12_reads 11 none ∈ WSG := lkT9 121 rfl rfl
set_option maxRecDepth 20000 in
theorem lk_2162 : Cond.methodLink RX12 398 yX12_laysReading ∈ WSG := lkT9 122 rfl rfl
set_option maxRecDepth 20000 in
theorem lk_2164 : Cond.instanceMethod yX12_laysReading ∈ WSG := lkT9 124 rfl rfl
set_option maxRecDepth 20000 in
theorem lk_2165 : Cond.code yX12_laysReading cX12_laysReading 3 none ∈ WSG := lkT9 125 rfl rfl
set_option maxRecDepth 20000 in
theorem lk_2166 : Cond.methodLink RX12 401 yX12_laysPair ∈ WSG := lkT9 126 rfl rfl
set_option maxRecDepth 20000 in
theorem lk_2168 : Cond.instanceMethod yX12_laysPair ∈ WSG := lkT9 128 rfl rfl
set_option maxRecDepth 20000 in
theorem lk_2169 : Cond.code yX12_laysPair cX12_laysPair 9 none ∈ WSG := lkT9 129 rfl rfl
set_option maxRecDepth 20000 in
theorem lk_2170 : Cond.methodLink RX12 415 yX12_unlike ∈ WSG := lkT9 130 rfl rfl
set_option maxRecDepth 20000 in
theorem lk_2172 : Cond.instanceMethod yX12_unlike ∈ WSG := lkT9 132 rfl rfl
set_option maxRecDepth 20000 in
theorem lk_2173 : Cond.code yX12_unlike cX12_unlike 7 (some .int) ∈ WSG := lkT9 133 rfl rfl
set_option maxRecDepth 20000 in
theorem lk_2174 : Cond.methodLink RX12 405 yX12_areLike ∈ WSG := lkT9 134 rfl rfl
set_option maxRecDepth 20000 in
theorem lk_2176 : Cond.instanceMethod yX12_areLike ∈ WSG := lkT9 136 rfl rfl
set_option maxRecDepth 20000 in
theorem lk_2177 : Cond.code yX12_areLike cX12_areLike 4 (some .boolean) ∈ WSG := lkT9 137 rfl rfl
set_option maxRecDepth 20000 in
theorem lk_2178 : Cond.methodLink RX12 418 yX12_holdsIn ∈ WSG := lkT9 138 rfl rfl
set_option maxRecDepth 20000 in
theorem lk_2180 : Cond.instanceMethod yX12_holdsIn ∈ WSG := lkT9 140 rfl rfl
set_option maxRecDepth 20000 in
theorem lk_2181 : Cond.code yX12_holdsIn cX12_holdsIn 4 (some .int) ∈ WSG := lkT9 141 rfl rfl
set_option maxRecDepth 20000 in
theorem lk_2182 : Cond.methodLink RX12 421 Lib.Math.max.name ∈ WSG := lkT9 142 rfl rfl
set_option maxRecDepth 20000 in
theorem lk_2187 : Cond.methodLink RX12 423 yX12_keeps ∈ WSG := lkT9 147 rfl rfl
set_option maxRecDepth 20000 in
theorem lk_2189 : Cond.instanceMethod yX12_keeps ∈ WSG := lkT9 149 rfl rfl
set_option maxRecDepth 20000 in
theorem lk_2190 : Cond.code yX12_keeps cX12_keeps 2 none ∈ WSG := lkT9 150 rfl rfl
set_option maxRecDepth 20000 in
theorem lk_2191 : Cond.methodLink RX12 426 yX12_goesBy ∈ WSG := lkT9 151 rfl rfl
set_option maxRecDepth 20000 in
theorem lk_2193 : Cond.instanceMethod yX12_goesBy ∈ WSG := lkT9 153 rfl rfl
set_option maxRecDepth 20000 in
theorem lk_2194 : Cond.code yX12_goesBy cX12_goesBy 4 (some .int) ∈ WSG := lkT9 154 rfl rfl
set_option maxRecDepth 20000 in
theorem lk_2199 : Cond.constantLong RX12 429 (99 : Int64) ∈ WSG := lkT9 159 rfl rfl
set_option maxRecDepth 20000 in
theorem lk_2228 : Cond.constantLong RX12 435 (30 : Int64) ∈ WSG := lkT9 188 rfl rfl
set_option maxRecDepth 20000 in
theorem lk_2229 : Cond.methodLink RX12 437 yX12_draw ∈ WSG := lkT9 189 rfl rfl
set_option maxRecDepth 20000 in
theorem lk_2231 : Cond.instanceMethod yX12_draw ∈ WSG := lkT9 191 rfl rfl
set_option maxRecDepth 20000 in
theorem lk_2232 : Cond.code yX12_draw cX12_draw 2 (some .int) ∈ WSG := lkT9 192 rfl rfl
set_option maxRecDepth 20000 in
theorem lk_2233 : Cond.constant RX12 431 (1103515245 : Int32) ∈ WSG := lkT9 193 rfl rfl
set_option maxRecDepth 20000 in
theorem lk_2238 : Cond.methodLink RX12 446 yX12_holdFault ∈ WSG := lkT9 198 rfl rfl
set_option maxRecDepth 20000 in
theorem lk_2240 : Cond.instanceMethod yX12_holdFault ∈ WSG := lkT9 200 rfl rfl
set_option maxRecDepth 20000 in
theorem lk_2241 : Cond.code yX12_holdFault cX12_holdFault 6 (some .int) ∈ WSG := lkT9 201 rfl rfl
set_option maxRecDepth 20000 in
theorem lk_2242 : Cond.constantLong RX12 440 (6 : Int64) ∈ WSG := lkT9 202 rfl rfl
set_option maxRecDepth 20000 in
theorem lk_2243 : Cond.methodLink RX12 449 yX12_laysWorth ∈ WSG := lkT9 203 rfl rfl
set_option maxRecDepth 20000 in
theorem lk_2245 : Cond.instanceMethod yX12_laysWorth ∈ WSG := lkT9 205 rfl rfl
set_option maxRecDepth 20000 in
theorem lk_2246 : Cond.code yX12_laysWorth cX12_laysWorth 9 none ∈ WSG := lkT9 206 rfl rfl
set_option maxRecDepth 20000 in
theorem lk_2247 : Cond.methodLink RX12 442 yX12_grantsNow ∈ WSG := lkT9 207 rfl rfl
set_option maxRecDepth 20000 in
theorem lk_2249 : Cond.instanceMethod yX12_grantsNow ∈ WSG := lkT9 209 rfl rfl
set_option maxRecDepth 20000 in
theorem lk_2250 : Cond.code yX12_grantsNow cX12_grantsNow 6 (some .long) ∈ WSG := lkT9 210 rfl rfl
set_option maxRecDepth 20000 in
theorem lk_2255 : Cond.constantLong RX12 452 (-1 : Int64) ∈ WSG := lkT9 215 rfl rfl
set_option maxRecDepth 20000 in
theorem lk_2264 : Cond.methodLink RX12 454 yX12_cut ∈ WSG := lkT9 224 rfl rfl
set_option maxRecDepth 20000 in
theorem lk_2266 : Cond.instanceMethod yX12_cut ∈ WSG := lkT9 226 rfl rfl
set_option maxRecDepth 20000 in
theorem lk_2267 : Cond.code yX12_cut cX12_cut 6 (some .long) ∈ WSG := lkT9 227 rfl rfl
set_option maxRecDepth 20000 in
theorem lk_2305 : Cond.fieldLink RJ0 15 "java/lang/String" "coder" "B" ∈ WSG := lkT10 25 rfl rfl
set_option maxRecDepth 20000 in
theorem lk_2306 : Cond.fieldLink RJ0 9 "java/lang/String" "value" "[B" ∈ WSG := lkT10 26 rfl rfl
set_option maxRecDepth 20000 in
theorem ul_0_0 : u_lay RX0 TX0 0 ∈ WSG := lkT1 228 rfl rfl
set_option maxRecDepth 20000 in
theorem ul_0_1 : u_lay RX0 TX0 1 ∈ WSG := lkT1 230 rfl rfl
set_option maxRecDepth 20000 in
theorem ul_0_2 : u_lay RX0 TX0 2 ∈ WSG := lkT1 232 rfl rfl
set_option maxRecDepth 20000 in
theorem ul_0_3 : u_lay RX0 TX0 3 ∈ WSG := lkT1 234 rfl rfl
set_option maxRecDepth 20000 in
theorem ul_0_4 : u_lay RX0 TX0 4 ∈ WSG := lkT1 236 rfl rfl
set_option maxRecDepth 20000 in
theorem ul_0_5 : u_lay RX0 TX0 5 ∈ WSG := lkT1 238 rfl rfl
theorem iw_0 : ∀ w ∈ u_ws RX0 TX0 6, w ∈ WSG := by
  intro w hw
  obtain ⟨k, hk, rfl⟩ := List.mem_map.mp hw
  have hk := List.mem_range.mp hk
  match k, hk with
  | 0, _ => exact ul_0_0
  | 1, _ => exact ul_0_1
  | 2, _ => exact ul_0_2
  | 3, _ => exact ul_0_3
  | 4, _ => exact ul_0_4
  | 5, _ => exact ul_0_5
  | k + 6, hk => exact absurd hk (by omega)
set_option maxRecDepth 20000 in
theorem ul_1_0 : u_lay RX1 TX1 0 ∈ WSG := lkT2 137 rfl rfl
set_option maxRecDepth 20000 in
theorem ul_1_1 : u_lay RX1 TX1 1 ∈ WSG := lkT2 139 rfl rfl
set_option maxRecDepth 20000 in
theorem ul_1_2 : u_lay RX1 TX1 2 ∈ WSG := lkT2 141 rfl rfl
set_option maxRecDepth 20000 in
theorem ul_1_3 : u_lay RX1 TX1 3 ∈ WSG := lkT2 143 rfl rfl
set_option maxRecDepth 20000 in
theorem ul_1_4 : u_lay RX1 TX1 4 ∈ WSG := lkT2 145 rfl rfl
set_option maxRecDepth 20000 in
theorem ul_1_5 : u_lay RX1 TX1 5 ∈ WSG := lkT2 147 rfl rfl
set_option maxRecDepth 20000 in
theorem ul_1_6 : u_lay RX1 TX1 6 ∈ WSG := lkT2 149 rfl rfl
set_option maxRecDepth 20000 in
theorem ul_1_7 : u_lay RX1 TX1 7 ∈ WSG := lkT2 151 rfl rfl
set_option maxRecDepth 20000 in
theorem ul_1_8 : u_lay RX1 TX1 8 ∈ WSG := lkT2 153 rfl rfl
theorem iw_1 : ∀ w ∈ u_ws RX1 TX1 9, w ∈ WSG := by
  intro w hw
  obtain ⟨k, hk, rfl⟩ := List.mem_map.mp hw
  have hk := List.mem_range.mp hk
  match k, hk with
  | 0, _ => exact ul_1_0
  | 1, _ => exact ul_1_1
  | 2, _ => exact ul_1_2
  | 3, _ => exact ul_1_3
  | 4, _ => exact ul_1_4
  | 5, _ => exact ul_1_5
  | 6, _ => exact ul_1_6
  | 7, _ => exact ul_1_7
  | 8, _ => exact ul_1_8
  | k + 9, hk => exact absurd hk (by omega)
set_option maxRecDepth 20000 in
theorem ul_2_0 : u_lay RX2 TX2 0 ∈ WSG := lkT2 39 rfl rfl
set_option maxRecDepth 20000 in
theorem ul_2_1 : u_lay RX2 TX2 1 ∈ WSG := lkT2 41 rfl rfl
set_option maxRecDepth 20000 in
theorem ul_2_2 : u_lay RX2 TX2 2 ∈ WSG := lkT2 43 rfl rfl
set_option maxRecDepth 20000 in
theorem ul_2_3 : u_lay RX2 TX2 3 ∈ WSG := lkT2 45 rfl rfl
set_option maxRecDepth 20000 in
theorem ul_2_4 : u_lay RX2 TX2 4 ∈ WSG := lkT2 47 rfl rfl
set_option maxRecDepth 20000 in
theorem ul_2_5 : u_lay RX2 TX2 5 ∈ WSG := lkT2 49 rfl rfl
set_option maxRecDepth 20000 in
theorem ul_2_6 : u_lay RX2 TX2 6 ∈ WSG := lkT2 51 rfl rfl
set_option maxRecDepth 20000 in
theorem ul_2_7 : u_lay RX2 TX2 7 ∈ WSG := lkT2 53 rfl rfl
set_option maxRecDepth 20000 in
theorem ul_2_8 : u_lay RX2 TX2 8 ∈ WSG := lkT2 55 rfl rfl
theorem iw_2 : ∀ w ∈ u_ws RX2 TX2 9, w ∈ WSG := by
  intro w hw
  obtain ⟨k, hk, rfl⟩ := List.mem_map.mp hw
  have hk := List.mem_range.mp hk
  match k, hk with
  | 0, _ => exact ul_2_0
  | 1, _ => exact ul_2_1
  | 2, _ => exact ul_2_2
  | 3, _ => exact ul_2_3
  | 4, _ => exact ul_2_4
  | 5, _ => exact ul_2_5
  | 6, _ => exact ul_2_6
  | 7, _ => exact ul_2_7
  | 8, _ => exact ul_2_8
  | k + 9, hk => exact absurd hk (by omega)
set_option maxRecDepth 20000 in
theorem ul_3_0 : u_lay RX3 TX3 0 ∈ WSG := lkT2 13 rfl rfl
set_option maxRecDepth 20000 in
theorem ul_3_1 : u_lay RX3 TX3 1 ∈ WSG := lkT2 15 rfl rfl
set_option maxRecDepth 20000 in
theorem ul_3_2 : u_lay RX3 TX3 2 ∈ WSG := lkT2 17 rfl rfl
theorem iw_3 : ∀ w ∈ u_ws RX3 TX3 3, w ∈ WSG := by
  intro w hw
  obtain ⟨k, hk, rfl⟩ := List.mem_map.mp hw
  have hk := List.mem_range.mp hk
  match k, hk with
  | 0, _ => exact ul_3_0
  | 1, _ => exact ul_3_1
  | 2, _ => exact ul_3_2
  | k + 3, hk => exact absurd hk (by omega)
set_option maxRecDepth 20000 in
theorem ul_4_0 : u_lay RX4 TX4 0 ∈ WSG := lkT2 168 rfl rfl
set_option maxRecDepth 20000 in
theorem ul_4_1 : u_lay RX4 TX4 1 ∈ WSG := lkT2 170 rfl rfl
set_option maxRecDepth 20000 in
theorem ul_4_2 : u_lay RX4 TX4 2 ∈ WSG := lkT2 172 rfl rfl
set_option maxRecDepth 20000 in
theorem ul_4_3 : u_lay RX4 TX4 3 ∈ WSG := lkT2 174 rfl rfl
theorem iw_4 : ∀ w ∈ u_ws RX4 TX4 4, w ∈ WSG := by
  intro w hw
  obtain ⟨k, hk, rfl⟩ := List.mem_map.mp hw
  have hk := List.mem_range.mp hk
  match k, hk with
  | 0, _ => exact ul_4_0
  | 1, _ => exact ul_4_1
  | 2, _ => exact ul_4_2
  | 3, _ => exact ul_4_3
  | k + 4, hk => exact absurd hk (by omega)
set_option maxRecDepth 20000 in
theorem ul_5_0 : u_lay RX5 TX5 0 ∈ WSG := lkT2 106 rfl rfl
set_option maxRecDepth 20000 in
theorem ul_5_1 : u_lay RX5 TX5 1 ∈ WSG := lkT2 108 rfl rfl
set_option maxRecDepth 20000 in
theorem ul_5_2 : u_lay RX5 TX5 2 ∈ WSG := lkT2 110 rfl rfl
set_option maxRecDepth 20000 in
theorem ul_5_3 : u_lay RX5 TX5 3 ∈ WSG := lkT2 112 rfl rfl
set_option maxRecDepth 20000 in
theorem ul_5_4 : u_lay RX5 TX5 4 ∈ WSG := lkT2 114 rfl rfl
set_option maxRecDepth 20000 in
theorem ul_5_5 : u_lay RX5 TX5 5 ∈ WSG := lkT2 116 rfl rfl
set_option maxRecDepth 20000 in
theorem ul_5_6 : u_lay RX5 TX5 6 ∈ WSG := lkT2 118 rfl rfl
theorem iw_5 : ∀ w ∈ u_ws RX5 TX5 7, w ∈ WSG := by
  intro w hw
  obtain ⟨k, hk, rfl⟩ := List.mem_map.mp hw
  have hk := List.mem_range.mp hk
  match k, hk with
  | 0, _ => exact ul_5_0
  | 1, _ => exact ul_5_1
  | 2, _ => exact ul_5_2
  | 3, _ => exact ul_5_3
  | 4, _ => exact ul_5_4
  | 5, _ => exact ul_5_5
  | 6, _ => exact ul_5_6
  | k + 7, hk => exact absurd hk (by omega)
set_option maxRecDepth 20000 in
theorem ul_6_0 : u_lay RX6 TX6 0 ∈ WSG := lkT1 182 rfl rfl
set_option maxRecDepth 20000 in
theorem ul_6_1 : u_lay RX6 TX6 1 ∈ WSG := lkT1 184 rfl rfl
set_option maxRecDepth 20000 in
theorem ul_6_2 : u_lay RX6 TX6 2 ∈ WSG := lkT1 186 rfl rfl
set_option maxRecDepth 20000 in
theorem ul_6_3 : u_lay RX6 TX6 3 ∈ WSG := lkT1 188 rfl rfl
set_option maxRecDepth 20000 in
theorem ul_6_4 : u_lay RX6 TX6 4 ∈ WSG := lkT1 190 rfl rfl
set_option maxRecDepth 20000 in
theorem ul_6_5 : u_lay RX6 TX6 5 ∈ WSG := lkT1 192 rfl rfl
set_option maxRecDepth 20000 in
theorem ul_6_6 : u_lay RX6 TX6 6 ∈ WSG := lkT1 194 rfl rfl
set_option maxRecDepth 20000 in
theorem ul_6_7 : u_lay RX6 TX6 7 ∈ WSG := lkT1 196 rfl rfl
set_option maxRecDepth 20000 in
theorem ul_6_8 : u_lay RX6 TX6 8 ∈ WSG := lkT1 198 rfl rfl
set_option maxRecDepth 20000 in
theorem ul_6_9 : u_lay RX6 TX6 9 ∈ WSG := lkT1 200 rfl rfl
set_option maxRecDepth 20000 in
theorem ul_6_10 : u_lay RX6 TX6 10 ∈ WSG := lkT1 202 rfl rfl
set_option maxRecDepth 20000 in
theorem ul_6_11 : u_lay RX6 TX6 11 ∈ WSG := lkT1 204 rfl rfl
theorem iw_6 : ∀ w ∈ u_ws RX6 TX6 12, w ∈ WSG := by
  intro w hw
  obtain ⟨k, hk, rfl⟩ := List.mem_map.mp hw
  have hk := List.mem_range.mp hk
  match k, hk with
  | 0, _ => exact ul_6_0
  | 1, _ => exact ul_6_1
  | 2, _ => exact ul_6_2
  | 3, _ => exact ul_6_3
  | 4, _ => exact ul_6_4
  | 5, _ => exact ul_6_5
  | 6, _ => exact ul_6_6
  | 7, _ => exact ul_6_7
  | 8, _ => exact ul_6_8
  | 9, _ => exact ul_6_9
  | 10, _ => exact ul_6_10
  | 11, _ => exact ul_6_11
  | k + 12, hk => exact absurd hk (by omega)
set_option maxRecDepth 20000 in
theorem ul_7_0 : u_lay RX7 TX7 0 ∈ WSG := lkT2 74 rfl rfl
set_option maxRecDepth 20000 in
theorem ul_7_1 : u_lay RX7 TX7 1 ∈ WSG := lkT2 76 rfl rfl
set_option maxRecDepth 20000 in
theorem ul_7_2 : u_lay RX7 TX7 2 ∈ WSG := lkT2 78 rfl rfl
set_option maxRecDepth 20000 in
theorem ul_7_3 : u_lay RX7 TX7 3 ∈ WSG := lkT2 80 rfl rfl
set_option maxRecDepth 20000 in
theorem ul_7_4 : u_lay RX7 TX7 4 ∈ WSG := lkT2 82 rfl rfl
set_option maxRecDepth 20000 in
theorem ul_7_5 : u_lay RX7 TX7 5 ∈ WSG := lkT2 84 rfl rfl
set_option maxRecDepth 20000 in
theorem ul_7_6 : u_lay RX7 TX7 6 ∈ WSG := lkT2 86 rfl rfl
set_option maxRecDepth 20000 in
theorem ul_7_7 : u_lay RX7 TX7 7 ∈ WSG := lkT2 88 rfl rfl
theorem iw_7 : ∀ w ∈ u_ws RX7 TX7 8, w ∈ WSG := by
  intro w hw
  obtain ⟨k, hk, rfl⟩ := List.mem_map.mp hw
  have hk := List.mem_range.mp hk
  match k, hk with
  | 0, _ => exact ul_7_0
  | 1, _ => exact ul_7_1
  | 2, _ => exact ul_7_2
  | 3, _ => exact ul_7_3
  | 4, _ => exact ul_7_4
  | 5, _ => exact ul_7_5
  | 6, _ => exact ul_7_6
  | 7, _ => exact ul_7_7
  | k + 8, hk => exact absurd hk (by omega)
set_option maxRecDepth 20000 in
theorem ul_8_0 : u_lay RX8 TX8 0 ∈ WSG := lkT1 102 rfl rfl
set_option maxRecDepth 20000 in
theorem ul_8_1 : u_lay RX8 TX8 1 ∈ WSG := lkT1 104 rfl rfl
set_option maxRecDepth 20000 in
theorem ul_8_2 : u_lay RX8 TX8 2 ∈ WSG := lkT1 106 rfl rfl
set_option maxRecDepth 20000 in
theorem ul_8_3 : u_lay RX8 TX8 3 ∈ WSG := lkT1 108 rfl rfl
set_option maxRecDepth 20000 in
theorem ul_8_4 : u_lay RX8 TX8 4 ∈ WSG := lkT1 110 rfl rfl
set_option maxRecDepth 20000 in
theorem ul_8_5 : u_lay RX8 TX8 5 ∈ WSG := lkT1 112 rfl rfl
set_option maxRecDepth 20000 in
theorem ul_8_6 : u_lay RX8 TX8 6 ∈ WSG := lkT1 114 rfl rfl
set_option maxRecDepth 20000 in
theorem ul_8_7 : u_lay RX8 TX8 7 ∈ WSG := lkT1 116 rfl rfl
set_option maxRecDepth 20000 in
theorem ul_8_8 : u_lay RX8 TX8 8 ∈ WSG := lkT1 118 rfl rfl
set_option maxRecDepth 20000 in
theorem ul_8_9 : u_lay RX8 TX8 9 ∈ WSG := lkT1 120 rfl rfl
set_option maxRecDepth 20000 in
theorem ul_8_10 : u_lay RX8 TX8 10 ∈ WSG := lkT1 122 rfl rfl
set_option maxRecDepth 20000 in
theorem ul_8_11 : u_lay RX8 TX8 11 ∈ WSG := lkT1 124 rfl rfl
set_option maxRecDepth 20000 in
theorem ul_8_12 : u_lay RX8 TX8 12 ∈ WSG := lkT1 126 rfl rfl
set_option maxRecDepth 20000 in
theorem ul_8_13 : u_lay RX8 TX8 13 ∈ WSG := lkT1 128 rfl rfl
set_option maxRecDepth 20000 in
theorem ul_8_14 : u_lay RX8 TX8 14 ∈ WSG := lkT1 130 rfl rfl
set_option maxRecDepth 20000 in
theorem ul_8_15 : u_lay RX8 TX8 15 ∈ WSG := lkT1 132 rfl rfl
theorem iw_8 : ∀ w ∈ u_ws RX8 TX8 16, w ∈ WSG := by
  intro w hw
  obtain ⟨k, hk, rfl⟩ := List.mem_map.mp hw
  have hk := List.mem_range.mp hk
  match k, hk with
  | 0, _ => exact ul_8_0
  | 1, _ => exact ul_8_1
  | 2, _ => exact ul_8_2
  | 3, _ => exact ul_8_3
  | 4, _ => exact ul_8_4
  | 5, _ => exact ul_8_5
  | 6, _ => exact ul_8_6
  | 7, _ => exact ul_8_7
  | 8, _ => exact ul_8_8
  | 9, _ => exact ul_8_9
  | 10, _ => exact ul_8_10
  | 11, _ => exact ul_8_11
  | 12, _ => exact ul_8_12
  | 13, _ => exact ul_8_13
  | 14, _ => exact ul_8_14
  | 15, _ => exact ul_8_15
  | k + 16, hk => exact absurd hk (by omega)
set_option maxRecDepth 20000 in
theorem ul_9_0 : u_lay RX9 TX9 0 ∈ WSG := lkT1 157 rfl rfl
set_option maxRecDepth 20000 in
theorem ul_9_1 : u_lay RX9 TX9 1 ∈ WSG := lkT1 159 rfl rfl
set_option maxRecDepth 20000 in
theorem ul_9_2 : u_lay RX9 TX9 2 ∈ WSG := lkT1 161 rfl rfl
set_option maxRecDepth 20000 in
theorem ul_9_3 : u_lay RX9 TX9 3 ∈ WSG := lkT1 163 rfl rfl
set_option maxRecDepth 20000 in
theorem ul_9_4 : u_lay RX9 TX9 4 ∈ WSG := lkT1 165 rfl rfl
theorem iw_9 : ∀ w ∈ u_ws RX9 TX9 5, w ∈ WSG := by
  intro w hw
  obtain ⟨k, hk, rfl⟩ := List.mem_map.mp hw
  have hk := List.mem_range.mp hk
  match k, hk with
  | 0, _ => exact ul_9_0
  | 1, _ => exact ul_9_1
  | 2, _ => exact ul_9_2
  | 3, _ => exact ul_9_3
  | 4, _ => exact ul_9_4
  | k + 5, hk => exact absurd hk (by omega)
set_option maxRecDepth 20000 in
theorem ul_10_0 : u_lay RX10 TX10 0 ∈ WSG := lkT2 196 rfl rfl
set_option maxRecDepth 20000 in
theorem ul_10_1 : u_lay RX10 TX10 1 ∈ WSG := lkT2 198 rfl rfl
set_option maxRecDepth 20000 in
theorem ul_10_2 : u_lay RX10 TX10 2 ∈ WSG := lkT2 200 rfl rfl
theorem iw_10 : ∀ w ∈ u_ws RX10 TX10 3, w ∈ WSG := by
  intro w hw
  obtain ⟨k, hk, rfl⟩ := List.mem_map.mp hw
  have hk := List.mem_range.mp hk
  match k, hk with
  | 0, _ => exact ul_10_0
  | 1, _ => exact ul_10_1
  | 2, _ => exact ul_10_2
  | k + 3, hk => exact absurd hk (by omega)
set_option maxRecDepth 20000 in
theorem ul_11_0 : u_lay RX11 TX11 0 ∈ WSG := lkT2 221 rfl rfl
set_option maxRecDepth 20000 in
theorem ul_11_1 : u_lay RX11 TX11 1 ∈ WSG := lkT2 223 rfl rfl
set_option maxRecDepth 20000 in
theorem ul_11_2 : u_lay RX11 TX11 2 ∈ WSG := lkT2 225 rfl rfl
set_option maxRecDepth 20000 in
theorem ul_11_3 : u_lay RX11 TX11 3 ∈ WSG := lkT2 227 rfl rfl
set_option maxRecDepth 20000 in
theorem ul_11_4 : u_lay RX11 TX11 4 ∈ WSG := lkT2 229 rfl rfl
set_option maxRecDepth 20000 in
theorem ul_11_5 : u_lay RX11 TX11 5 ∈ WSG := lkT2 231 rfl rfl
set_option maxRecDepth 20000 in
theorem ul_11_6 : u_lay RX11 TX11 6 ∈ WSG := lkT2 233 rfl rfl
set_option maxRecDepth 20000 in
theorem ul_11_7 : u_lay RX11 TX11 7 ∈ WSG := lkT2 235 rfl rfl
set_option maxRecDepth 20000 in
theorem ul_11_8 : u_lay RX11 TX11 8 ∈ WSG := lkT2 237 rfl rfl
set_option maxRecDepth 20000 in
theorem ul_11_9 : u_lay RX11 TX11 9 ∈ WSG := lkT2 239 rfl rfl
set_option maxRecDepth 20000 in
theorem ul_11_10 : u_lay RX11 TX11 10 ∈ WSG := lkT3 1 rfl rfl
set_option maxRecDepth 20000 in
theorem ul_11_11 : u_lay RX11 TX11 11 ∈ WSG := lkT3 3 rfl rfl
set_option maxRecDepth 20000 in
theorem ul_11_12 : u_lay RX11 TX11 12 ∈ WSG := lkT3 5 rfl rfl
set_option maxRecDepth 20000 in
theorem ul_11_13 : u_lay RX11 TX11 13 ∈ WSG := lkT3 7 rfl rfl
set_option maxRecDepth 20000 in
theorem ul_11_14 : u_lay RX11 TX11 14 ∈ WSG := lkT3 9 rfl rfl
set_option maxRecDepth 20000 in
theorem ul_11_15 : u_lay RX11 TX11 15 ∈ WSG := lkT3 11 rfl rfl
theorem iw_11 : ∀ w ∈ u_ws RX11 TX11 16, w ∈ WSG := by
  intro w hw
  obtain ⟨k, hk, rfl⟩ := List.mem_map.mp hw
  have hk := List.mem_range.mp hk
  match k, hk with
  | 0, _ => exact ul_11_0
  | 1, _ => exact ul_11_1
  | 2, _ => exact ul_11_2
  | 3, _ => exact ul_11_3
  | 4, _ => exact ul_11_4
  | 5, _ => exact ul_11_5
  | 6, _ => exact ul_11_6
  | 7, _ => exact ul_11_7
  | 8, _ => exact ul_11_8
  | 9, _ => exact ul_11_9
  | 10, _ => exact ul_11_10
  | 11, _ => exact ul_11_11
  | 12, _ => exact ul_11_12
  | 13, _ => exact ul_11_13
  | 14, _ => exact ul_11_14
  | 15, _ => exact ul_11_15
  | k + 16, hk => exact absurd hk (by omega)
set_option maxRecDepth 20000 in
theorem ul_12_0 : u_lay RX12 TX12 0 ∈ WSG := lkT7 181 rfl rfl
set_option maxRecDepth 20000 in
theorem ul_12_1 : u_lay RX12 TX12 1 ∈ WSG := lkT7 183 rfl rfl
set_option maxRecDepth 20000 in
theorem ul_12_2 : u_lay RX12 TX12 2 ∈ WSG := lkT7 185 rfl rfl
set_option maxRecDepth 20000 in
theorem ul_12_3 : u_lay RX12 TX12 3 ∈ WSG := lkT7 187 rfl rfl
set_option maxRecDepth 20000 in
theorem ul_12_4 : u_lay RX12 TX12 4 ∈ WSG := lkT7 189 rfl rfl
set_option maxRecDepth 20000 in
theorem ul_12_5 : u_lay RX12 TX12 5 ∈ WSG := lkT7 191 rfl rfl
set_option maxRecDepth 20000 in
theorem ul_12_6 : u_lay RX12 TX12 6 ∈ WSG := lkT7 193 rfl rfl
set_option maxRecDepth 20000 in
theorem ul_12_7 : u_lay RX12 TX12 7 ∈ WSG := lkT7 195 rfl rfl
set_option maxRecDepth 20000 in
theorem ul_12_8 : u_lay RX12 TX12 8 ∈ WSG := lkT7 197 rfl rfl
set_option maxRecDepth 20000 in
theorem ul_12_9 : u_lay RX12 TX12 9 ∈ WSG := lkT7 199 rfl rfl
set_option maxRecDepth 20000 in
theorem ul_12_10 : u_lay RX12 TX12 10 ∈ WSG := lkT7 201 rfl rfl
set_option maxRecDepth 20000 in
theorem ul_12_11 : u_lay RX12 TX12 11 ∈ WSG := lkT7 203 rfl rfl
set_option maxRecDepth 20000 in
theorem ul_12_12 : u_lay RX12 TX12 12 ∈ WSG := lkT7 205 rfl rfl
set_option maxRecDepth 20000 in
theorem ul_12_13 : u_lay RX12 TX12 13 ∈ WSG := lkT7 207 rfl rfl
set_option maxRecDepth 20000 in
theorem ul_12_14 : u_lay RX12 TX12 14 ∈ WSG := lkT7 209 rfl rfl
set_option maxRecDepth 20000 in
theorem ul_12_15 : u_lay RX12 TX12 15 ∈ WSG := lkT7 211 rfl rfl
set_option maxRecDepth 20000 in
theorem ul_12_16 : u_lay RX12 TX12 16 ∈ WSG := lkT7 213 rfl rfl
set_option maxRecDepth 20000 in
theorem ul_12_17 : u_lay RX12 TX12 17 ∈ WSG := lkT7 215 rfl rfl
set_option maxRecDepth 20000 in
theorem ul_12_18 : u_lay RX12 TX12 18 ∈ WSG := lkT7 217 rfl rfl
set_option maxRecDepth 20000 in
theorem ul_12_19 : u_lay RX12 TX12 19 ∈ WSG := lkT7 219 rfl rfl
set_option maxRecDepth 20000 in
theorem ul_12_20 : u_lay RX12 TX12 20 ∈ WSG := lkT7 221 rfl rfl
set_option maxRecDepth 20000 in
theorem ul_12_21 : u_lay RX12 TX12 21 ∈ WSG := lkT7 223 rfl rfl
set_option maxRecDepth 20000 in
theorem ul_12_22 : u_lay RX12 TX12 22 ∈ WSG := lkT7 225 rfl rfl
set_option maxRecDepth 20000 in
theorem ul_12_23 : u_lay RX12 TX12 23 ∈ WSG := lkT7 227 rfl rfl
set_option maxRecDepth 20000 in
theorem ul_12_24 : u_lay RX12 TX12 24 ∈ WSG := lkT7 229 rfl rfl
set_option maxRecDepth 20000 in
theorem ul_12_25 : u_lay RX12 TX12 25 ∈ WSG := lkT7 231 rfl rfl
set_option maxRecDepth 20000 in
theorem ul_12_26 : u_lay RX12 TX12 26 ∈ WSG := lkT7 233 rfl rfl
set_option maxRecDepth 20000 in
theorem ul_12_27 : u_lay RX12 TX12 27 ∈ WSG := lkT7 235 rfl rfl
set_option maxRecDepth 20000 in
theorem ul_12_28 : u_lay RX12 TX12 28 ∈ WSG := lkT7 237 rfl rfl
set_option maxRecDepth 20000 in
theorem ul_12_29 : u_lay RX12 TX12 29 ∈ WSG := lkT7 239 rfl rfl
set_option maxRecDepth 20000 in
theorem ul_12_30 : u_lay RX12 TX12 30 ∈ WSG := lkT8 1 rfl rfl
set_option maxRecDepth 20000 in
theorem ul_12_31 : u_lay RX12 TX12 31 ∈ WSG := lkT8 3 rfl rfl
set_option maxRecDepth 20000 in
theorem ul_12_32 : u_lay RX12 TX12 32 ∈ WSG := lkT8 5 rfl rfl
set_option maxRecDepth 20000 in
theorem ul_12_33 : u_lay RX12 TX12 33 ∈ WSG := lkT8 7 rfl rfl
set_option maxRecDepth 20000 in
theorem ul_12_34 : u_lay RX12 TX12 34 ∈ WSG := lkT8 9 rfl rfl
set_option maxRecDepth 20000 in
theorem ul_12_35 : u_lay RX12 TX12 35 ∈ WSG := lkT8 11 rfl rfl
set_option maxRecDepth 20000 in
theorem ul_12_36 : u_lay RX12 TX12 36 ∈ WSG := lkT8 13 rfl rfl
set_option maxRecDepth 20000 in
theorem ul_12_37 : u_lay RX12 TX12 37 ∈ WSG := lkT8 15 rfl rfl
set_option maxRecDepth 20000 in
theorem ul_12_38 : u_lay RX12 TX12 38 ∈ WSG := lkT8 17 rfl rfl
theorem iw_12 : ∀ w ∈ u_ws RX12 TX12 39, w ∈ WSG := by
  intro w hw
  obtain ⟨k, hk, rfl⟩ := List.mem_map.mp hw
  have hk := List.mem_range.mp hk
  match k, hk with
  | 0, _ => exact ul_12_0
  | 1, _ => exact ul_12_1
  | 2, _ => exact ul_12_2
  | 3, _ => exact ul_12_3
  | 4, _ => exact ul_12_4
  | 5, _ => exact ul_12_5
  | 6, _ => exact ul_12_6
  | 7, _ => exact ul_12_7
  | 8, _ => exact ul_12_8
  | 9, _ => exact ul_12_9
  | 10, _ => exact ul_12_10
  | 11, _ => exact ul_12_11
  | 12, _ => exact ul_12_12
  | 13, _ => exact ul_12_13
  | 14, _ => exact ul_12_14
  | 15, _ => exact ul_12_15
  | 16, _ => exact ul_12_16
  | 17, _ => exact ul_12_17
  | 18, _ => exact ul_12_18
  | 19, _ => exact ul_12_19
  | 20, _ => exact ul_12_20
  | 21, _ => exact ul_12_21
  | 22, _ => exact ul_12_22
  | 23, _ => exact ul_12_23
  | 24, _ => exact ul_12_24
  | 25, _ => exact ul_12_25
  | 26, _ => exact ul_12_26
  | 27, _ => exact ul_12_27
  | 28, _ => exact ul_12_28
  | 29, _ => exact ul_12_29
  | 30, _ => exact ul_12_30
  | 31, _ => exact ul_12_31
  | 32, _ => exact ul_12_32
  | 33, _ => exact ul_12_33
  | 34, _ => exact ul_12_34
  | 35, _ => exact ul_12_35
  | 36, _ => exact ul_12_36
  | 37, _ => exact ul_12_37
  | 38, _ => exact ul_12_38
  | k + 39, hk => exact absurd hk (by omega)

section
-- ===== PART A: goes FIRST, ahead of the names: the tables' words, and 'selects' of the private methods out of them =====
/-- a private method of a class that the tables say can be made, by its rows of tables_1 -/
def lw_okq (q : MethodName × Nat) : Prop := (q.1.cls ≠ "java/lang/invoke/MethodHandle" ∧ q.1.cls ≠ "java/lang/invoke/VarHandle") ∧ Cond.instantiable q.1.cls q.2 ∈ tables_1 ∧ Cond.privateMethod q.1 ∈ tables_1 ∧ Cond.instanceMethod q.1 ∈ tables_1
theorem lw_p0 : lw_okq (⟨"RainWishes", "lay", "(I)V"⟩, 16) := ⟨⟨by decide +kernel, by decide +kernel⟩, List.mem_of_getElem? (i := 31) (by decide +kernel), List.mem_of_getElem? (i := 499) (by decide +kernel), List.mem_of_getElem? (i := 500) (by decide +kernel)⟩
theorem lw_p1 : lw_okq (⟨"RainWishes$Field", "truthOf", "(II)I"⟩, 3) := ⟨⟨by decide +kernel, by decide +kernel⟩, List.mem_of_getElem? (i := 242) (by decide +kernel), List.mem_of_getElem? (i := 529) (by decide +kernel), List.mem_of_getElem? (i := 530) (by decide +kernel)⟩
theorem lw_p2 : lw_okq (⟨"RainWishes$Choices", "settle", "()V"⟩, 9) := ⟨⟨by decide +kernel, by decide +kernel⟩, List.mem_of_getElem? (i := 261) (by decide +kernel), List.mem_of_getElem? (i := 551) (by decide +kernel), List.mem_of_getElem? (i := 552) (by decide +kernel)⟩
theorem lw_p3 : lw_okq (⟨"RainWishes$Choices", "spread", "()V"⟩, 9) := ⟨⟨by decide +kernel, by decide +kernel⟩, List.mem_of_getElem? (i := 261) (by decide +kernel), List.mem_of_getElem? (i := 565) (by decide +kernel), List.mem_of_getElem? (i := 566) (by decide +kernel)⟩
theorem lw_p4 : lw_okq (⟨"RainWishes$Choices", "nightsFor", "(I)I"⟩, 9) := ⟨⟨by decide +kernel, by decide +kernel⟩, List.mem_of_getElem? (i := 261) (by decide +kernel), List.mem_of_getElem? (i := 577) (by decide +kernel), List.mem_of_getElem? (i := 578) (by decide +kernel)⟩
theorem lw_p5 : lw_okq (⟨"RainWishes$Choices", "areTogether", "(I)Z"⟩, 9) := ⟨⟨by decide +kernel, by decide +kernel⟩, List.mem_of_getElem? (i := 261) (by decide +kernel), List.mem_of_getElem? (i := 581) (by decide +kernel), List.mem_of_getElem? (i := 582) (by decide +kernel)⟩
theorem lw_p6 : lw_okq (⟨"RainWishes$Rules", "sayAsItIs", "()V"⟩, 8) := ⟨⟨by decide +kernel, by decide +kernel⟩, List.mem_of_getElem? (i := 299) (by decide +kernel), List.mem_of_getElem? (i := 593) (by decide +kernel), List.mem_of_getElem? (i := 594) (by decide +kernel)⟩
theorem lw_p7 : lw_okq (⟨"RainWishes$Rules", "serve", "(I)I"⟩, 8) := ⟨⟨by decide +kernel, by decide +kernel⟩, List.mem_of_getElem? (i := 299) (by decide +kernel), List.mem_of_getElem? (i := 600) (by decide +kernel), List.mem_of_getElem? (i := 601) (by decide +kernel)⟩
theorem lw_p8 : lw_okq (⟨"RainWishes$Rules", "firstOf", "(II)I"⟩, 8) := ⟨⟨by decide +kernel, by decide +kernel⟩, List.mem_of_getElem? (i := 299) (by decide +kernel), List.mem_of_getElem? (i := 604) (by decide +kernel), List.mem_of_getElem? (i := 605) (by decide +kernel)⟩
theorem lw_p9 : lw_okq (⟨"RainWishes$Rules", "turnOf", "(II)I"⟩, 8) := ⟨⟨by decide +kernel, by decide +kernel⟩, List.mem_of_getElem? (i := 299) (by decide +kernel), List.mem_of_getElem? (i := 608) (by decide +kernel), List.mem_of_getElem? (i := 609) (by decide +kernel)⟩
theorem lw_p10 : lw_okq (⟨"RainWishes$Rules", "openOf", "(I)I"⟩, 8) := ⟨⟨by decide +kernel, by decide +kernel⟩, List.mem_of_getElem? (i := 299) (by decide +kernel), List.mem_of_getElem? (i := 612) (by decide +kernel), List.mem_of_getElem? (i := 613) (by decide +kernel)⟩
theorem lw_p11 : lw_okq (⟨"RainWishes", "makeNight", "(I)I"⟩, 16) := ⟨⟨by decide +kernel, by decide +kernel⟩, List.mem_of_getElem? (i := 31) (by decide +kernel), List.mem_of_getElem? (i := 629) (by decide +kernel), List.mem_of_getElem? (i := 630) (by decide +kernel)⟩
theorem lw_p12 : lw_okq (⟨"java/lang/Throwable", "fillInStackTrace", "(I)Ljava/lang/Throwable;"⟩, 6) := ⟨⟨by decide +kernel, by decide +kernel⟩, List.mem_of_getElem? (i := 699) (by decide +kernel), List.mem_of_getElem? (i := 697) (by decide +kernel), List.mem_of_getElem? (i := 698) (by decide +kernel)⟩
theorem lw_p13 : lw_okq (⟨"RainWishes$Tokens", "runEnd", "(CC)I"⟩, 5) := ⟨⟨by decide +kernel, by decide +kernel⟩, List.mem_of_getElem? (i := 145) (by decide +kernel), List.mem_of_getElem? (i := 748) (by decide +kernel), List.mem_of_getElem? (i := 749) (by decide +kernel)⟩
theorem lw_p14 : lw_okq (⟨"RainWishes$Parser", "readSky", "()Z"⟩, 12) := ⟨⟨by decide +kernel, by decide +kernel⟩, List.mem_of_getElem? (i := 139) (by decide +kernel), List.mem_of_getElem? (i := 839) (by decide +kernel), List.mem_of_getElem? (i := 840) (by decide +kernel)⟩
theorem lw_p15 : lw_okq (⟨"RainWishes$Parser", "take", "(Ljava/lang/String;)Z"⟩, 12) := ⟨⟨by decide +kernel, by decide +kernel⟩, List.mem_of_getElem? (i := 139) (by decide +kernel), List.mem_of_getElem? (i := 844) (by decide +kernel), List.mem_of_getElem? (i := 845) (by decide +kernel)⟩
def lw_privs_1 : List (MethodName × Nat) := [(⟨"RainWishes", "lay", "(I)V"⟩, 16), (⟨"RainWishes$Field", "truthOf", "(II)I"⟩, 3), (⟨"RainWishes$Choices", "settle", "()V"⟩, 9), (⟨"RainWishes$Choices", "spread", "()V"⟩, 9), (⟨"RainWishes$Choices", "nightsFor", "(I)I"⟩, 9), (⟨"RainWishes$Choices", "areTogether", "(I)Z"⟩, 9), (⟨"RainWishes$Rules", "sayAsItIs", "()V"⟩, 8), (⟨"RainWishes$Rules", "serve", "(I)I"⟩, 8), (⟨"RainWishes$Rules", "firstOf", "(II)I"⟩, 8), (⟨"RainWishes$Rules", "turnOf", "(II)I"⟩, 8), (⟨"RainWishes$Rules", "openOf", "(I)I"⟩, 8), (⟨"RainWishes", "makeNight", "(I)I"⟩, 16), (⟨"java/lang/Throwable", "fillInStackTrace", "(I)Ljava/lang/Throwable;"⟩, 6), (⟨"RainWishes$Tokens", "runEnd", "(CC)I"⟩, 5), (⟨"RainWishes$Parser", "readSky", "()Z"⟩, 12), (⟨"RainWishes$Parser", "take", "(Ljava/lang/String;)Z"⟩, 12)]
theorem lw_r1 : ∀ q ∈ lw_privs_1, lw_okq q := List.forall_mem_cons.mpr ⟨lw_p0, List.forall_mem_cons.mpr ⟨lw_p1, List.forall_mem_cons.mpr ⟨lw_p2, List.forall_mem_cons.mpr ⟨lw_p3, List.forall_mem_cons.mpr ⟨lw_p4, List.forall_mem_cons.mpr ⟨lw_p5, List.forall_mem_cons.mpr ⟨lw_p6, List.forall_mem_cons.mpr ⟨lw_p7, List.forall_mem_cons.mpr ⟨lw_p8, List.forall_mem_cons.mpr ⟨lw_p9, List.forall_mem_cons.mpr ⟨lw_p10, List.forall_mem_cons.mpr ⟨lw_p11, List.forall_mem_cons.mpr ⟨lw_p12, List.forall_mem_cons.mpr ⟨lw_p13, List.forall_mem_cons.mpr ⟨lw_p14, List.forall_mem_cons.mpr ⟨lw_p15, fun _ h => absurd h List.not_mem_nil⟩⟩⟩⟩⟩⟩⟩⟩⟩⟩⟩⟩⟩⟩⟩⟩
theorem lw_p16 : lw_okq (⟨"RainWishes$Parser", "refuse", "(I)Z"⟩, 12) := ⟨⟨by decide +kernel, by decide +kernel⟩, List.mem_of_getElem? (i := 139) (by decide +kernel), List.mem_of_getElem? (i := 873) (by decide +kernel), List.mem_of_getElem? (i := 874) (by decide +kernel)⟩
theorem lw_p17 : lw_okq (⟨"RainWishes$Parser", "takeNumber", "(II)Z"⟩, 12) := ⟨⟨by decide +kernel, by decide +kernel⟩, List.mem_of_getElem? (i := 139) (by decide +kernel), List.mem_of_getElem? (i := 878) (by decide +kernel), List.mem_of_getElem? (i := 879) (by decide +kernel)⟩
theorem lw_p18 : lw_okq (⟨"RainWishes$Parser", "endLine", "()Z"⟩, 12) := ⟨⟨by decide +kernel, by decide +kernel⟩, List.mem_of_getElem? (i := 139) (by decide +kernel), List.mem_of_getElem? (i := 888) (by decide +kernel), List.mem_of_getElem? (i := 889) (by decide +kernel)⟩
theorem lw_p19 : lw_okq (⟨"RainWishes$Parser", "readLine", "()Z"⟩, 12) := ⟨⟨by decide +kernel, by decide +kernel⟩, List.mem_of_getElem? (i := 139) (by decide +kernel), List.mem_of_getElem? (i := 893) (by decide +kernel), List.mem_of_getElem? (i := 894) (by decide +kernel)⟩
theorem lw_p20 : lw_okq (⟨"RainWishes$Parser", "readWish", "()Z"⟩, 12) := ⟨⟨by decide +kernel, by decide +kernel⟩, List.mem_of_getElem? (i := 139) (by decide +kernel), List.mem_of_getElem? (i := 898) (by decide +kernel), List.mem_of_getElem? (i := 899) (by decide +kernel)⟩
theorem lw_p21 : lw_okq (⟨"RainWishes$Parser", "readOperand", "()Z"⟩, 12) := ⟨⟨by decide +kernel, by decide +kernel⟩, List.mem_of_getElem? (i := 139) (by decide +kernel), List.mem_of_getElem? (i := 908) (by decide +kernel), List.mem_of_getElem? (i := 909) (by decide +kernel)⟩
theorem lw_p22 : lw_okq (⟨"RainWishes$Parser", "open", "(II)Z"⟩, 12) := ⟨⟨by decide +kernel, by decide +kernel⟩, List.mem_of_getElem? (i := 139) (by decide +kernel), List.mem_of_getElem? (i := 913) (by decide +kernel), List.mem_of_getElem? (i := 914) (by decide +kernel)⟩
theorem lw_p23 : lw_okq (⟨"RainWishes$Parser", "await", "(II)Z"⟩, 12) := ⟨⟨by decide +kernel, by decide +kernel⟩, List.mem_of_getElem? (i := 139) (by decide +kernel), List.mem_of_getElem? (i := 917) (by decide +kernel), List.mem_of_getElem? (i := 918) (by decide +kernel)⟩
theorem lw_p24 : lw_okq (⟨"RainWishes$Parser", "readAtom", "()Z"⟩, 12) := ⟨⟨by decide +kernel, by decide +kernel⟩, List.mem_of_getElem? (i := 139) (by decide +kernel), List.mem_of_getElem? (i := 923) (by decide +kernel), List.mem_of_getElem? (i := 924) (by decide +kernel)⟩
theorem lw_p25 : lw_okq (⟨"RainWishes$Parser", "readOperator", "()Z"⟩, 12) := ⟨⟨by decide +kernel, by decide +kernel⟩, List.mem_of_getElem? (i := 139) (by decide +kernel), List.mem_of_getElem? (i := 943) (by decide +kernel), List.mem_of_getElem? (i := 944) (by decide +kernel)⟩
theorem lw_p26 : lw_okq (⟨"RainWishes$Parser", "arithmeticSign", "()I"⟩, 12) := ⟨⟨by decide +kernel, by decide +kernel⟩, List.mem_of_getElem? (i := 139) (by decide +kernel), List.mem_of_getElem? (i := 947) (by decide +kernel), List.mem_of_getElem? (i := 948) (by decide +kernel)⟩
theorem lw_p27 : lw_okq (⟨"RainWishes$Parser", "join", "(II)Z"⟩, 12) := ⟨⟨by decide +kernel, by decide +kernel⟩, List.mem_of_getElem? (i := 139) (by decide +kernel), List.mem_of_getElem? (i := 954) (by decide +kernel), List.mem_of_getElem? (i := 955) (by decide +kernel)⟩
theorem lw_p28 : lw_okq (⟨"RainWishes$Parser", "settleDownTo", "(I)V"⟩, 12) := ⟨⟨by decide +kernel, by decide +kernel⟩, List.mem_of_getElem? (i := 139) (by decide +kernel), List.mem_of_getElem? (i := 960) (by decide +kernel), List.mem_of_getElem? (i := 961) (by decide +kernel)⟩
theorem lw_p29 : lw_okq (⟨"RainWishes$Parser", "close", "(I)Z"⟩, 12) := ⟨⟨by decide +kernel, by decide +kernel⟩, List.mem_of_getElem? (i := 139) (by decide +kernel), List.mem_of_getElem? (i := 965) (by decide +kernel), List.mem_of_getElem? (i := 966) (by decide +kernel)⟩
theorem lw_p30 : lw_okq (⟨"RainWishes$Parser", "comparingSign", "()I"⟩, 12) := ⟨⟨by decide +kernel, by decide +kernel⟩, List.mem_of_getElem? (i := 139) (by decide +kernel), List.mem_of_getElem? (i := 969) (by decide +kernel), List.mem_of_getElem? (i := 970) (by decide +kernel)⟩
theorem lw_p31 : lw_okq (⟨"RainWishes$Parser", "endWish", "()V"⟩, 12) := ⟨⟨by decide +kernel, by decide +kernel⟩, List.mem_of_getElem? (i := 139) (by decide +kernel), List.mem_of_getElem? (i := 979) (by decide +kernel), List.mem_of_getElem? (i := 980) (by decide +kernel)⟩
def lw_privs_2 : List (MethodName × Nat) := [(⟨"RainWishes$Parser", "refuse", "(I)Z"⟩, 12), (⟨"RainWishes$Parser", "takeNumber", "(II)Z"⟩, 12), (⟨"RainWishes$Parser", "endLine", "()Z"⟩, 12), (⟨"RainWishes$Parser", "readLine", "()Z"⟩, 12), (⟨"RainWishes$Parser", "readWish", "()Z"⟩, 12), (⟨"RainWishes$Parser", "readOperand", "()Z"⟩, 12), (⟨"RainWishes$Parser", "open", "(II)Z"⟩, 12), (⟨"RainWishes$Parser", "await", "(II)Z"⟩, 12), (⟨"RainWishes$Parser", "readAtom", "()Z"⟩, 12), (⟨"RainWishes$Parser", "readOperator", "()Z"⟩, 12), (⟨"RainWishes$Parser", "arithmeticSign", "()I"⟩, 12), (⟨"RainWishes$Parser", "join", "(II)Z"⟩, 12), (⟨"RainWishes$Parser", "settleDownTo", "(I)V"⟩, 12), (⟨"RainWishes$Parser", "close", "(I)Z"⟩, 12), (⟨"RainWishes$Parser", "comparingSign", "()I"⟩, 12), (⟨"RainWishes$Parser", "endWish", "()V"⟩, 12)]
theorem lw_r2 : ∀ q ∈ lw_privs_2, lw_okq q := List.forall_mem_cons.mpr ⟨lw_p16, List.forall_mem_cons.mpr ⟨lw_p17, List.forall_mem_cons.mpr ⟨lw_p18, List.forall_mem_cons.mpr ⟨lw_p19, List.forall_mem_cons.mpr ⟨lw_p20, List.forall_mem_cons.mpr ⟨lw_p21, List.forall_mem_cons.mpr ⟨lw_p22, List.forall_mem_cons.mpr ⟨lw_p23, List.forall_mem_cons.mpr ⟨lw_p24, List.forall_mem_cons.mpr ⟨lw_p25, List.forall_mem_cons.mpr ⟨lw_p26, List.forall_mem_cons.mpr ⟨lw_p27, List.forall_mem_cons.mpr ⟨lw_p28, List.forall_mem_cons.mpr ⟨lw_p29, List.forall_mem_cons.mpr ⟨lw_p30, List.forall_mem_cons.mpr ⟨lw_p31, fun _ h => absurd h List.not_mem_nil⟩⟩⟩⟩⟩⟩⟩⟩⟩⟩⟩⟩⟩⟩⟩⟩
theorem lw_p32 : lw_okq (⟨"RainWishes", "forgetWhatWasFound", "()V"⟩, 16) := ⟨⟨by decide +kernel, by decide +kernel⟩, List.mem_of_getElem? (i := 31) (by decide +kernel), List.mem_of_getElem? (i := 993) (by decide +kernel), List.mem_of_getElem? (i := 994) (by decide +kernel)⟩
theorem lw_p33 : lw_okq (⟨"RainWishes", "checkWish", "(I)V"⟩, 16) := ⟨⟨by decide +kernel, by decide +kernel⟩, List.mem_of_getElem? (i := 31) (by decide +kernel), List.mem_of_getElem? (i := 1013) (by decide +kernel), List.mem_of_getElem? (i := 1014) (by decide +kernel)⟩
theorem lw_p34 : lw_okq (⟨"RainWishes", "checkCells", "(I)V"⟩, 16) := ⟨⟨by decide +kernel, by decide +kernel⟩, List.mem_of_getElem? (i := 31) (by decide +kernel), List.mem_of_getElem? (i := 1045) (by decide +kernel), List.mem_of_getElem? (i := 1046) (by decide +kernel)⟩
theorem lw_p35 : lw_okq (⟨"RainWishes", "checkSet", "(I)V"⟩, 16) := ⟨⟨by decide +kernel, by decide +kernel⟩, List.mem_of_getElem? (i := 31) (by decide +kernel), List.mem_of_getElem? (i := 1073) (by decide +kernel), List.mem_of_getElem? (i := 1074) (by decide +kernel)⟩
theorem lw_p36 : lw_okq (⟨"RainWishes", "checkOpen", "(I)V"⟩, 16) := ⟨⟨by decide +kernel, by decide +kernel⟩, List.mem_of_getElem? (i := 31) (by decide +kernel), List.mem_of_getElem? (i := 1097) (by decide +kernel), List.mem_of_getElem? (i := 1098) (by decide +kernel)⟩
theorem lw_p37 : lw_okq (⟨"RainWishes", "checkWhat", "(II)V"⟩, 16) := ⟨⟨by decide +kernel, by decide +kernel⟩, List.mem_of_getElem? (i := 31) (by decide +kernel), List.mem_of_getElem? (i := 1113) (by decide +kernel), List.mem_of_getElem? (i := 1114) (by decide +kernel)⟩
theorem lw_p38 : lw_okq (⟨"RainWishes", "checkHundredths", "(I)V"⟩, 16) := ⟨⟨by decide +kernel, by decide +kernel⟩, List.mem_of_getElem? (i := 31) (by decide +kernel), List.mem_of_getElem? (i := 1165) (by decide +kernel), List.mem_of_getElem? (i := 1166) (by decide +kernel)⟩
theorem lw_p39 : lw_okq (⟨"RainWishes", "checkRule", "(I)V"⟩, 16) := ⟨⟨by decide +kernel, by decide +kernel⟩, List.mem_of_getElem? (i := 31) (by decide +kernel), List.mem_of_getElem? (i := 1197) (by decide +kernel), List.mem_of_getElem? (i := 1198) (by decide +kernel)⟩
theorem lw_p40 : lw_okq (⟨"RainWishes", "checkPerson", "(I)V"⟩, 16) := ⟨⟨by decide +kernel, by decide +kernel⟩, List.mem_of_getElem? (i := 31) (by decide +kernel), List.mem_of_getElem? (i := 1209) (by decide +kernel), List.mem_of_getElem? (i := 1210) (by decide +kernel)⟩
theorem lw_p41 : lw_okq (⟨"RainWishes$Rules", "sayOtherwise", "(II)Z"⟩, 8) := ⟨⟨by decide +kernel, by decide +kernel⟩, List.mem_of_getElem? (i := 299) (by decide +kernel), List.mem_of_getElem? (i := 1231) (by decide +kernel), List.mem_of_getElem? (i := 1232) (by decide +kernel)⟩
theorem lw_p42 : lw_okq (⟨"RainWishes", "trayThere", "(I)LRainWishes$Tray;"⟩, 16) := ⟨⟨by decide +kernel, by decide +kernel⟩, List.mem_of_getElem? (i := 31) (by decide +kernel), List.mem_of_getElem? (i := 1243) (by decide +kernel), List.mem_of_getElem? (i := 1244) (by decide +kernel)⟩
theorem lw_p43 : lw_okq (⟨"RainWishes$Meant", "search", "(IIII)V"⟩, 7) := ⟨⟨by decide +kernel, by decide +kernel⟩, List.mem_of_getElem? (i := 332) (by decide +kernel), List.mem_of_getElem? (i := 1274) (by decide +kernel), List.mem_of_getElem? (i := 1275) (by decide +kernel)⟩
theorem lw_p44 : lw_okq (⟨"RainWishes$Meant", "fits", "(II)Z"⟩, 7) := ⟨⟨by decide +kernel, by decide +kernel⟩, List.mem_of_getElem? (i := 332) (by decide +kernel), List.mem_of_getElem? (i := 1278) (by decide +kernel), List.mem_of_getElem? (i := 1279) (by decide +kernel)⟩
theorem lw_p45 : lw_okq (⟨"RainWishes$Meant", "keep", "(II)V"⟩, 7) := ⟨⟨by decide +kernel, by decide +kernel⟩, List.mem_of_getElem? (i := 332) (by decide +kernel), List.mem_of_getElem? (i := 1282) (by decide +kernel), List.mem_of_getElem? (i := 1283) (by decide +kernel)⟩
theorem lw_p46 : lw_okq (⟨"RainWishes$Brackets", "takePart", "(II)V"⟩, 9) := ⟨⟨by decide +kernel, by decide +kernel⟩, List.mem_of_getElem? (i := 362) (by decide +kernel), List.mem_of_getElem? (i := 1301) (by decide +kernel), List.mem_of_getElem? (i := 1302) (by decide +kernel)⟩
theorem lw_p47 : lw_okq (⟨"RainWishes$Brackets", "placeOfCell", "(I)I"⟩, 9) := ⟨⟨by decide +kernel, by decide +kernel⟩, List.mem_of_getElem? (i := 362) (by decide +kernel), List.mem_of_getElem? (i := 1305) (by decide +kernel), List.mem_of_getElem? (i := 1306) (by decide +kernel)⟩
def lw_privs_3 : List (MethodName × Nat) := [(⟨"RainWishes", "forgetWhatWasFound", "()V"⟩, 16), (⟨"RainWishes", "checkWish", "(I)V"⟩, 16), (⟨"RainWishes", "checkCells", "(I)V"⟩, 16), (⟨"RainWishes", "checkSet", "(I)V"⟩, 16), (⟨"RainWishes", "checkOpen", "(I)V"⟩, 16), (⟨"RainWishes", "checkWhat", "(II)V"⟩, 16), (⟨"RainWishes", "checkHundredths", "(I)V"⟩, 16), (⟨"RainWishes", "checkRule", "(I)V"⟩, 16), (⟨"RainWishes", "checkPerson", "(I)V"⟩, 16), (⟨"RainWishes$Rules", "sayOtherwise", "(II)Z"⟩, 8), (⟨"RainWishes", "trayThere", "(I)LRainWishes$Tray;"⟩, 16), (⟨"RainWishes$Meant", "search", "(IIII)V"⟩, 7), (⟨"RainWishes$Meant", "fits", "(II)Z"⟩, 7), (⟨"RainWishes$Meant", "keep", "(II)V"⟩, 7), (⟨"RainWishes$Brackets", "takePart", "(II)V"⟩, 9), (⟨"RainWishes$Brackets", "placeOfCell", "(I)I"⟩, 9)]
theorem lw_r3 : ∀ q ∈ lw_privs_3, lw_okq q := List.forall_mem_cons.mpr ⟨lw_p32, List.forall_mem_cons.mpr ⟨lw_p33, List.forall_mem_cons.mpr ⟨lw_p34, List.forall_mem_cons.mpr ⟨lw_p35, List.forall_mem_cons.mpr ⟨lw_p36, List.forall_mem_cons.mpr ⟨lw_p37, List.forall_mem_cons.mpr ⟨lw_p38, List.forall_mem_cons.mpr ⟨lw_p39, List.forall_mem_cons.mpr ⟨lw_p40, List.forall_mem_cons.mpr ⟨lw_p41, List.forall_mem_cons.mpr ⟨lw_p42, List.forall_mem_cons.mpr ⟨lw_p43, List.forall_mem_cons.mpr ⟨lw_p44, List.forall_mem_cons.mpr ⟨lw_p45, List.forall_mem_cons.mpr ⟨lw_p46, List.forall_mem_cons.mpr ⟨lw_p47, fun _ h => absurd h List.not_mem_nil⟩⟩⟩⟩⟩⟩⟩⟩⟩⟩⟩⟩⟩⟩⟩⟩
theorem lw_p48 : lw_okq (⟨"RainWishes$Brackets", "joinAt", "(III)V"⟩, 9) := ⟨⟨by decide +kernel, by decide +kernel⟩, List.mem_of_getElem? (i := 362) (by decide +kernel), List.mem_of_getElem? (i := 1314) (by decide +kernel), List.mem_of_getElem? (i := 1315) (by decide +kernel)⟩
theorem lw_p49 : lw_okq (⟨"RainWishes$Brackets", "isNew", "(I)Z"⟩, 9) := ⟨⟨by decide +kernel, by decide +kernel⟩, List.mem_of_getElem? (i := 362) (by decide +kernel), List.mem_of_getElem? (i := 1327) (by decide +kernel), List.mem_of_getElem? (i := 1328) (by decide +kernel)⟩
theorem lw_p50 : lw_okq (⟨"RainWishes$Brackets", "sortPlans", "()V"⟩, 9) := ⟨⟨by decide +kernel, by decide +kernel⟩, List.mem_of_getElem? (i := 362) (by decide +kernel), List.mem_of_getElem? (i := 1335) (by decide +kernel), List.mem_of_getElem? (i := 1336) (by decide +kernel)⟩
theorem lw_p51 : lw_okq (⟨"RainWishes$Brackets", "plansOf", "(I)I"⟩, 9) := ⟨⟨by decide +kernel, by decide +kernel⟩, List.mem_of_getElem? (i := 362) (by decide +kernel), List.mem_of_getElem? (i := 1341) (by decide +kernel), List.mem_of_getElem? (i := 1342) (by decide +kernel)⟩
theorem lw_p52 : lw_okq (⟨"RainWishes", "takeReserve", "(III)V"⟩, 16) := ⟨⟨by decide +kernel, by decide +kernel⟩, List.mem_of_getElem? (i := 31) (by decide +kernel), List.mem_of_getElem? (i := 1422) (by decide +kernel), List.mem_of_getElem? (i := 1423) (by decide +kernel)⟩
theorem lw_p53 : lw_okq (⟨"RainWishes$Holding", "byGranting", "(III)J"⟩, 4) := ⟨⟨by decide +kernel, by decide +kernel⟩, List.mem_of_getElem? (i := 397) (by decide +kernel), List.mem_of_getElem? (i := 1437) (by decide +kernel), List.mem_of_getElem? (i := 1438) (by decide +kernel)⟩
theorem lw_p54 : lw_okq (⟨"RainWishes", "checkImage", "(I)V"⟩, 16) := ⟨⟨by decide +kernel, by decide +kernel⟩, List.mem_of_getElem? (i := 31) (by decide +kernel), List.mem_of_getElem? (i := 1517) (by decide +kernel), List.mem_of_getElem? (i := 1518) (by decide +kernel)⟩
theorem lw_p55 : lw_okq (⟨"RainWishesModel", "laysTruths", "()V"⟩, 39) := ⟨⟨by decide +kernel, by decide +kernel⟩, List.mem_of_getElem? (i := 1534) (by decide +kernel), List.mem_of_getElem? (i := 1541) (by decide +kernel), List.mem_of_getElem? (i := 1542) (by decide +kernel)⟩
theorem lw_p56 : lw_okq (⟨"RainWishesModel", "everywhere", "()I"⟩, 39) := ⟨⟨by decide +kernel, by decide +kernel⟩, List.mem_of_getElem? (i := 1534) (by decide +kernel), List.mem_of_getElem? (i := 1545) (by decide +kernel), List.mem_of_getElem? (i := 1546) (by decide +kernel)⟩
theorem lw_p57 : lw_okq (⟨"RainWishesModel", "cells", "()I"⟩, 39) := ⟨⟨by decide +kernel, by decide +kernel⟩, List.mem_of_getElem? (i := 1534) (by decide +kernel), List.mem_of_getElem? (i := 1549) (by decide +kernel), List.mem_of_getElem? (i := 1550) (by decide +kernel)⟩
theorem lw_p58 : lw_okq (⟨"RainWishesModel", "blown", "(I)I"⟩, 39) := ⟨⟨by decide +kernel, by decide +kernel⟩, List.mem_of_getElem? (i := 1534) (by decide +kernel), List.mem_of_getElem? (i := 1553) (by decide +kernel), List.mem_of_getElem? (i := 1554) (by decide +kernel)⟩
theorem lw_p59 : lw_okq (⟨"RainWishesModel", "worksOut", "(II)Z"⟩, 39) := ⟨⟨by decide +kernel, by decide +kernel⟩, List.mem_of_getElem? (i := 1534) (by decide +kernel), List.mem_of_getElem? (i := 1560) (by decide +kernel), List.mem_of_getElem? (i := 1561) (by decide +kernel)⟩
theorem lw_p60 : lw_okq (⟨"RainWishesModel", "plain", "(II)I"⟩, 39) := ⟨⟨by decide +kernel, by decide +kernel⟩, List.mem_of_getElem? (i := 1534) (by decide +kernel), List.mem_of_getElem? (i := 1564) (by decide +kernel), List.mem_of_getElem? (i := 1565) (by decide +kernel)⟩
theorem lw_p61 : lw_okq (⟨"RainWishesModel", "fails", "(I)I"⟩, 39) := ⟨⟨by decide +kernel, by decide +kernel⟩, List.mem_of_getElem? (i := 1534) (by decide +kernel), List.mem_of_getElem? (i := 1716) (by decide +kernel), List.mem_of_getElem? (i := 1717) (by decide +kernel)⟩
theorem lw_p62 : lw_okq (⟨"RainWishesModel", "readsOn", "()V"⟩, 39) := ⟨⟨by decide +kernel, by decide +kernel⟩, List.mem_of_getElem? (i := 1534) (by decide +kernel), List.mem_of_getElem? (i := 1720) (by decide +kernel), List.mem_of_getElem? (i := 1721) (by decide +kernel)⟩
theorem lw_p63 : lw_okq (⟨"RainWishesModel", "see", "(I)I"⟩, 39) := ⟨⟨by decide +kernel, by decide +kernel⟩, List.mem_of_getElem? (i := 1534) (by decide +kernel), List.mem_of_getElem? (i := 1727) (by decide +kernel), List.mem_of_getElem? (i := 1728) (by decide +kernel)⟩
def lw_privs_4 : List (MethodName × Nat) := [(⟨"RainWishes$Brackets", "joinAt", "(III)V"⟩, 9), (⟨"RainWishes$Brackets", "isNew", "(I)Z"⟩, 9), (⟨"RainWishes$Brackets", "sortPlans", "()V"⟩, 9), (⟨"RainWishes$Brackets", "plansOf", "(I)I"⟩, 9), (⟨"RainWishes", "takeReserve", "(III)V"⟩, 16), (⟨"RainWishes$Holding", "byGranting", "(III)J"⟩, 4), (⟨"RainWishes", "checkImage", "(I)V"⟩, 16), (⟨"RainWishesModel", "laysTruths", "()V"⟩, 39), (⟨"RainWishesModel", "everywhere", "()I"⟩, 39), (⟨"RainWishesModel", "cells", "()I"⟩, 39), (⟨"RainWishesModel", "blown", "(I)I"⟩, 39), (⟨"RainWishesModel", "worksOut", "(II)Z"⟩, 39), (⟨"RainWishesModel", "plain", "(II)I"⟩, 39), (⟨"RainWishesModel", "fails", "(I)I"⟩, 39), (⟨"RainWishesModel", "readsOn", "()V"⟩, 39), (⟨"RainWishesModel", "see", "(I)I"⟩, 39)]
theorem lw_r4 : ∀ q ∈ lw_privs_4, lw_okq q := List.forall_mem_cons.mpr ⟨lw_p48, List.forall_mem_cons.mpr ⟨lw_p49, List.forall_mem_cons.mpr ⟨lw_p50, List.forall_mem_cons.mpr ⟨lw_p51, List.forall_mem_cons.mpr ⟨lw_p52, List.forall_mem_cons.mpr ⟨lw_p53, List.forall_mem_cons.mpr ⟨lw_p54, List.forall_mem_cons.mpr ⟨lw_p55, List.forall_mem_cons.mpr ⟨lw_p56, List.forall_mem_cons.mpr ⟨lw_p57, List.forall_mem_cons.mpr ⟨lw_p58, List.forall_mem_cons.mpr ⟨lw_p59, List.forall_mem_cons.mpr ⟨lw_p60, List.forall_mem_cons.mpr ⟨lw_p61, List.forall_mem_cons.mpr ⟨lw_p62, List.forall_mem_cons.mpr ⟨lw_p63, fun _ h => absurd h List.not_mem_nil⟩⟩⟩⟩⟩⟩⟩⟩⟩⟩⟩⟩⟩⟩⟩⟩
theorem lw_p64 : lw_okq (⟨"RainWishesModel", "mustWord", "(Ljava/lang/String;)V"⟩, 39) := ⟨⟨by decide +kernel, by decide +kernel⟩, List.mem_of_getElem? (i := 1534) (by decide +kernel), List.mem_of_getElem? (i := 1738) (by decide +kernel), List.mem_of_getElem? (i := 1739) (by decide +kernel)⟩
theorem lw_p65 : lw_okq (⟨"RainWishesModel", "took", "(Ljava/lang/String;)Z"⟩, 39) := ⟨⟨by decide +kernel, by decide +kernel⟩, List.mem_of_getElem? (i := 1534) (by decide +kernel), List.mem_of_getElem? (i := 1742) (by decide +kernel), List.mem_of_getElem? (i := 1743) (by decide +kernel)⟩
theorem lw_p66 : lw_okq (⟨"RainWishesModel", "isWord", "(Ljava/lang/String;)Z"⟩, 39) := ⟨⟨by decide +kernel, by decide +kernel⟩, List.mem_of_getElem? (i := 1534) (by decide +kernel), List.mem_of_getElem? (i := 1746) (by decide +kernel), List.mem_of_getElem? (i := 1747) (by decide +kernel)⟩
theorem lw_p67 : lw_okq (⟨"RainWishesModel", "blames", "(I)V"⟩, 39) := ⟨⟨by decide +kernel, by decide +kernel⟩, List.mem_of_getElem? (i := 1534) (by decide +kernel), List.mem_of_getElem? (i := 1752) (by decide +kernel), List.mem_of_getElem? (i := 1753) (by decide +kernel)⟩
theorem lw_p68 : lw_okq (⟨"RainWishesModel", "number", "(II)I"⟩, 39) := ⟨⟨by decide +kernel, by decide +kernel⟩, List.mem_of_getElem? (i := 1534) (by decide +kernel), List.mem_of_getElem? (i := 1756) (by decide +kernel), List.mem_of_getElem? (i := 1757) (by decide +kernel)⟩
theorem lw_p69 : lw_okq (⟨"RainWishesModel", "readStop", "()V"⟩, 39) := ⟨⟨by decide +kernel, by decide +kernel⟩, List.mem_of_getElem? (i := 1534) (by decide +kernel), List.mem_of_getElem? (i := 1761) (by decide +kernel), List.mem_of_getElem? (i := 1762) (by decide +kernel)⟩
theorem lw_p70 : lw_okq (⟨"RainWishesModel", "mustSign", "(I)V"⟩, 39) := ⟨⟨by decide +kernel, by decide +kernel⟩, List.mem_of_getElem? (i := 1534) (by decide +kernel), List.mem_of_getElem? (i := 1765) (by decide +kernel), List.mem_of_getElem? (i := 1766) (by decide +kernel)⟩
theorem lw_p71 : lw_okq (⟨"RainWishesModel", "readLine", "()V"⟩, 39) := ⟨⟨by decide +kernel, by decide +kernel⟩, List.mem_of_getElem? (i := 1534) (by decide +kernel), List.mem_of_getElem? (i := 1769) (by decide +kernel), List.mem_of_getElem? (i := 1770) (by decide +kernel)⟩
theorem lw_p72 : lw_okq (⟨"RainWishesModel", "readWish", "()V"⟩, 39) := ⟨⟨by decide +kernel, by decide +kernel⟩, List.mem_of_getElem? (i := 1534) (by decide +kernel), List.mem_of_getElem? (i := 1776) (by decide +kernel), List.mem_of_getElem? (i := 1777) (by decide +kernel)⟩
theorem lw_p73 : lw_okq (⟨"RainWishesModel", "readTruth", "()V"⟩, 39) := ⟨⟨by decide +kernel, by decide +kernel⟩, List.mem_of_getElem? (i := 1534) (by decide +kernel), List.mem_of_getElem? (i := 1783) (by decide +kernel), List.mem_of_getElem? (i := 1784) (by decide +kernel)⟩
theorem lw_p74 : lw_okq (⟨"RainWishesModel", "readBoth", "()V"⟩, 39) := ⟨⟨by decide +kernel, by decide +kernel⟩, List.mem_of_getElem? (i := 1534) (by decide +kernel), List.mem_of_getElem? (i := 1787) (by decide +kernel), List.mem_of_getElem? (i := 1788) (by decide +kernel)⟩
theorem lw_p75 : lw_okq (⟨"RainWishesModel", "readUnit", "()V"⟩, 39) := ⟨⟨by decide +kernel, by decide +kernel⟩, List.mem_of_getElem? (i := 1534) (by decide +kernel), List.mem_of_getElem? (i := 1791) (by decide +kernel), List.mem_of_getElem? (i := 1792) (by decide +kernel)⟩
theorem lw_p76 : lw_okq (⟨"RainWishesModel", "goesIn", "()V"⟩, 39) := ⟨⟨by decide +kernel, by decide +kernel⟩, List.mem_of_getElem? (i := 1534) (by decide +kernel), List.mem_of_getElem? (i := 1796) (by decide +kernel), List.mem_of_getElem? (i := 1797) (by decide +kernel)⟩
theorem lw_p77 : lw_okq (⟨"RainWishesModel", "laysStep", "(I)V"⟩, 39) := ⟨⟨by decide +kernel, by decide +kernel⟩, List.mem_of_getElem? (i := 1534) (by decide +kernel), List.mem_of_getElem? (i := 1800) (by decide +kernel), List.mem_of_getElem? (i := 1801) (by decide +kernel)⟩
theorem lw_p78 : lw_okq (⟨"RainWishesModel", "isSign", "(I)Z"⟩, 39) := ⟨⟨by decide +kernel, by decide +kernel⟩, List.mem_of_getElem? (i := 1534) (by decide +kernel), List.mem_of_getElem? (i := 1804) (by decide +kernel), List.mem_of_getElem? (i := 1805) (by decide +kernel)⟩
theorem lw_p79 : lw_okq (⟨"RainWishesModel", "readSum", "()V"⟩, 39) := ⟨⟨by decide +kernel, by decide +kernel⟩, List.mem_of_getElem? (i := 1534) (by decide +kernel), List.mem_of_getElem? (i := 1808) (by decide +kernel), List.mem_of_getElem? (i := 1809) (by decide +kernel)⟩
def lw_privs_5 : List (MethodName × Nat) := [(⟨"RainWishesModel", "mustWord", "(Ljava/lang/String;)V"⟩, 39), (⟨"RainWishesModel", "took", "(Ljava/lang/String;)Z"⟩, 39), (⟨"RainWishesModel", "isWord", "(Ljava/lang/String;)Z"⟩, 39), (⟨"RainWishesModel", "blames", "(I)V"⟩, 39), (⟨"RainWishesModel", "number", "(II)I"⟩, 39), (⟨"RainWishesModel", "readStop", "()V"⟩, 39), (⟨"RainWishesModel", "mustSign", "(I)V"⟩, 39), (⟨"RainWishesModel", "readLine", "()V"⟩, 39), (⟨"RainWishesModel", "readWish", "()V"⟩, 39), (⟨"RainWishesModel", "readTruth", "()V"⟩, 39), (⟨"RainWishesModel", "readBoth", "()V"⟩, 39), (⟨"RainWishesModel", "readUnit", "()V"⟩, 39), (⟨"RainWishesModel", "goesIn", "()V"⟩, 39), (⟨"RainWishesModel", "laysStep", "(I)V"⟩, 39), (⟨"RainWishesModel", "isSign", "(I)Z"⟩, 39), (⟨"RainWishesModel", "readSum", "()V"⟩, 39)]
theorem lw_r5 : ∀ q ∈ lw_privs_5, lw_okq q := List.forall_mem_cons.mpr ⟨lw_p64, List.forall_mem_cons.mpr ⟨lw_p65, List.forall_mem_cons.mpr ⟨lw_p66, List.forall_mem_cons.mpr ⟨lw_p67, List.forall_mem_cons.mpr ⟨lw_p68, List.forall_mem_cons.mpr ⟨lw_p69, List.forall_mem_cons.mpr ⟨lw_p70, List.forall_mem_cons.mpr ⟨lw_p71, List.forall_mem_cons.mpr ⟨lw_p72, List.forall_mem_cons.mpr ⟨lw_p73, List.forall_mem_cons.mpr ⟨lw_p74, List.forall_mem_cons.mpr ⟨lw_p75, List.forall_mem_cons.mpr ⟨lw_p76, List.forall_mem_cons.mpr ⟨lw_p77, List.forall_mem_cons.mpr ⟨lw_p78, List.forall_mem_cons.mpr ⟨lw_p79, fun _ h => absurd h List.not_mem_nil⟩⟩⟩⟩⟩⟩⟩⟩⟩⟩⟩⟩⟩⟩⟩⟩
theorem lw_p80 : lw_okq (⟨"RainWishesModel", "readTerm", "()V"⟩, 39) := ⟨⟨by decide +kernel, by decide +kernel⟩, List.mem_of_getElem? (i := 1534) (by decide +kernel), List.mem_of_getElem? (i := 1812) (by decide +kernel), List.mem_of_getElem? (i := 1813) (by decide +kernel)⟩
theorem lw_p81 : lw_okq (⟨"RainWishesModel", "readAtom", "()V"⟩, 39) := ⟨⟨by decide +kernel, by decide +kernel⟩, List.mem_of_getElem? (i := 1534) (by decide +kernel), List.mem_of_getElem? (i := 1816) (by decide +kernel), List.mem_of_getElem? (i := 1817) (by decide +kernel)⟩
theorem lw_p82 : lw_okq (⟨"RainWishesModel", "isWish", "(I)Z"⟩, 39) := ⟨⟨by decide +kernel, by decide +kernel⟩, List.mem_of_getElem? (i := 1534) (by decide +kernel), List.mem_of_getElem? (i := 1834) (by decide +kernel), List.mem_of_getElem? (i := 1835) (by decide +kernel)⟩
theorem lw_p83 : lw_okq (⟨"RainWishesModel", "doesHold", "(II)Z"⟩, 39) := ⟨⟨by decide +kernel, by decide +kernel⟩, List.mem_of_getElem? (i := 1534) (by decide +kernel), List.mem_of_getElem? (i := 1839) (by decide +kernel), List.mem_of_getElem? (i := 1840) (by decide +kernel)⟩
theorem lw_p84 : lw_okq (⟨"RainWishesModel", "isOpen", "(I)Z"⟩, 39) := ⟨⟨by decide +kernel, by decide +kernel⟩, List.mem_of_getElem? (i := 1534) (by decide +kernel), List.mem_of_getElem? (i := 1843) (by decide +kernel), List.mem_of_getElem? (i := 1844) (by decide +kernel)⟩
theorem lw_p85 : lw_okq (⟨"RainWishesModel", "isSky", "(J)Z"⟩, 39) := ⟨⟨by decide +kernel, by decide +kernel⟩, List.mem_of_getElem? (i := 1534) (by decide +kernel), List.mem_of_getElem? (i := 1851) (by decide +kernel), List.mem_of_getElem? (i := 1852) (by decide +kernel)⟩
theorem lw_p86 : lw_okq (⟨"RainWishesModel", "whyNot", "(J)I"⟩, 39) := ⟨⟨by decide +kernel, by decide +kernel⟩, List.mem_of_getElem? (i := 1534) (by decide +kernel), List.mem_of_getElem? (i := 1863) (by decide +kernel), List.mem_of_getElem? (i := 1864) (by decide +kernel)⟩
theorem lw_p87 : lw_okq (⟨"RainWishesModel", "musts", "()I"⟩, 39) := ⟨⟨by decide +kernel, by decide +kernel⟩, List.mem_of_getElem? (i := 1534) (by decide +kernel), List.mem_of_getElem? (i := 1867) (by decide +kernel), List.mem_of_getElem? (i := 1868) (by decide +kernel)⟩
theorem lw_p88 : lw_okq (⟨"RainWishesModel", "grantedIn", "(I)I"⟩, 39) := ⟨⟨by decide +kernel, by decide +kernel⟩, List.mem_of_getElem? (i := 1534) (by decide +kernel), List.mem_of_getElem? (i := 1871) (by decide +kernel), List.mem_of_getElem? (i := 1872) (by decide +kernel)⟩
theorem lw_p89 : lw_okq (⟨"RainWishesModel", "isAsked", "(I)Z"⟩, 39) := ⟨⟨by decide +kernel, by decide +kernel⟩, List.mem_of_getElem? (i := 1534) (by decide +kernel), List.mem_of_getElem? (i := 1887) (by decide +kernel), List.mem_of_getElem? (i := 1888) (by decide +kernel)⟩
theorem lw_p90 : lw_okq (⟨"RainWishesModel", "laysPlans", "()V"⟩, 39) := ⟨⟨by decide +kernel, by decide +kernel⟩, List.mem_of_getElem? (i := 1534) (by decide +kernel), List.mem_of_getElem? (i := 1891) (by decide +kernel), List.mem_of_getElem? (i := 1892) (by decide +kernel)⟩
theorem lw_p91 : lw_okq (⟨"RainWishesModel", "planFor", "(I)I"⟩, 39) := ⟨⟨by decide +kernel, by decide +kernel⟩, List.mem_of_getElem? (i := 1534) (by decide +kernel), List.mem_of_getElem? (i := 1895) (by decide +kernel), List.mem_of_getElem? (i := 1896) (by decide +kernel)⟩
theorem lw_p92 : lw_okq (⟨"RainWishesModel", "openFault", "(I)I"⟩, 39) := ⟨⟨by decide +kernel, by decide +kernel⟩, List.mem_of_getElem? (i := 1534) (by decide +kernel), List.mem_of_getElem? (i := 1907) (by decide +kernel), List.mem_of_getElem? (i := 1908) (by decide +kernel)⟩
theorem lw_p93 : lw_okq (⟨"RainWishesModel", "weight", "(I)I"⟩, 39) := ⟨⟨by decide +kernel, by decide +kernel⟩, List.mem_of_getElem? (i := 1534) (by decide +kernel), List.mem_of_getElem? (i := 1916) (by decide +kernel), List.mem_of_getElem? (i := 1917) (by decide +kernel)⟩
theorem lw_p94 : lw_okq (⟨"RainWishesModel", "heartsOf", "(I)I"⟩, 39) := ⟨⟨by decide +kernel, by decide +kernel⟩, List.mem_of_getElem? (i := 1534) (by decide +kernel), List.mem_of_getElem? (i := 1928) (by decide +kernel), List.mem_of_getElem? (i := 1929) (by decide +kernel)⟩
theorem lw_p95 : lw_okq (⟨"RainWishesModel", "expects", "(II)J"⟩, 39) := ⟨⟨by decide +kernel, by decide +kernel⟩, List.mem_of_getElem? (i := 1534) (by decide +kernel), List.mem_of_getElem? (i := 1945) (by decide +kernel), List.mem_of_getElem? (i := 1946) (by decide +kernel)⟩
def lw_privs_6 : List (MethodName × Nat) := [(⟨"RainWishesModel", "readTerm", "()V"⟩, 39), (⟨"RainWishesModel", "readAtom", "()V"⟩, 39), (⟨"RainWishesModel", "isWish", "(I)Z"⟩, 39), (⟨"RainWishesModel", "doesHold", "(II)Z"⟩, 39), (⟨"RainWishesModel", "isOpen", "(I)Z"⟩, 39), (⟨"RainWishesModel", "isSky", "(J)Z"⟩, 39), (⟨"RainWishesModel", "whyNot", "(J)I"⟩, 39), (⟨"RainWishesModel", "musts", "()I"⟩, 39), (⟨"RainWishesModel", "grantedIn", "(I)I"⟩, 39), (⟨"RainWishesModel", "isAsked", "(I)Z"⟩, 39), (⟨"RainWishesModel", "laysPlans", "()V"⟩, 39), (⟨"RainWishesModel", "planFor", "(I)I"⟩, 39), (⟨"RainWishesModel", "openFault", "(I)I"⟩, 39), (⟨"RainWishesModel", "weight", "(I)I"⟩, 39), (⟨"RainWishesModel", "heartsOf", "(I)I"⟩, 39), (⟨"RainWishesModel", "expects", "(II)J"⟩, 39)]
theorem lw_r6 : ∀ q ∈ lw_privs_6, lw_okq q := List.forall_mem_cons.mpr ⟨lw_p80, List.forall_mem_cons.mpr ⟨lw_p81, List.forall_mem_cons.mpr ⟨lw_p82, List.forall_mem_cons.mpr ⟨lw_p83, List.forall_mem_cons.mpr ⟨lw_p84, List.forall_mem_cons.mpr ⟨lw_p85, List.forall_mem_cons.mpr ⟨lw_p86, List.forall_mem_cons.mpr ⟨lw_p87, List.forall_mem_cons.mpr ⟨lw_p88, List.forall_mem_cons.mpr ⟨lw_p89, List.forall_mem_cons.mpr ⟨lw_p90, List.forall_mem_cons.mpr ⟨lw_p91, List.forall_mem_cons.mpr ⟨lw_p92, List.forall_mem_cons.mpr ⟨lw_p93, List.forall_mem_cons.mpr ⟨lw_p94, List.forall_mem_cons.mpr ⟨lw_p95, fun _ h => absurd h List.not_mem_nil⟩⟩⟩⟩⟩⟩⟩⟩⟩⟩⟩⟩⟩⟩⟩⟩
theorem lw_p96 : lw_okq (⟨"RainWishesModel", "asksAsItIs", "()V"⟩, 39) := ⟨⟨by decide +kernel, by decide +kernel⟩, List.mem_of_getElem? (i := 1534) (by decide +kernel), List.mem_of_getElem? (i := 1964) (by decide +kernel), List.mem_of_getElem? (i := 1965) (by decide +kernel)⟩
theorem lw_p97 : lw_okq (⟨"RainWishesModel", "serves", "(II)I"⟩, 39) := ⟨⟨by decide +kernel, by decide +kernel⟩, List.mem_of_getElem? (i := 1534) (by decide +kernel), List.mem_of_getElem? (i := 1968) (by decide +kernel), List.mem_of_getElem? (i := 1969) (by decide +kernel)⟩
theorem lw_p98 : lw_okq (⟨"RainWishesModel", "key", "(III)I"⟩, 39) := ⟨⟨by decide +kernel, by decide +kernel⟩, List.mem_of_getElem? (i := 1534) (by decide +kernel), List.mem_of_getElem? (i := 1972) (by decide +kernel), List.mem_of_getElem? (i := 1973) (by decide +kernel)⟩
theorem lw_p99 : lw_okq (⟨"RainWishesModel", "manyOf", "(II)I"⟩, 39) := ⟨⟨by decide +kernel, by decide +kernel⟩, List.mem_of_getElem? (i := 1534) (by decide +kernel), List.mem_of_getElem? (i := 1976) (by decide +kernel), List.mem_of_getElem? (i := 1977) (by decide +kernel)⟩
theorem lw_p100 : lw_okq (⟨"RainWishesModel", "shareOf", "(II)I"⟩, 39) := ⟨⟨by decide +kernel, by decide +kernel⟩, List.mem_of_getElem? (i := 1534) (by decide +kernel), List.mem_of_getElem? (i := 1987) (by decide +kernel), List.mem_of_getElem? (i := 1988) (by decide +kernel)⟩
theorem lw_p101 : lw_okq (⟨"RainWishesModel", "shareBy", "(III)I"⟩, 39) := ⟨⟨by decide +kernel, by decide +kernel⟩, List.mem_of_getElem? (i := 1534) (by decide +kernel), List.mem_of_getElem? (i := 1995) (by decide +kernel), List.mem_of_getElem? (i := 1996) (by decide +kernel)⟩
theorem lw_p102 : lw_okq (⟨"RainWishesModel", "wantsFault", "(II)I"⟩, 39) := ⟨⟨by decide +kernel, by decide +kernel⟩, List.mem_of_getElem? (i := 1534) (by decide +kernel), List.mem_of_getElem? (i := 2007) (by decide +kernel), List.mem_of_getElem? (i := 2008) (by decide +kernel)⟩
theorem lw_p103 : lw_okq (⟨"RainWishesModel", "trayFault", "(I)I"⟩, 39) := ⟨⟨by decide +kernel, by decide +kernel⟩, List.mem_of_getElem? (i := 1534) (by decide +kernel), List.mem_of_getElem? (i := 2011) (by decide +kernel), List.mem_of_getElem? (i := 2012) (by decide +kernel)⟩
theorem lw_p104 : lw_okq (⟨"RainWishesModel", "goesWants", "(IIII)V"⟩, 39) := ⟨⟨by decide +kernel, by decide +kernel⟩, List.mem_of_getElem? (i := 1534) (by decide +kernel), List.mem_of_getElem? (i := 2020) (by decide +kernel), List.mem_of_getElem? (i := 2021) (by decide +kernel)⟩
theorem lw_p105 : lw_okq (⟨"RainWishesModel", "doPart", "(II)Z"⟩, 39) := ⟨⟨by decide +kernel, by decide +kernel⟩, List.mem_of_getElem? (i := 1534) (by decide +kernel), List.mem_of_getElem? (i := 2024) (by decide +kernel), List.mem_of_getElem? (i := 2025) (by decide +kernel)⟩
theorem lw_p106 : lw_okq (⟨"RainWishesModel", "sayFault", "(II)I"⟩, 39) := ⟨⟨by decide +kernel, by decide +kernel⟩, List.mem_of_getElem? (i := 1534) (by decide +kernel), List.mem_of_getElem? (i := 2035) (by decide +kernel), List.mem_of_getElem? (i := 2036) (by decide +kernel)⟩
theorem lw_p107 : lw_okq (⟨"RainWishesModel", "reads", "(III)V"⟩, 39) := ⟨⟨by decide +kernel, by decide +kernel⟩, List.mem_of_getElem? (i := 1534) (by decide +kernel), List.mem_of_getElem? (i := 2039) (by decide +kernel), List.mem_of_getElem? (i := 2040) (by decide +kernel)⟩
theorem lw_p108 : lw_okq (⟨"RainWishesModel", "laysReading", "(I)V"⟩, 39) := ⟨⟨by decide +kernel, by decide +kernel⟩, List.mem_of_getElem? (i := 1534) (by decide +kernel), List.mem_of_getElem? (i := 2043) (by decide +kernel), List.mem_of_getElem? (i := 2044) (by decide +kernel)⟩
theorem lw_p109 : lw_okq (⟨"RainWishesModel", "laysPair", "(IIZ)V"⟩, 39) := ⟨⟨by decide +kernel, by decide +kernel⟩, List.mem_of_getElem? (i := 1534) (by decide +kernel), List.mem_of_getElem? (i := 2047) (by decide +kernel), List.mem_of_getElem? (i := 2048) (by decide +kernel)⟩
theorem lw_p110 : lw_okq (⟨"RainWishesModel", "unlike", "(II)I"⟩, 39) := ⟨⟨by decide +kernel, by decide +kernel⟩, List.mem_of_getElem? (i := 1534) (by decide +kernel), List.mem_of_getElem? (i := 2051) (by decide +kernel), List.mem_of_getElem? (i := 2052) (by decide +kernel)⟩
theorem lw_p111 : lw_okq (⟨"RainWishesModel", "areLike", "(II)Z"⟩, 39) := ⟨⟨by decide +kernel, by decide +kernel⟩, List.mem_of_getElem? (i := 1534) (by decide +kernel), List.mem_of_getElem? (i := 2055) (by decide +kernel), List.mem_of_getElem? (i := 2056) (by decide +kernel)⟩
def lw_privs_7 : List (MethodName × Nat) := [(⟨"RainWishesModel", "asksAsItIs", "()V"⟩, 39), (⟨"RainWishesModel", "serves", "(II)I"⟩, 39), (⟨"RainWishesModel", "key", "(III)I"⟩, 39), (⟨"RainWishesModel", "manyOf", "(II)I"⟩, 39), (⟨"RainWishesModel", "shareOf", "(II)I"⟩, 39), (⟨"RainWishesModel", "shareBy", "(III)I"⟩, 39), (⟨"RainWishesModel", "wantsFault", "(II)I"⟩, 39), (⟨"RainWishesModel", "trayFault", "(I)I"⟩, 39), (⟨"RainWishesModel", "goesWants", "(IIII)V"⟩, 39), (⟨"RainWishesModel", "doPart", "(II)Z"⟩, 39), (⟨"RainWishesModel", "sayFault", "(II)I"⟩, 39), (⟨"RainWishesModel", "reads", "(III)V"⟩, 39), (⟨"RainWishesModel", "laysReading", "(I)V"⟩, 39), (⟨"RainWishesModel", "laysPair", "(IIZ)V"⟩, 39), (⟨"RainWishesModel", "unlike", "(II)I"⟩, 39), (⟨"RainWishesModel", "areLike", "(II)Z"⟩, 39)]
theorem lw_r7 : ∀ q ∈ lw_privs_7, lw_okq q := List.forall_mem_cons.mpr ⟨lw_p96, List.forall_mem_cons.mpr ⟨lw_p97, List.forall_mem_cons.mpr ⟨lw_p98, List.forall_mem_cons.mpr ⟨lw_p99, List.forall_mem_cons.mpr ⟨lw_p100, List.forall_mem_cons.mpr ⟨lw_p101, List.forall_mem_cons.mpr ⟨lw_p102, List.forall_mem_cons.mpr ⟨lw_p103, List.forall_mem_cons.mpr ⟨lw_p104, List.forall_mem_cons.mpr ⟨lw_p105, List.forall_mem_cons.mpr ⟨lw_p106, List.forall_mem_cons.mpr ⟨lw_p107, List.forall_mem_cons.mpr ⟨lw_p108, List.forall_mem_cons.mpr ⟨lw_p109, List.forall_mem_cons.mpr ⟨lw_p110, List.forall_mem_cons.mpr ⟨lw_p111, fun _ h => absurd h List.not_mem_nil⟩⟩⟩⟩⟩⟩⟩⟩⟩⟩⟩⟩⟩⟩⟩⟩
theorem lw_p112 : lw_okq (⟨"RainWishesModel", "holdsIn", "(I)I"⟩, 39) := ⟨⟨by decide +kernel, by decide +kernel⟩, List.mem_of_getElem? (i := 1534) (by decide +kernel), List.mem_of_getElem? (i := 2059) (by decide +kernel), List.mem_of_getElem? (i := 2060) (by decide +kernel)⟩
theorem lw_p113 : lw_okq (⟨"RainWishesModel", "keeps", "()V"⟩, 39) := ⟨⟨by decide +kernel, by decide +kernel⟩, List.mem_of_getElem? (i := 1534) (by decide +kernel), List.mem_of_getElem? (i := 2068) (by decide +kernel), List.mem_of_getElem? (i := 2069) (by decide +kernel)⟩
theorem lw_p114 : lw_okq (⟨"RainWishesModel", "goesBy", "(I)I"⟩, 39) := ⟨⟨by decide +kernel, by decide +kernel⟩, List.mem_of_getElem? (i := 1534) (by decide +kernel), List.mem_of_getElem? (i := 2072) (by decide +kernel), List.mem_of_getElem? (i := 2073) (by decide +kernel)⟩
theorem lw_p115 : lw_okq (⟨"RainWishesModel", "draw", "(I)I"⟩, 39) := ⟨⟨by decide +kernel, by decide +kernel⟩, List.mem_of_getElem? (i := 1534) (by decide +kernel), List.mem_of_getElem? (i := 2110) (by decide +kernel), List.mem_of_getElem? (i := 2111) (by decide +kernel)⟩
theorem lw_p116 : lw_okq (⟨"RainWishesModel", "holdFault", "(III)I"⟩, 39) := ⟨⟨by decide +kernel, by decide +kernel⟩, List.mem_of_getElem? (i := 1534) (by decide +kernel), List.mem_of_getElem? (i := 2119) (by decide +kernel), List.mem_of_getElem? (i := 2120) (by decide +kernel)⟩
theorem lw_p117 : lw_okq (⟨"RainWishesModel", "laysWorth", "(I)V"⟩, 39) := ⟨⟨by decide +kernel, by decide +kernel⟩, List.mem_of_getElem? (i := 1534) (by decide +kernel), List.mem_of_getElem? (i := 2124) (by decide +kernel), List.mem_of_getElem? (i := 2125) (by decide +kernel)⟩
theorem lw_p118 : lw_okq (⟨"RainWishesModel", "grantsNow", "(IJII)J"⟩, 39) := ⟨⟨by decide +kernel, by decide +kernel⟩, List.mem_of_getElem? (i := 1534) (by decide +kernel), List.mem_of_getElem? (i := 2128) (by decide +kernel), List.mem_of_getElem? (i := 2129) (by decide +kernel)⟩
theorem lw_p119 : lw_okq (⟨"RainWishesModel", "cut", "(IIJ)J"⟩, 39) := ⟨⟨by decide +kernel, by decide +kernel⟩, List.mem_of_getElem? (i := 1534) (by decide +kernel), List.mem_of_getElem? (i := 2145) (by decide +kernel), List.mem_of_getElem? (i := 2146) (by decide +kernel)⟩
def lw_privs_8 : List (MethodName × Nat) := [(⟨"RainWishesModel", "holdsIn", "(I)I"⟩, 39), (⟨"RainWishesModel", "keeps", "()V"⟩, 39), (⟨"RainWishesModel", "goesBy", "(I)I"⟩, 39), (⟨"RainWishesModel", "draw", "(I)I"⟩, 39), (⟨"RainWishesModel", "holdFault", "(III)I"⟩, 39), (⟨"RainWishesModel", "laysWorth", "(I)V"⟩, 39), (⟨"RainWishesModel", "grantsNow", "(IJII)J"⟩, 39), (⟨"RainWishesModel", "cut", "(IIJ)J"⟩, 39)]
theorem lw_r8 : ∀ q ∈ lw_privs_8, lw_okq q := List.forall_mem_cons.mpr ⟨lw_p112, List.forall_mem_cons.mpr ⟨lw_p113, List.forall_mem_cons.mpr ⟨lw_p114, List.forall_mem_cons.mpr ⟨lw_p115, List.forall_mem_cons.mpr ⟨lw_p116, List.forall_mem_cons.mpr ⟨lw_p117, List.forall_mem_cons.mpr ⟨lw_p118, List.forall_mem_cons.mpr ⟨lw_p119, fun _ h => absurd h List.not_mem_nil⟩⟩⟩⟩⟩⟩⟩⟩
def lw_privs : List (MethodName × Nat) := lw_privs_1 ++ (lw_privs_2 ++ (lw_privs_3 ++ (lw_privs_4 ++ (lw_privs_5 ++ (lw_privs_6 ++ (lw_privs_7 ++ (lw_privs_8)))))))
def lw_tbl : List Cond := k2_sels lw_privs ++ tables_1
theorem lw_privs_ok : ∀ q ∈ lw_privs, lw_okq q := by
  show ∀ q ∈ lw_privs_1 ++ (lw_privs_2 ++ (lw_privs_3 ++ (lw_privs_4 ++ (lw_privs_5 ++ (lw_privs_6 ++ (lw_privs_7 ++ (lw_privs_8))))))), lw_okq q
  exact List.forall_mem_append.mpr ⟨lw_r1, List.forall_mem_append.mpr ⟨lw_r2, List.forall_mem_append.mpr ⟨lw_r3, List.forall_mem_append.mpr ⟨lw_r4, List.forall_mem_append.mpr ⟨lw_r5, List.forall_mem_append.mpr ⟨lw_r6, List.forall_mem_append.mpr ⟨lw_r7, lw_r8⟩⟩⟩⟩⟩⟩⟩
-- ===== end of PART A; then your names; then what follows =====
end
section
/-! ===== BEGIN words of one list among another's, by their places ===== -/
theorem goodIn_r {big : List Cond} (ws : List Cond) (ps : List Nat) (hp : ws = ps.filterMap (fun i => big[i]?)) (h : ws.all goodWord = true) : GoodIn big ws := by
  intro w hw
  have h1 := List.all_eq_true.mp h w hw
  rw [hp] at hw
  obtain ⟨i, -, hi⟩ := List.mem_filterMap.mp hw
  have hm : w ∈ big := by first | exact List.mem_of_getElem? hi | exact List.getElem?_mem hi
  exact ⟨hm, good_of_word h1⟩
theorem goodIn_app {big a b : List Cond} (ha : GoodIn big a) (hb : GoodIn big b) : GoodIn big (a ++ b) := fun w h => (List.mem_append.mp h).elim (ha w) (hb w)
theorem goodIn_ca {big a b : List Cond} {c : Cond} (ha : GoodIn big (c :: a)) (hb : GoodIn big b) : GoodIn big (c :: (a ++ b)) := fun w h => (List.mem_cons.mp h).elim (fun e => ha w (List.mem_cons.mpr (Or.inl e))) (fun h => (List.mem_append.mp h).elim (fun h => ha w (List.mem_cons.mpr (Or.inr h))) (hb w))
theorem goodIn_sub {big ws : List Cond} (hm : ∀ w ∈ ws, w ∈ big) (h : ws.all goodWord = true) : GoodIn big ws := fun w hw => ⟨hm w hw, good_of_word (List.all_eq_true.mp h w hw)⟩
/-! ===== END ===== -/


/-! ===== BEGIN exceptions that leave a method, and their catching by the caller (launches without stack traces) ===== -/
section VXA
/-! The laws vx_back, vx_callV, vx_callS, vx_callSW, vx_throw0, vx_throwS follow proofs of the library, with one case more: JvmDerived/Free/Laws.lean (Back.of_free), Shelf42/LK1.lean (callV, callS), Shelf/KitTraced.lean (throwNew0V, throwNewS). -/
/-- where a method has thrown q: the class by its name, the cell, what was written, the world -/
def vx_T (XC : String → State → State → Prop) (st : State) (q : Addr) (t : State) (mc ms : Nat) (free : Addr → Prop) : Prop :=
  ∃ (E : String) (ce : Cell) (L : List Loc), XC E st t ∧ t.heap[q]? = some ce ∧ ce.vm = .none ∧ st.vm.findClass E = some ce.cls ∧ st.WarmedH t.vm ∧ st.sameButNew ({ t with vm := st.vm } : State) L mc ms ∧ ∀ z ∈ L, free z.base
def vx_Q (Qc : Array Value → State → Outcome → State → Prop) (XC : String → State → State → Prop) (mc ms : Nat) (free : Addr → Prop) : Array Value → State → Outcome → State → Prop := fun a st o t =>
  (Qc a st o t ∧ ∃ L, FrameEnd st o t L mc ms ∧ ∀ q ∈ L, free q.base) ∨ ∃ q, o = .threw q ∧ vx_T XC st q t mc ms free
/-- a callee that returns or throws -/
def vx_Met (l : Launch) (y : MethodName) (ws : List Cond) (rm : Room) (Pc : Array Value → State → Prop) (Qc : Array Value → State → Outcome → State → Prop) (XC : String → State → State → Prop) (mc ms : Nat) (free : Addr → Prop) : Prop :=
  MetFree l y (headSpec ws rm) Pc (fun _ _ _ _ _ => True) (vx_Q Qc XC mc ms free)
def vx_Post (XC : String → State → State → Prop) (mc ms : Nat) (free : Addr → Prop) : Pt → Array Value → Addr → Pt → Prop := fun A a q B =>
  ∃ (g : JFrame) (mk : MethodId) (t : State) (L : List Loc) (E : String) (ce : Cell), B.U.heap = t.heap ∧ B.U.vm = t.vm ∧ XC E (A.U.calling g mk a) t ∧ t.heap[q]? = some ce ∧ ce.vm = .none ∧ A.U.vm.findClass E = some ce.cls ∧ B.locs = A.locs ++ L ∧ (∀ z ∈ L, free z.base) ∧ B.cells = A.cells + mc ∧ B.slots = A.slots + ms
def vx_Back (l : Launch) (R : Room) (p : Program) (e : Env) (below : List Frame) (s : State) (sargs : Array Value) (y : MethodName) (len W9 : Nat)
    (Pre : Pt → Array Value → Prop) (Post : Pt → Array Value → Option Value → Pt → Prop) (PostX : Pt → Array Value → Addr → Pt → Prop) : Prop :=
  ∀ (m : MethodId) (meth : Method) (c : Code) (A : Pt) (g : JFrame) (ig : Instr) (mk : MethodId) (a : Array Value),
    Stand p l e R s m sargs below meth c A.U A.locs A.cells A.slots → g.method = m → g.locals.size = c.maxLocals → decode c.code g.pc = .ok (ig, len) →
    2 * g.monitorRoom + (g.stack.map fun v => v.category).sum ≤ W9 → A.U.methodNamed? y = some mk → Pre A a →
    (∃ (v : Option Value) (B : Pt), Stand p l e R s m sargs below meth c B.U B.locs B.cells B.slots ∧ Post A a v B ∧
      Steps p.tables e below (doInvoke e (A.U.setTop g) [] mk a).1 (B.U.setTop { g with pc := g.pc + len, stack := v.toList ++ g.stack })) ∨
    (∃ (q : Addr) (B : Pt), Stand p l e R s m sargs below meth c B.U B.locs B.cells B.slots ∧ PostX A a q B ∧
      Steps p.tables e below (doInvoke e (A.U.setTop g) [] mk a).1 ((B.U.setTop g).pushFrame (.throwing q)))
section Payer
variable {l : Launch} {R : Room} {p : Program} {e : Env} {below : List Frame} {s : State} {sargs : Array Value} {y : MethodName} {len W9 : Nat}
theorem vx_back {ws : List Cond} {rm : Room} {Pc : Array Value → State → Prop} {Qc : Array Value → State → Outcome → State → Prop} {XC : String → State → State → Prop} {mc ms : Nat} {free : Addr → Prop} {bytes : ByteArray} {maxL : Nat} {ret : Option FieldType}
    (hM : vx_Met l y ws rm Pc Qc XC mc ms free) (hblind : FrameBlind Pc) (hrc : rm.cells = mc) (hrs : rm.slots = ms)
    (hframes : rm.frames + 1 ≤ R.frames) (hlocals : W9 + (maxL + 11) + rm.locals ≤ R.locals)
    (hws : ∀ w ∈ ws, ∀ a' U, s.WarmedH U.vm → w.before a' U = true) (hcode : Cond.code y bytes maxL ret ∈ ws) (hinit : ∀ a' U, s.WarmedH U.vm → (Cond.initialized y.cls).before a' U = true) :
    vx_Back l R p e below s sargs y len W9 (PreOf R mc ms Pc) (PostOf Qc mc ms free) (vx_Post XC mc ms free) := by
  intro m meth c A g ig mk a X hg hsize hdg hW hn hp
  have h1 : (headSpec ws rm).pre.before a A.U = true := atoms_intro fun w hw => hws w hw _ _ X.warmed
  have h2 : (Cond.code y bytes maxL ret).before a A.U = true := hws _ hcode _ _ X.warmed
  have h3 : (Cond.initialized y.cls).before a A.U = true := hinit _ _ X.warmed
  have h4 : A.cells + (headSpec ws rm).room.cells ≤ R.cells := by rw [show (headSpec ws rm).room.cells = mc from hrc]; exact hp.1
  have h5 : A.slots + (headSpec ws rm).room.slots ≤ R.slots := by rw [show (headSpec ws rm).room.slots = ms from hrs]; exact hp.2.1
  have hPc : Pc a (A.U.calling g mk a) := hblind _ _ _ _ hp.2.2
  obtain ⟨U, Ls, c0, s0⟩ := A
  dsimp only [Pt.U, Pt.locs, Pt.cells, Pt.slots] at h1 h2 h3 h4 h5 X hn hPc ⊢
  obtain ⟨methY, cY, hmY, hcY, -, hlY, -, -, -, -⟩ := Cond.code_spec hn h2
  obtain ⟨kY, hkY, -⟩ := className_of_methodNamed hn
  have hinitY : kY.init = .initialized := Cond.initialized_spec (findClass_of_methodNamed hn) hkY h3
  have h : At U g.method c below := by rw [hg]; exact X.here
  have hlocals9 : W9 + (maxL + 11) + (headSpec ws rm).room.locals ≤ R.locals := hlocals
  have happ : (headSpec ws rm).appliesLoose y e.platform (U.calling g mk a) = true :=
    Spec.appliesLoose_calling (g := g) h hdg hn hkY hinitY
      (X.room_calling (g := g) (R' := (headSpec ws rm).room) hsize hmY hcY hframes (by rw [hlY]; omega) h4 h5) h1
  obtain ⟨mid, hmid⟩ := h.above
  have hfr : (U.setTop g).frames = (.java g :: mid) ++ below := by rw [State.frames_setTop' g h.top, hmid]; rfl
  obtain ⟨o, s₂, hsteps, -, hend, hq⟩ := Steps.callFree hM p X.admits X.cas X.clock (acts := []) hfr happ hPc trivial
  have hq' : vx_Q Qc XC mc ms free a (U.calling g mk a) o s₂ := hq
  rw [State.frames_setTop' g h.top] at hend
  obtain ⟨g₀, hg0⟩ := Option.isSome_iff_exists.mp h.top
  obtain ⟨r, hr⟩ := State.topJava?_eq_some.mp hg0
  have hr' : (({ U with heap := s₂.heap, slotsUsed := s₂.slotsUsed } : State).setVm s₂.vm).frames = .java g₀ :: r := hr
  rcases hq' with ⟨hqc, L, hfe, hL⟩ | ⟨q, rfl, E, ce, L, hx, hce, hcv, hcl, hW₂, hsm, hL⟩
  · obtain ⟨⟨v, rfl⟩, hW₂, e2, q2, q3, q4, q5, q6⟩ := id hfe
    have e3 : s₂ = ({ (U.calling g mk a).setFrames s₂.frames with heap := s₂.heap, slotsUsed := s₂.slotsUsed } : State).setVm s₂.vm := by
      have : s₂ = ({ s₂ with vm := (U.calling g mk a).vm } : State).setVm s₂.vm := rfl
      rw [e2] at this
      exact this
    obtain ⟨c₂, i₂, len₂, hc₂, hd₂, hf₂⟩ := hend
    have hW' : U.WarmedH s₂.vm := hW₂
    have hcc : c₂ = c := by
      have h1 : s₂.code? g.method = U.code? g.method := by
        rw [State.code?_eq, State.code?_eq, hW'.alike.method?]
      exact Option.some.inj (hc₂.symm.trans (h1.trans h.code))
    subst hcc
    have hlen : len₂ = len := by rw [hdg] at hd₂; cases hd₂; rfl
    subst hlen
    have hs₂ : s₂ = (({ U with heap := s₂.heap, slotsUsed := s₂.slotsUsed } : State).setVm s₂.vm).setTop { g with pc := g.pc + len₂, stack := v.toList ++ g.stack } := by
      refine e3.trans ?_
      rw [hf₂, State.calling_eq h.top, State.setFrames_setFrames, State.setTop_of_frames _ hr', hr]
      rfl
    have hsame : U.sameButNew ({ U with heap := s₂.heap, slotsUsed := s₂.slotsUsed } : State) L mc ms := by
      refine ⟨?_, q2, q3, q4, q5, q6⟩
      obtain ⟨t, ht, -⟩ := State.frames_cons hr
      show ({ U with heap := s₂.heap, slotsUsed := s₂.slotsUsed } : State) = { U.setFrames U.frames with heap := s₂.heap, slotsUsed := s₂.slotsUsed }
      rw [State.setFrames_self ht]
    subst hg
    refine Or.inl ⟨v, ⟨(({ U with heap := s₂.heap, slotsUsed := s₂.slotsUsed } : State).setVm s₂.vm), Ls ++ L, c0 + mc, s0 + ms⟩,
      ⟨X.admits, X.cas, X.clock, X.frames, X.room, X.hears, X.method, X.code, (X.here.setHeapUsed s₂.heap s₂.slotsUsed).setVm hW'.alike, X.tail, State.WarmedH.trans X.warmed hW', X.limits, X.bytes, X.same.trans (hsame.setVm s.vm)⟩,
      ⟨g, mk, s₂, L, rfl, rfl, hqc, rfl, hL, rfl, rfl⟩, ?_⟩
    show Steps p.tables e below _ ((({ U with heap := s₂.heap, slotsUsed := s₂.slotsUsed } : State).setVm s₂.vm).setTop { g with pc := g.pc + len₂, stack := v.toList ++ g.stack })
    rw [← hs₂]
    exact hsteps
  · obtain ⟨e2, q2, q3, q4, q5, q6⟩ := id hsm
    have e3 : s₂ = ({ (U.calling g mk a).setFrames s₂.frames with heap := s₂.heap, slotsUsed := s₂.slotsUsed } : State).setVm s₂.vm := by
      have : s₂ = ({ s₂ with vm := (U.calling g mk a).vm } : State).setVm s₂.vm := rfl
      rw [e2] at this
      exact this
    have hf₂ : s₂.frames = .throwing q :: .java g :: U.frames.tail := hend
    have hW' : U.WarmedH s₂.vm := hW₂
    have hs₂ : s₂ = ((({ U with heap := s₂.heap, slotsUsed := s₂.slotsUsed } : State).setVm s₂.vm).setTop g).pushFrame (.throwing q) := by
      refine e3.trans ?_
      rw [hf₂, State.calling_eq h.top, State.setFrames_setFrames, State.pushFrame, State.frames_setTop _ hr', State.setTop_of_frames _ hr', State.setFrames_setFrames, hr]
      rfl
    have hsame : U.sameButNew ({ U with heap := s₂.heap, slotsUsed := s₂.slotsUsed } : State) L mc ms := by
      refine ⟨?_, q2, q3, q4, q5, q6⟩
      obtain ⟨t, ht, -⟩ := State.frames_cons hr
      show ({ U with heap := s₂.heap, slotsUsed := s₂.slotsUsed } : State) = { U.setFrames U.frames with heap := s₂.heap, slotsUsed := s₂.slotsUsed }
      rw [State.setFrames_self ht]
    subst hg
    refine Or.inr ⟨q, ⟨(({ U with heap := s₂.heap, slotsUsed := s₂.slotsUsed } : State).setVm s₂.vm), Ls ++ L, c0 + mc, s0 + ms⟩,
      ⟨X.admits, X.cas, X.clock, X.frames, X.room, X.hears, X.method, X.code, (X.here.setHeapUsed s₂.heap s₂.slotsUsed).setVm hW'.alike, X.tail, State.WarmedH.trans X.warmed hW', X.limits, X.bytes, X.same.trans (hsame.setVm s.vm)⟩,
      ⟨g, mk, s₂, L, E, ce, rfl, rfl, hx, hce, hcv, hcl, rfl, hL, rfl, rfl⟩, ?_⟩
    show Steps p.tables e below _ (((({ U with heap := s₂.heap, slotsUsed := s₂.slotsUsed } : State).setVm s₂.vm).setTop g).pushFrame (.throwing q))
    rw [← hs₂]
    exact hsteps
end Payer
section Calls
variable {p : Program} {l : Launch} {e : Env} {R : Room} {s : State} {m : MethodId} {args : Array Value} {below : List Frame} {meth : Method} {c : Code} {T : State} {locs : List Loc} {cells slots : Nat}
theorem vx_callV (X : Stand p l e R s m args below meth c T locs cells slots) (hexec : p.tables.exec = Jvm.exec) {own C : String} {index : Nat} {y : MethodName} {bytes : ByteArray} {maxL : Nat} {ret : Option FieldType}
    (hown : s.vm.findClass own = some m.cls) (hlink : (Cond.methodLink own index y).before args s = true) (hinst : (Cond.instanceMethod y).before args s = true) (hsel : (Cond.selects C y y).before args s = true)
    (hcode : (Cond.code y bytes maxL ret).before args s = true) (hy : y.cls ≠ "java/lang/invoke/MethodHandle" ∧ y.cls ≠ "java/lang/invoke/VarHandle")
    {W9 : Nat} {Pre : Pt → Array Value → Prop} {Post : Pt → Array Value → Option Value → Pt → Prop} {PostX : Pt → Array Value → Addr → Pt → Prop} (hK : vx_Back l R p e below s args y 3 W9 Pre Post PostX)
    {b : Addr} {cellB : Cell} (hcell : T.heap[b]? = some cellB) (hobj : cellB.vm.isStatics = false) (hcls : s.vm.findClass C = some cellB.cls)
    {g : JFrame} (hg : g.method = m) (hsize : g.locals.size = c.maxLocals) {argsL rest : List Value} (hlen : ∀ sig, parseMethodDescriptor y.desc = some sig → argsL.length = sig.parameters.length)
    (hstack : g.stack = argsL.reverse ++ .ref b :: rest) (hW : 2 * g.monitorRoom + (rest.map fun v => v.category).sum ≤ W9) (hdg : decode c.code g.pc = .ok (.invokevirtual index, 3))
    (hpre : ∀ vm₁, s.WarmedH vm₁ → Pre ⟨T.setVm vm₁, locs, cells, slots⟩ (Value.ref b :: argsL).toArray) :
    (∃ (v : Option Value) (vm₁ : Vm) (B : Pt), s.WarmedH vm₁ ∧ Stand p l e R s m args below meth c B.U B.locs B.cells B.slots ∧ Post ⟨T.setVm vm₁, locs, cells, slots⟩ (Value.ref b :: argsL).toArray v B ∧
      ∀ target, Steps p.tables e below (B.U.setTop { g with pc := g.pc + 3, stack := v.toList ++ rest }) target → Steps p.tables e below (T.setTop g) target) ∨
    (∃ (q : Addr) (vm₁ : Vm) (B : Pt), s.WarmedH vm₁ ∧ Stand p l e R s m args below meth c B.U B.locs B.cells B.slots ∧ PostX ⟨T.setVm vm₁, locs, cells, slots⟩ (Value.ref b :: argsL).toArray q B ∧
      Steps p.tables e below (T.setTop g) ((B.U.setTop { g with stack := rest }).pushFrame (.throwing q))) := by
  obtain ⟨mk, methM, hnamed, hmethM, hstM, habM⟩ := Cond.instanceMethod_spec hinst
  obtain ⟨methM', cM, hmethM', -, -, -, -, -, -, hsigM⟩ := Cond.code_spec hnamed hcode
  cases hmethM.symm.trans hmethM'
  obtain ⟨c2, r2, m2, q1, q2, q3, q4, kP, hkP, hkPi⟩ := Cond.selects_spec hsel
  cases hcls.symm.trans q1
  cases (State.methodFound?_of_named hnamed hy).symm.trans q2
  cases hnamed.symm.trans q3
  have hselP : selectMethod e.platform s.vm cellB.cls mk = .method mk := by rw [Launch.admits_selectMethod X.admits]; exact q4
  obtain ⟨vm₁, X₁, hstep₁⟩ := X.invokevirtual hexec hown hlink hnamed hmethM hstM hkP hkPi hy (a := b) (cell := cellB) hcell
    (fun z h => by rw [h] at hobj; cases hobj) hselP hmethM habM hkP hkPi (g := g) hg (argsL := argsL) (rest := rest) (hlen _ hsigM) hstack hdg
  rcases hK m meth c ⟨T.setVm vm₁, locs, cells, slots⟩ { g with stack := rest } (.invokevirtual index) mk (Value.ref b :: argsL).toArray X₁ hg hsize hdg hW (X₁.named hnamed) (hpre vm₁ X₁.warmed) with ⟨v, B, X', hpost, hsteps⟩ | ⟨q, B, X', hpost, hsteps⟩
  · exact Or.inl ⟨v, vm₁, B, X₁.warmed, X', hpost, fun target h => hstep₁ _ fun acts => by rw [doInvoke_state]; exact hsteps.trans h⟩
  · exact Or.inr ⟨q, vm₁, B, X₁.warmed, X', hpost, hstep₁ _ fun acts => by rw [doInvoke_state]; exact hsteps⟩
theorem vx_callS (X : Stand p l e R s m args below meth c T locs cells slots) (hexec : p.tables.exec = Jvm.exec) {own : String} {index : Nat} {y : MethodName} {bytes : ByteArray} {maxL : Nat} {ret : Option FieldType}
    (hown : s.vm.findClass own = some m.cls) (hlink : (Cond.methodLink own index y).before args s = true) (hstat : (Cond.static y).before args s = true) (hinit : (Cond.initialized y.cls).before args s = true)
    (hcode : (Cond.code y bytes maxL ret).before args s = true) (hy : y.cls ≠ "java/lang/invoke/MethodHandle" ∧ y.cls ≠ "java/lang/invoke/VarHandle")
    {W9 : Nat} {Pre : Pt → Array Value → Prop} {Post : Pt → Array Value → Option Value → Pt → Prop} {PostX : Pt → Array Value → Addr → Pt → Prop} (hK : vx_Back l R p e below s args y 3 W9 Pre Post PostX)
    {g : JFrame} (hg : g.method = m) (hsize : g.locals.size = c.maxLocals) {argsL rest : List Value} (hlen : ∀ sig, parseMethodDescriptor y.desc = some sig → argsL.length = sig.parameters.length)
    (hstack : g.stack = argsL.reverse ++ rest) (hW : 2 * g.monitorRoom + (rest.map fun v => v.category).sum ≤ W9) (hdg : decode c.code g.pc = .ok (.invokestatic index, 3))
    (hpre : ∀ vm₁, s.WarmedH vm₁ → Pre ⟨T.setVm vm₁, locs, cells, slots⟩ argsL.toArray) :
    (∃ (v : Option Value) (vm₁ : Vm) (B : Pt), s.WarmedH vm₁ ∧ Stand p l e R s m args below meth c B.U B.locs B.cells B.slots ∧ Post ⟨T.setVm vm₁, locs, cells, slots⟩ argsL.toArray v B ∧
      ∀ target, Steps p.tables e below (B.U.setTop { g with pc := g.pc + 3, stack := v.toList ++ rest }) target → Steps p.tables e below (T.setTop g) target) ∨
    (∃ (q : Addr) (vm₁ : Vm) (B : Pt), s.WarmedH vm₁ ∧ Stand p l e R s m args below meth c B.U B.locs B.cells B.slots ∧ PostX ⟨T.setVm vm₁, locs, cells, slots⟩ argsL.toArray q B ∧
      Steps p.tables e below (T.setTop g) ((B.U.setTop { g with stack := rest }).pushFrame (.throwing q))) := by
  obtain ⟨mk, hnamed⟩ := Cond.code_named hcode
  obtain ⟨methM, cM, hmethM, -, -, -, -, -, -, hsigM⟩ := Cond.code_spec hnamed hcode
  have hstatic : methM.isStatic = true := Cond.static_spec hnamed hmethM hstat
  obtain ⟨kP, hkP, -⟩ := className_of_methodNamed hnamed
  have hinitP : kP.init = .initialized := Cond.initialized_spec (findClass_of_methodNamed hnamed) hkP hinit
  obtain ⟨vm₁, X₁, hstep₁⟩ := X.invokestatic hexec hown hlink hnamed hmethM hstatic hkP hinitP hy (g := g) hg (argsL := argsL) (rest := rest) (hlen _ hsigM) hstack hdg
  rcases hK m meth c ⟨T.setVm vm₁, locs, cells, slots⟩ { g with stack := rest } (.invokestatic index) mk argsL.toArray X₁ hg hsize hdg hW (X₁.named hnamed) (hpre vm₁ X₁.warmed) with ⟨v, B, X', hpost, hsteps⟩ | ⟨q, B, X', hpost, hsteps⟩
  · exact Or.inl ⟨v, vm₁, B, X₁.warmed, X', hpost, fun target h => hstep₁ _ fun acts => by rw [doInvoke_state]; exact hsteps.trans h⟩
  · exact Or.inr ⟨q, vm₁, B, X₁.warmed, X', hpost, hstep₁ _ fun acts => by rw [doInvoke_state]; exact hsteps⟩
end Calls
theorem vx_cls {s : State} {T : State} {vm₁ : Vm} {E : String} {k : ClassId} (hW : s.WarmedH vm₁) (h : (T.setVm vm₁).vm.findClass E = some k) : s.vm.findClass E = some k := by
  have h1 : vm₁.findClass E = some k := h
  rw [hW.alike.findClass] at h1
  exact h1
/-- the method's frame g, with q thrown over it -/
def vx_W (p : Program) (l : Launch) (e : Env) (R : Room) (s : State) (m : MethodId) (args : Array Value) (below : List Frame) (meth : Method) (c : Code) (H : Heap) (locs : List Loc) (cells slots : Nat) (Q : State → Prop) (g : JFrame) (q : Addr) : Prop :=
  ∀ T : State, T.heap = H → Stand p l e R s m args below meth c T locs cells slots → ∃ t, Steps p.tables e below ((T.setTop g).pushFrame (.throwing q)) t ∧ Q t
def vx_Run (p : Program) (l : Launch) (e : Env) (R : Room) (s : State) (m : MethodId) (args : Array Value) (below : List Frame) (meth : Method) (c : Code) (H : Heap) (locs : List Loc) (cells slots mc ms : Nat) (g : JFrame) (rest : List Value) (Qa : State → Outcome → State → Prop) (XC : String → State → State → Prop) (free : Addr → Prop) : Prop :=
  ∀ T : State, T.heap = H → Stand p l e R s m args below meth c T locs cells slots →
    (∃ (v : Option Value) (st₀ t T' : State) (L : List Loc), st₀.heap = H ∧ Stand p l e R s m args below meth c T' (locs ++ L) (cells + mc) (slots + ms) ∧ (∀ q ∈ L, free q.base) ∧ T'.heap = t.heap ∧ T'.vm = t.vm ∧ Qa st₀ (.returned v) t ∧
      Goes p e below T g T' { g with pc := g.pc + 3, stack := v.toList ++ rest }) ∨
    (∃ (q : Addr) (st₀ t T' : State) (L : List Loc) (E : String) (ce : Cell), st₀.heap = H ∧ Stand p l e R s m args below meth c T' (locs ++ L) (cells + mc) (slots + ms) ∧ (∀ z ∈ L, free z.base) ∧ T'.heap = t.heap ∧ T'.vm = t.vm ∧ XC E st₀ t ∧ t.heap[q]? = some ce ∧ ce.vm = .none ∧ s.vm.findClass E = some ce.cls ∧
      Steps p.tables e below (T.setTop g) ((T'.setTop { g with stack := rest }).pushFrame (.throwing q)))
def vx_X {S : Type} (px : S → Prop) (B : String → S → State → Prop) (A : Nat → Prop) : String → State → State → Prop := fun E st t => ∃ u : S, px u ∧ B E u t ∧ va_F A st t
section Runs
variable {p : Program} {l : Launch} {e : Env} {R : Room} {s : State} {m : MethodId} {args : Array Value} {below : List Frame} {meth : Method} {c : Code} {H : Heap} {locs : List Loc} {cells slots : Nat}
variable {y : MethodName} {bytes cc : ByteArray} {maxL nL mc ms n index : Nat} {ret : Option FieldType} {ws : List Cond} {rm : Room} {Pc : Array Value → State → Prop} {Qc : Array Value → State → Outcome → State → Prop} {XC : String → State → State → Prop} {free : Addr → Prop} {Ts : List Cond} {own C : String} {b : Addr} {As rest : List Value} {g : JFrame}
theorem vx_callBack (cb : CallB R s args own index y bytes maxL ret ws rm mc ms n) (hM : vx_Met l y ws rm Pc Qc XC mc ms free) (hbl : FrameBlind Pc) : vx_Back l R p e below s args y 3 8 (PreOf R mc ms Pc) (PostOf Qc mc ms free) (vx_Post XC mc ms free) := by
  obtain ⟨hrc, hrs, hfr, hlo, hws, hcw, -, hini, -⟩ := cb
  exact vx_back (bytes := bytes) (maxL := maxL) (ret := ret) hM hbl hrc hrs hfr hlo hws hcw (fun a' U hW => word_at hW (Or.inl (by first | rfl | simp [Cond.onTables, Cond.keeps, Cond.steady])) hini)
theorem vx_runV (S : CallFix p m c cc nL s args Ts own) (hM : vx_Met l y ws rm Pc Qc XC mc ms free) (cw : CallW R s args own C index y bytes maxL ret ws rm mc ms n) (hp : PreV s H C b Pc As)
    (hg : g.method = m) (hn : As.length = n) (hsize : g.locals.size = nL) (hstack : g.stack = As.reverse ++ .ref b :: rest) (hW : 2 * g.monitorRoom + (rest.map fun v => v.category).sum ≤ 8) (hdg : decode cc g.pc = .ok (.invokevirtual index, 3)) (hf : cells + mc ≤ R.cells ∧ slots + ms ≤ R.slots) :
    vx_Run p l e R s m args below meth c H locs cells slots mc ms g rest (Qc (Value.ref b :: As).toArray) XC free := by
  have hK : vx_Back l R p e below s args y 3 8 (PreOf R mc ms Pc) (PostOf Qc mc ms free) (vx_Post XC mc ms free) := vx_callBack cw.1 hM hp.1
  obtain ⟨⟨-, -, -, -, -, -, hcode, -, hy, hlen, hl⟩, hin, hse⟩ := cw
  obtain ⟨hx, hb, hml, ho, -⟩ := S
  obtain ⟨-, ⟨cellB, hcB, hoB, hclB⟩, hPc⟩ := hp
  intro T hT X
  rcases vx_callV X hx (C := C) (bytes := bytes) (maxL := maxL) (ret := ret) ho hl hin hse hcode hy hK (by rw [hT]; exact hcB) hoB hclB hg (hsize.trans hml.symm) (argsL := As) (rest := rest) (fun sig h => hn.trans (hlen sig h)) hstack hW (by rw [hb]; exact hdg)
    (fun vm₁ hW₁ => ⟨hf.1, hf.2, hPc (T.setVm vm₁) hT hW₁⟩) with ⟨v, vm₁, ⟨U', l2, c2, s2⟩, hW₁, X', ⟨g', mk, t, L, e1, e2, hq, h1, hL, h2, h3⟩, st⟩ | ⟨q, vm₁, ⟨U', l2, c2, s2⟩, hW₁, X', ⟨g', mk, t, L, E, ce, e1, e2, hq, hce, hcv, hcl, h1, hL, h2, h3⟩, st⟩
  · dsimp only [Pt.U, Pt.locs, Pt.cells, Pt.slots] at X' e1 e2 h1 h2 h3 st
    subst h1; subst h2; subst h3
    exact Or.inl ⟨v, (T.setVm vm₁).calling g' mk (Value.ref b :: As).toArray, t, U', L, hT, X', hL, e1, e2, hq, st⟩
  · dsimp only [Pt.U, Pt.locs, Pt.cells, Pt.slots] at X' e1 e2 h1 h2 h3 st hcl
    subst h1; subst h2; subst h3
    exact Or.inr ⟨q, (T.setVm vm₁).calling g' mk (Value.ref b :: As).toArray, t, U', L, E, ce, hT, X', hL, e1, e2, hq, hce, hcv, vx_cls hW₁ hcl, st⟩
theorem vx_runS (S : CallFix p m c cc nL s args Ts own) (hM : vx_Met l y ws rm Pc Qc XC mc ms free) (cw : CallB R s args own index y bytes maxL ret ws rm mc ms n ∧ (Cond.static y).before args s = true) (hp : PreS s H Pc As)
    (hg : g.method = m) (hn : As.length = n) (hsize : g.locals.size = nL) (hstack : g.stack = As.reverse ++ rest) (hW : 2 * g.monitorRoom + (rest.map fun v => v.category).sum ≤ 8) (hdg : decode cc g.pc = .ok (.invokestatic index, 3)) (hf : cells + mc ≤ R.cells ∧ slots + ms ≤ R.slots) :
    vx_Run p l e R s m args below meth c H locs cells slots mc ms g rest (Qc As.toArray) XC free := by
  have hK : vx_Back l R p e below s args y 3 8 (PreOf R mc ms Pc) (PostOf Qc mc ms free) (vx_Post XC mc ms free) := vx_callBack cw.1 hM hp.1
  obtain ⟨⟨-, -, -, -, -, -, hcode, hini, hy, hlen, hl⟩, hstt⟩ := cw
  obtain ⟨hx, hb, hml, ho, -⟩ := S
  intro T hT X
  rcases vx_callS X hx (bytes := bytes) (maxL := maxL) (ret := ret) ho hl hstt hini hcode hy hK hg (hsize.trans hml.symm) (argsL := As) (rest := rest) (fun sig h => hn.trans (hlen sig h)) hstack hW (by rw [hb]; exact hdg)
    (fun vm₁ hW₁ => ⟨hf.1, hf.2, hp.2 (T.setVm vm₁) hT hW₁⟩) with ⟨v, vm₁, ⟨U', l2, c2, s2⟩, hW₁, X', ⟨g', mk, t, L, e1, e2, hq, h1, hL, h2, h3⟩, st⟩ | ⟨q, vm₁, ⟨U', l2, c2, s2⟩, hW₁, X', ⟨g', mk, t, L, E, ce, e1, e2, hq, hce, hcv, hcl, h1, hL, h2, h3⟩, st⟩
  · dsimp only [Pt.U, Pt.locs, Pt.cells, Pt.slots] at X' e1 e2 h1 h2 h3 st
    subst h1; subst h2; subst h3
    exact Or.inl ⟨v, (T.setVm vm₁).calling g' mk As.toArray, t, U', L, hT, X', hL, e1, e2, hq, st⟩
  · dsimp only [Pt.U, Pt.locs, Pt.cells, Pt.slots] at X' e1 e2 h1 h2 h3 st hcl
    subst h1; subst h2; subst h3
    exact Or.inr ⟨q, (T.setVm vm₁).calling g' mk As.toArray, t, U', L, E, ce, hT, X', hL, e1, e2, hq, hce, hcv, vx_cls hW₁ hcl, st⟩
end Runs
section Rows
variable {p : Program} {l : Launch} {e : Env} {R : Room} {s : State} {m : MethodId} {args : Array Value} {below : List Frame} {meth : Method} {c : Code} {H : Heap} {locs : List Loc} {cells slots : Nat} {Q : State → Prop}
variable {mc ms : Nat} {free : Addr → Prop} {A0 A1 : Nat → Prop} {H0 : Heap} {a : Array Value} {pc : Nat} {ls : Array Slot} {st0 rest : List Value}
theorem vx_keep {st₀ t T' : State} {L : List Loc} (h0 : st₀.heap = H) (e1 : T'.heap = t.heap) (hS : va_S A0 H0 H locs) (hA : ∀ q, q < H.size → A1 q → A0 q) (hf : ∀ q, free q → A0 q) (hL : ∀ q ∈ L, free q.base) (hF : va_F A1 st₀ t) :
    H.size ≤ T'.heap.size ∧ (∀ q : Nat, q < H.size → ¬ A1 q → T'.heap[q]? = H[q]?) ∧ va_S A0 H0 T'.heap (locs ++ L) := by
  obtain ⟨hz, hk⟩ := hF
  rw [h0] at hz hk
  exact ⟨by rw [e1]; exact hz, fun q h1 h2 => by rw [e1]; exact hk q h1 h2,
    ⟨Nat.le_trans hS.1 (by rw [e1]; exact hz), fun q h1 h2 => by rw [e1, hk q (Nat.lt_of_lt_of_le h1 hS.1) (fun z => h2 (hA q (Nat.lt_of_lt_of_le h1 hS.1) z))]; exact hS.2.1 q h1 h2, fun q hq => by
      rcases List.mem_append.mp hq with h | h
      · exact hS.2.2 q h
      · exact hf _ (hL q h)⟩⟩
theorem vx_calli {S SX : Type} {post : Int32 → S → Prop} {px : SX → Prop} {B : S → State → Prop} {BX : String → SX → State → Prop} {AX : Nat → Prop} (hr : vx_Run p l e R s m args below meth c H locs cells slots mc ms (F0 m pc ls st0) rest (va_Qi post B A1 a) (vx_X px BX AX) free) (hS : va_S A0 H0 H locs) (hA : ∀ q, q < H.size → A1 q → A0 q) (hf : ∀ q, free q → A0 q) (hAX : ∀ q, q < H.size → AX q → A0 q)
    (kx : ∀ (E : String) (ce : Cell) (q9 : Addr) (u : SX) (t : State) (H1 : Heap) (locs1 : List Loc), t.heap = H1 → s.vm.Alike t.vm → px u → BX E u t → H.size ≤ H1.size → (∀ q : Nat, q < H.size → ¬ AX q → H1[q]? = H[q]?) → va_S A0 H0 H1 locs1 → H1[q9]? = some ce → ce.vm = .none → s.vm.findClass E = some ce.cls → vx_W p l e R s m args below meth c H1 locs1 (cells + mc) (slots + ms) Q (F0 m pc ls rest) q9)
    (kk : ∀ (r : Int32) (u : S) (t : State) (H1 : Heap) (locs1 : List Loc), t.heap = H1 → s.vm.Alike t.vm → post r u → B u t → H.size ≤ H1.size → (∀ q : Nat, q < H.size → ¬ A1 q → H1[q]? = H[q]?) → va_S A0 H0 H1 locs1 → W p l e R s m args below meth c H1 locs1 (cells + mc) (slots + ms) Q (F0 m (pc + 3) ls (.int r :: rest))) : W p l e R s m args below meth c H locs cells slots Q (F0 m pc ls st0) := by
  intro T hT X
  rcases hr T hT X with ⟨v, st₀, t, T', L, h0, X', hL, e1, e2, ⟨⟨r, u, hv, hp, hb⟩, hF⟩, st⟩ | ⟨q, st₀, t, T', L, E, ce, h0, X', hL, e1, e2, ⟨u, hp, hb, hF⟩, hce, hcv, hcl, st⟩
  · cases hv
    obtain ⟨k1, k2, k3⟩ := vx_keep h0 e1 hS hA hf hL hF
    obtain ⟨t2, a1, b1⟩ := kk r u t T'.heap (locs ++ L) e1.symm (by rw [← e2]; exact X'.warmed.alike) hp hb k1 k2 k3 T' rfl X'
    exact ⟨t2, st t2 a1, b1⟩
  · obtain ⟨k1, k2, k3⟩ := vx_keep h0 e1 hS hAX hf hL hF
    obtain ⟨t2, a1, b1⟩ := kx E ce q u t T'.heap (locs ++ L) e1.symm (by rw [← e2]; exact X'.warmed.alike) hp hb k1 k2 k3 (by rw [e1]; exact hce) hcv hcl T' rfl X'
    exact ⟨t2, st.trans a1, b1⟩
theorem vx_calll {S SX : Type} {post : Int64 → S → Prop} {px : SX → Prop} {B : S → State → Prop} {BX : String → SX → State → Prop} {AX : Nat → Prop} (hr : vx_Run p l e R s m args below meth c H locs cells slots mc ms (F0 m pc ls st0) rest (va_Ql post B A1 a) (vx_X px BX AX) free) (hS : va_S A0 H0 H locs) (hA : ∀ q, q < H.size → A1 q → A0 q) (hf : ∀ q, free q → A0 q) (hAX : ∀ q, q < H.size → AX q → A0 q)
    (kx : ∀ (E : String) (ce : Cell) (q9 : Addr) (u : SX) (t : State) (H1 : Heap) (locs1 : List Loc), t.heap = H1 → s.vm.Alike t.vm → px u → BX E u t → H.size ≤ H1.size → (∀ q : Nat, q < H.size → ¬ AX q → H1[q]? = H[q]?) → va_S A0 H0 H1 locs1 → H1[q9]? = some ce → ce.vm = .none → s.vm.findClass E = some ce.cls → vx_W p l e R s m args below meth c H1 locs1 (cells + mc) (slots + ms) Q (F0 m pc ls rest) q9)
    (kk : ∀ (r : Int64) (u : S) (t : State) (H1 : Heap) (locs1 : List Loc), t.heap = H1 → s.vm.Alike t.vm → post r u → B u t → H.size ≤ H1.size → (∀ q : Nat, q < H.size → ¬ A1 q → H1[q]? = H[q]?) → va_S A0 H0 H1 locs1 → W p l e R s m args below meth c H1 locs1 (cells + mc) (slots + ms) Q (F0 m (pc + 3) ls (.long r :: rest))) : W p l e R s m args below meth c H locs cells slots Q (F0 m pc ls st0) := by
  intro T hT X
  rcases hr T hT X with ⟨v, st₀, t, T', L, h0, X', hL, e1, e2, ⟨⟨r, u, hv, hp, hb⟩, hF⟩, st⟩ | ⟨q, st₀, t, T', L, E, ce, h0, X', hL, e1, e2, ⟨u, hp, hb, hF⟩, hce, hcv, hcl, st⟩
  · cases hv
    obtain ⟨k1, k2, k3⟩ := vx_keep h0 e1 hS hA hf hL hF
    obtain ⟨t2, a1, b1⟩ := kk r u t T'.heap (locs ++ L) e1.symm (by rw [← e2]; exact X'.warmed.alike) hp hb k1 k2 k3 T' rfl X'
    exact ⟨t2, st t2 a1, b1⟩
  · obtain ⟨k1, k2, k3⟩ := vx_keep h0 e1 hS hAX hf hL hF
    obtain ⟨t2, a1, b1⟩ := kx E ce q u t T'.heap (locs ++ L) e1.symm (by rw [← e2]; exact X'.warmed.alike) hp hb k1 k2 k3 (by rw [e1]; exact hce) hcv hcl T' rfl X'
    exact ⟨t2, st.trans a1, b1⟩
theorem vx_callf {S SX : Type} {post : UInt32 → S → Prop} {px : SX → Prop} {B : S → State → Prop} {BX : String → SX → State → Prop} {AX : Nat → Prop} (hr : vx_Run p l e R s m args below meth c H locs cells slots mc ms (F0 m pc ls st0) rest (va_Qf post B A1 a) (vx_X px BX AX) free) (hS : va_S A0 H0 H locs) (hA : ∀ q, q < H.size → A1 q → A0 q) (hf : ∀ q, free q → A0 q) (hAX : ∀ q, q < H.size → AX q → A0 q)
    (kx : ∀ (E : String) (ce : Cell) (q9 : Addr) (u : SX) (t : State) (H1 : Heap) (locs1 : List Loc), t.heap = H1 → s.vm.Alike t.vm → px u → BX E u t → H.size ≤ H1.size → (∀ q : Nat, q < H.size → ¬ AX q → H1[q]? = H[q]?) → va_S A0 H0 H1 locs1 → H1[q9]? = some ce → ce.vm = .none → s.vm.findClass E = some ce.cls → vx_W p l e R s m args below meth c H1 locs1 (cells + mc) (slots + ms) Q (F0 m pc ls rest) q9)
    (kk : ∀ (r : UInt32) (u : S) (t : State) (H1 : Heap) (locs1 : List Loc), t.heap = H1 → s.vm.Alike t.vm → post r u → B u t → H.size ≤ H1.size → (∀ q : Nat, q < H.size → ¬ A1 q → H1[q]? = H[q]?) → va_S A0 H0 H1 locs1 → W p l e R s m args below meth c H1 locs1 (cells + mc) (slots + ms) Q (F0 m (pc + 3) ls (.float r :: rest))) : W p l e R s m args below meth c H locs cells slots Q (F0 m pc ls st0) := by
  intro T hT X
  rcases hr T hT X with ⟨v, st₀, t, T', L, h0, X', hL, e1, e2, ⟨⟨r, u, hv, hp, hb⟩, hF⟩, st⟩ | ⟨q, st₀, t, T', L, E, ce, h0, X', hL, e1, e2, ⟨u, hp, hb, hF⟩, hce, hcv, hcl, st⟩
  · cases hv
    obtain ⟨k1, k2, k3⟩ := vx_keep h0 e1 hS hA hf hL hF
    obtain ⟨t2, a1, b1⟩ := kk r u t T'.heap (locs ++ L) e1.symm (by rw [← e2]; exact X'.warmed.alike) hp hb k1 k2 k3 T' rfl X'
    exact ⟨t2, st t2 a1, b1⟩
  · obtain ⟨k1, k2, k3⟩ := vx_keep h0 e1 hS hAX hf hL hF
    obtain ⟨t2, a1, b1⟩ := kx E ce q u t T'.heap (locs ++ L) e1.symm (by rw [← e2]; exact X'.warmed.alike) hp hb k1 k2 k3 (by rw [e1]; exact hce) hcv hcl T' rfl X'
    exact ⟨t2, st.trans a1, b1⟩
theorem vx_calld {S SX : Type} {post : UInt64 → S → Prop} {px : SX → Prop} {B : S → State → Prop} {BX : String → SX → State → Prop} {AX : Nat → Prop} (hr : vx_Run p l e R s m args below meth c H locs cells slots mc ms (F0 m pc ls st0) rest (va_Qd post B A1 a) (vx_X px BX AX) free) (hS : va_S A0 H0 H locs) (hA : ∀ q, q < H.size → A1 q → A0 q) (hf : ∀ q, free q → A0 q) (hAX : ∀ q, q < H.size → AX q → A0 q)
    (kx : ∀ (E : String) (ce : Cell) (q9 : Addr) (u : SX) (t : State) (H1 : Heap) (locs1 : List Loc), t.heap = H1 → s.vm.Alike t.vm → px u → BX E u t → H.size ≤ H1.size → (∀ q : Nat, q < H.size → ¬ AX q → H1[q]? = H[q]?) → va_S A0 H0 H1 locs1 → H1[q9]? = some ce → ce.vm = .none → s.vm.findClass E = some ce.cls → vx_W p l e R s m args below meth c H1 locs1 (cells + mc) (slots + ms) Q (F0 m pc ls rest) q9)
    (kk : ∀ (r : UInt64) (u : S) (t : State) (H1 : Heap) (locs1 : List Loc), t.heap = H1 → s.vm.Alike t.vm → post r u → B u t → H.size ≤ H1.size → (∀ q : Nat, q < H.size → ¬ A1 q → H1[q]? = H[q]?) → va_S A0 H0 H1 locs1 → W p l e R s m args below meth c H1 locs1 (cells + mc) (slots + ms) Q (F0 m (pc + 3) ls (.double r :: rest))) : W p l e R s m args below meth c H locs cells slots Q (F0 m pc ls st0) := by
  intro T hT X
  rcases hr T hT X with ⟨v, st₀, t, T', L, h0, X', hL, e1, e2, ⟨⟨r, u, hv, hp, hb⟩, hF⟩, st⟩ | ⟨q, st₀, t, T', L, E, ce, h0, X', hL, e1, e2, ⟨u, hp, hb, hF⟩, hce, hcv, hcl, st⟩
  · cases hv
    obtain ⟨k1, k2, k3⟩ := vx_keep h0 e1 hS hA hf hL hF
    obtain ⟨t2, a1, b1⟩ := kk r u t T'.heap (locs ++ L) e1.symm (by rw [← e2]; exact X'.warmed.alike) hp hb k1 k2 k3 T' rfl X'
    exact ⟨t2, st t2 a1, b1⟩
  · obtain ⟨k1, k2, k3⟩ := vx_keep h0 e1 hS hAX hf hL hF
    obtain ⟨t2, a1, b1⟩ := kx E ce q u t T'.heap (locs ++ L) e1.symm (by rw [← e2]; exact X'.warmed.alike) hp hb k1 k2 k3 (by rw [e1]; exact hce) hcv hcl T' rfl X'
    exact ⟨t2, st.trans a1, b1⟩
theorem vx_callv {S SX : Type} {post : S → Prop} {px : SX → Prop} {B : S → State → Prop} {BX : String → SX → State → Prop} {AX : Nat → Prop} (hr : vx_Run p l e R s m args below meth c H locs cells slots mc ms (F0 m pc ls st0) rest (va_Qv post B A1 a) (vx_X px BX AX) free) (hS : va_S A0 H0 H locs) (hA : ∀ q, q < H.size → A1 q → A0 q) (hf : ∀ q, free q → A0 q) (hAX : ∀ q, q < H.size → AX q → A0 q)
    (kx : ∀ (E : String) (ce : Cell) (q9 : Addr) (u : SX) (t : State) (H1 : Heap) (locs1 : List Loc), t.heap = H1 → s.vm.Alike t.vm → px u → BX E u t → H.size ≤ H1.size → (∀ q : Nat, q < H.size → ¬ AX q → H1[q]? = H[q]?) → va_S A0 H0 H1 locs1 → H1[q9]? = some ce → ce.vm = .none → s.vm.findClass E = some ce.cls → vx_W p l e R s m args below meth c H1 locs1 (cells + mc) (slots + ms) Q (F0 m pc ls rest) q9)
    (kk : ∀ (u : S) (t : State) (H1 : Heap) (locs1 : List Loc), t.heap = H1 → s.vm.Alike t.vm → post u → B u t → H.size ≤ H1.size → (∀ q : Nat, q < H.size → ¬ A1 q → H1[q]? = H[q]?) → va_S A0 H0 H1 locs1 → W p l e R s m args below meth c H1 locs1 (cells + mc) (slots + ms) Q (F0 m (pc + 3) ls (rest))) : W p l e R s m args below meth c H locs cells slots Q (F0 m pc ls st0) := by
  intro T hT X
  rcases hr T hT X with ⟨v, st₀, t, T', L, h0, X', hL, e1, e2, ⟨⟨u, hv, hp, hb⟩, hF⟩, st⟩ | ⟨q, st₀, t, T', L, E, ce, h0, X', hL, e1, e2, ⟨u, hp, hb, hF⟩, hce, hcv, hcl, st⟩
  · cases hv
    obtain ⟨k1, k2, k3⟩ := vx_keep h0 e1 hS hA hf hL hF
    obtain ⟨t2, a1, b1⟩ := kk u t T'.heap (locs ++ L) e1.symm (by rw [← e2]; exact X'.warmed.alike) hp hb k1 k2 k3 T' rfl X'
    exact ⟨t2, st t2 a1, b1⟩
  · obtain ⟨k1, k2, k3⟩ := vx_keep h0 e1 hS hAX hf hL hF
    obtain ⟨t2, a1, b1⟩ := kx E ce q u t T'.heap (locs ++ L) e1.symm (by rw [← e2]; exact X'.warmed.alike) hp hb k1 k2 k3 (by rw [e1]; exact hce) hcv hcl T' rfl X'
    exact ⟨t2, st.trans a1, b1⟩
/-- caught by the row x of this method's table; the rows ahead don't take it -/
theorem vx_catch {own name : String} {E : String} {ce : Cell} {q : Addr} (hown : s.vm.findClass own = some m.cls) (pre : List ExceptionTableEntry) (x : ExceptionTableEntry) (suf : List ExceptionTableEntry) (hsplit : c.exceptionTable.toList = pre ++ x :: suf)
    (hpass : ∀ z ∈ pre, covers z pc = false ∨ (z.catchType ≠ 0 ∧ ∃ nm : String, (Cond.classLink own z.catchType nm).before args s = true ∧ va_Nc E nm s)) (hx : covers x pc = true) (h0 : x.catchType ≠ 0)
    (hlink : (Cond.classLink own x.catchType name).before args s = true) (hcast : (Cond.castable E name).before args s = true) (hcell : H[q]? = some ce) (hv : ce.vm = .none) (hcl : s.vm.findClass E = some ce.cls)
    (kk : W p l e R s m args below meth c H locs cells slots Q (F0 m x.handlerPc ls [.ref q])) : vx_W p l e R s m args below meth c H locs cells slots Q (F0 m pc ls rest) q := by
  intro T hT X
  have hpl : e.platform.magicAccessors = ({} : Platform).magicAccessors := by rw [X.admits.platform]
  obtain ⟨c3, c4, hc3, hc4, hasg⟩ := Cond.castable_spec hcast
  cases Option.some.inj (hc3.symm.trans hcl)
  obtain ⟨c5, hc5, hcl5⟩ := Cond.classLink_spec hown hlink e.platform hpl
  cases Option.some.inj (hc4.symm.trans hc5)
  obtain ⟨vm', X', st⟩ := X.thenCaughtThrough q (g := F0 m pc ls rest) rfl (Steps.refl _) (by rw [hT]; exact hcell) (by rw [hv]; rfl) (by obtain ⟨k9, h9, -⟩ := Vm.findClass_spec hcl; exact ⟨k9, h9⟩) pre x suf hsplit
    (fun z hz => by
      rcases hpass z hz with h | ⟨hz0, nm, hl1, hn1⟩
      · exact Or.inl h
      · obtain ⟨c6, hc6, hcl6⟩ := Cond.classLink_spec hown hl1 e.platform hpl
        obtain ⟨a8, b8, h1, h2, h3⟩ := hn1
        cases Option.some.inj (h1.symm.trans hcl)
        cases Option.some.inj (h2.symm.trans hc6)
        exact Or.inr ⟨hz0, _, hcl6, h3⟩) hx (Or.inr ⟨h0, c4, hcl5, hasg⟩)
  obtain ⟨t, a1, b1⟩ := kk (T.setVm vm') hT X'
  exact ⟨t, st.trans a1, b1⟩
end Rows
section Ends
variable {p : Program} {l : Launch} {e : Env} {R : Room} {s : State} {m : MethodId} {args : Array Value} {below : List Frame} {meth : Method} {c : Code} {H : Heap} {locs : List Loc} {cells slots : Nat} {Q : State → Prop}
variable {mc ms : Nat} {free : Addr → Prop} {A0 A1 : Nat → Prop} {H0 : Heap} {a : Array Value} {ls : Array Slot} {st0 rest : List Value}
variable {Qc : Array Value → State → Outcome → State → Prop} {XC : String → State → State → Prop}
/-- what a body that may throw owes at its end -/
def vx_MQ (below : List Frame) (Qc : Array Value → State → Outcome → State → Prop) (XC : String → State → State → Prop) (a : Array Value) (s : State) (mc ms : Nat) (free : Addr → Prop) : State → Prop := fun t =>
  ∃ o, t.status = .running ∧ Ended t below o ∧ vx_Q Qc XC mc ms free a s o t
theorem vx_ret {g : JFrame} {mc ms : Nat} (k : W p l e R s m args below meth c H locs cells slots (MQ below Qc args s mc ms free) g) : W p l e R s m args below meth c H locs cells slots (vx_MQ below Qc XC args s mc ms free) g := by
  intro T hT X
  obtain ⟨t, a1, o, b1, b2, b3, b4⟩ := k T hT X
  exact ⟨t, a1, o, b1, b2, Or.inl ⟨b3, b4⟩⟩
/-- not caught here: it goes on to the caller -/
theorem vx_widen {g : JFrame} {q : Addr} {k n : Nat} (h1 : cells ≤ k) (h2 : slots ≤ n) (kk : vx_W p l e R s m args below meth c H locs k n Q g q) : vx_W p l e R s m args below meth c H locs cells slots Q g q := fun T hT X => kk T hT (stand_widen X h1 h2)
theorem vx_out {pc : Nat} {E : String} {ce : Cell} {q : Addr} {mc ms : Nat} (hout : ∀ x ∈ c.exceptionTable.toList, covers x pc = false) (hlocks : meth.locks = false) (hcell : H[q]? = some ce) (hv : ce.vm = .none) (hcl : s.vm.findClass E = some ce.cls)
    (hx : ∀ t : State, t.heap = H → s.vm.Alike t.vm → XC E s t) (hf : ∀ z ∈ locs, free z.base) (hc : cells ≤ mc) (hs : slots ≤ ms) :
    vx_W p l e R s m args below meth c H locs cells slots (vx_MQ below Qc XC args s mc ms free) (F0 m pc ls rest) q := by
  intro T hT X
  obtain ⟨st1, hrun, hend, hW, hsm⟩ := X.leaveThrown q (g := F0 m pc ls rest) rfl rfl rfl hout hlocks
  have hcell9 : (T.setFrames (.throwing q :: below)).heap[q]? = some ce := by
    show T.heap[q]? = some ce
    rw [hT]; exact hcell
  exact ⟨_, st1, .threw q, hrun, hend, Or.inr ⟨q, rfl, E, ce, locs, hx _ hT hW.alike, hcell9, hv, hcl, hW, hsm.mono hc hs, hf⟩⟩
theorem vx_frame {U : State} {k n : Nat} (h : s.sameButNew ({ U with vm := s.vm } : State) locs k n) : s.heap.size ≤ U.heap.size ∧ ∀ q : Nat, q < s.heap.size → (∀ z ∈ locs, z.base ≠ q) → U.heap[q]? = s.heap[q]? := by
  obtain ⟨-, h2, -, -, -, h6⟩ := h
  refine ⟨h2, fun q hq hz => ?_⟩
  obtain ⟨c9, e1, e2, e3, e4⟩ := h6 q _ (Array.getElem?_eq_getElem hq)
  have hs : c9.slots = (s.heap[q]).slots := Array.ext_getElem? fun i => e4 i fun hm => hz _ hm rfl
  have h9 : c9 = s.heap[q] := by
    rw [hs] at e2
    exact e2
  have e5 : U.heap[q]? = some c9 := e1
  rw [e5, h9, Array.getElem?_eq_getElem hq]
/-- the words of a throw but the four that speak of the heap -/
def vx_no (w : Cond) : Bool := decide (w ≠ .isRef (.static Bundle.tN "UNASSIGNED_STACK" Bundle.steD)) && decide (w ≠ .isRef (.static Bundle.tN "SUPPRESSED_SENTINEL" Bundle.listD)) && decide (w ≠ .laysStatic Bundle.tN "UNASSIGNED_STACK" Bundle.steD) && decide (w ≠ .laysStatic Bundle.tN "SUPPRESSED_SENTINEL" Bundle.listD)
def vx_at0 (own : String) (ic : Nat) (X : String) (names : List String) : List Cond := (Bundle.ownAtoms0 own ic X names).filter vx_no
def vx_atS (own : String) (ic : Nat) (X : String) (names : List String) : List Cond := (Bundle.ownAtoms own ic X names).filter vx_no
/-- a word that the tables alone decide, or a good one -/
def vx_ot (w : Cond) : Bool := w.onTables || goodWord w
theorem vx_ot_at {args a' : Array Value} {s U : State} {w : Cond} (hW : s.WarmedH U.vm) (hvm : s.vm = U.vm) (hg : vx_ot w = true) (h : w.before args s = true) : w.before a' U = true := by
  simp only [vx_ot, Bool.or_eq_true] at hg
  rcases hg with hg | hg
  · exact va_tabs hg hvm h
  · exact word_at hW (good_of_word hg) h
/-- a list's words: the good ones out of the method's own list, the others by premises of their own -/
theorem vx_hat {args : Array Value} {s : State} {L B : List Cond} (h1 : ∀ w ∈ L.filter goodWord, w.before args s = true) (h2 : ∀ w ∈ L.filter (fun w => !goodWord w), w ∈ B) (h3 : ∀ w ∈ B, w.before args s = true) : ∀ w ∈ L, w.before args s = true := by
  intro w hw
  by_cases g : goodWord w = true
  · exact h1 w (List.mem_filter.mpr ⟨hw, g⟩)
  · refine h3 w (h2 w (List.mem_filter.mpr ⟨hw, ?_⟩))
    show (!goodWord w) = true
    cases hgw : goodWord w
    · rfl
    · exact absurd hgw g
theorem vx_c {args : Array Value} {s : State} {w : Cond} {B : List Cond} (h : w.before args s = true) (t : ∀ w ∈ B, w.before args s = true) : ∀ w' ∈ w :: B, w'.before args s = true := fun w' h' => (List.mem_cons.mp h').elim (fun e => by rw [e]; exact h) (t w')
theorem vx_n {args : Array Value} {s : State} : ∀ w ∈ ([] : List Cond), w.before args s = true := fun _ h => nomatch h
theorem vx_own {args : Array Value} {s : State} {L : List Cond} (h1 : ∀ w ∈ L.filter vx_no, w.before args s = true)
    (hU : (Cond.isRef (.static Bundle.tN "UNASSIGNED_STACK" Bundle.steD)).before args s = true) (hN : (Cond.isRef (.static Bundle.tN "SUPPRESSED_SENTINEL" Bundle.listD)).before args s = true)
    (lU : (Cond.laysStatic Bundle.tN "UNASSIGNED_STACK" Bundle.steD).before args s = true) (lN : (Cond.laysStatic Bundle.tN "SUPPRESSED_SENTINEL" Bundle.listD).before args s = true) : ∀ w ∈ L, w.before args s = true := by
  intro w hw
  by_cases e1 : w = .isRef (.static Bundle.tN "UNASSIGNED_STACK" Bundle.steD)
  · rw [e1]; exact hU
  · by_cases e2 : w = .isRef (.static Bundle.tN "SUPPRESSED_SENTINEL" Bundle.listD)
    · rw [e2]; exact hN
    · by_cases e3 : w = .laysStatic Bundle.tN "UNASSIGNED_STACK" Bundle.steD
      · rw [e3]; exact lU
      · by_cases e4 : w = .laysStatic Bundle.tN "SUPPRESSED_SENTINEL" Bundle.listD
        · rw [e4]; exact lN
        · exact h1 w (List.mem_filter.mpr ⟨hw, by unfold vx_no; rw [decide_eq_true e1, decide_eq_true e2, decide_eq_true e3, decide_eq_true e4]; rfl⟩)
/-- where a static field lies, its class's statics cell in H -/
def vx_L (C n d : String) (A : Nat → Prop) (U : State) (H : Heap) : Prop := ∃ (c : ClassId) (k : Class) (i : Nat) (f : Field) (a : Nat) (cell : Cell), U.vm.findClass C = some c ∧ U.fieldFound? C n d = some (c, k, i, f) ∧ f.isStatic = true ∧ k.statics = some a ∧ H[a]? = some cell ∧ cell.vm.isStatics = true ∧ cell.cls = c ∧ f.slot < cell.slots.size ∧ k.staticTypes[f.slot]? = some f.type ∧ ¬ A a
theorem vx_L.moved {C n d : String} {A : Nat → Prop} {u U : State} {H : Heap} (hvm : u.vm.Alike U.vm) (h : vx_L C n d A u H) : vx_L C n d A U H := by
  obtain ⟨c, k, i, f, a, cell, h1, h2, h3, h4, h5, h6, h7, h8, h9, h10⟩ := h
  obtain ⟨k', hi', he⟩ := State.fieldFound?_setVm hvm h2
  exact ⟨c, k', i, f, a, cell, by rw [hvm.findClass]; exact h1, hi', h3, by rw [he]; exact h4, h5, h6, h7, h8, by rw [he]; exact h9, h10⟩
theorem vx_L.kept {C n d : String} {A : Nat → Prop} {U : State} {H H1 : Heap} (h : vx_L C n d A U H) (hq : ∀ a : Nat, a < H.size → ¬ A a → H1[a]? = H[a]?) : vx_L C n d A U H1 := by
  obtain ⟨c, k, i, f, a, cell, h1, h2, h3, h4, h5, h6, h7, h8, h9, h10⟩ := h
  exact ⟨c, k, i, f, a, cell, h1, h2, h3, h4, by rw [hq a (Array.getElem?_eq_some_iff.mp h5).1 h10]; exact h5, h6, h7, h8, h9, h10⟩
theorem vx_L.narrow {C n d : String} {A B : Nat → Prop} {U : State} {H : Heap} (h : vx_L C n d A U H) (hAB : ∀ q, B q → A q) : vx_L C n d B U H := by
  obtain ⟨c, k, i, f, a, cell, h1, h2, h3, h4, h5, h6, h7, h8, h9, h10⟩ := h
  exact ⟨c, k, i, f, a, cell, h1, h2, h3, h4, h5, h6, h7, h8, h9, fun z => h10 (hAB _ z)⟩
theorem vx_L.word {C n d : String} {A : Nat → Prop} {s : State} {args : Array Value} (h : vx_L C n d A s s.heap) : (Cond.laysStatic C n d).before args s = true := by
  obtain ⟨c, k, i, f, a, cell, h1, h2, h3, h4, h5, h6, h7, h8, h9, -⟩ := h
  show (Cond.laysStatic C n d).holds args s none s [] = true
  exact Cond.laysStatic_of h1 h2 h3 h4 h5 h6 h7 h8 h9
/-- .. and what it holds: null or some reference -/
def vx_Zq (C n d : String) (A : Nat → Prop) (U : State) (H : Heap) : Prop := va_Zq C n d A U H ∧ vx_L C n d A U H
theorem vx_Zq.moved {C n d : String} {A : Nat → Prop} {u U : State} {H : Heap} (hvm : u.vm.Alike U.vm) (h : vx_Zq C n d A u H) : vx_Zq C n d A U H := ⟨va_Zq.moved hvm h.1, vx_L.moved hvm h.2⟩
theorem vx_Zq.kept {C n d : String} {A : Nat → Prop} {U : State} {H H1 : Heap} (h : vx_Zq C n d A U H) (hq : ∀ a : Nat, a < H.size → ¬ A a → H1[a]? = H[a]?) : vx_Zq C n d A U H1 := ⟨va_Zq.kept h.1 hq, vx_L.kept h.2 hq⟩
theorem vx_Zq.narrow {C n d : String} {A B : Nat → Prop} {U : State} {H : Heap} (h : vx_Zq C n d A U H) (hAB : ∀ q, B q → A q) : vx_Zq C n d B U H := ⟨va_Zq.narrow h.1 hAB, vx_L.narrow h.2 hAB⟩
theorem vx_Zqof {args : Array Value} {s : State} {C n d : String} {A : Nat → Prop} (hl : (Cond.laysStatic C n d).before args s = true) (hini : (Cond.initialized C).before args s = true) (h : (Cond.isRef (.static C n d)).before args s = true) (hA : ∀ a : Nat, a < s.heap.size → ¬ A a) : vx_Zq C n d A s s.heap := by
  refine ⟨va_Zqof hl hini h hA, ?_⟩
  obtain ⟨c, k, i, f, a, cell, h1, h2, h3, h4, h5, h6, h7, h8, h9⟩ := Cond.laysStatic_spec hl
  exact ⟨c, k, i, f, a, cell, h1, h2, h3, h4, h5, h6, h7, h8, h9, hA a (Array.getElem?_eq_some_iff.mp h5).1⟩
theorem vx_isRef {C n d : String} {v : Value} {A : Nat → Prop} {s : State} {args : Array Value} (h : va_Z C n d v A s s.heap) (hv : v.isRef = true) : (Cond.isRef (.static C n d)).before args s = true := by
  obtain ⟨cf, kf, fi, f, a, cell, h1, h2, h3, h4, h5, h6, h7, -⟩ := h
  have he : (Term.static C n d).eval args s none [] s = some v := by
    simp [Term.eval, State.fieldNamed?, h1, h2, h4, h5, h6, h7]
  simp only [Cond.before, Cond.holds, Cond.value, he]
  cases v <;> simp_all [Value.isRef]
theorem vx_isRefq {C n d : String} {A : Nat → Prop} {s : State} {args : Array Value} (h : va_Zq C n d A s s.heap) : (Cond.isRef (.static C n d)).before args s = true := by
  rcases h with h | ⟨t, h⟩
  · exact vx_isRef h rfl
  · exact vx_isRef h rfl
/-- the same frame, seen from here: as if the method were called anew in this heap -/
theorem vx_rebase {T : State} (X : Stand p l e R s m args below meth c T locs cells slots) {R' : Room} (hf : R'.frames ≤ R.frames) (hl : R'.locals ≤ R.locals) (hc : cells + R'.cells ≤ R.cells) (hs : slots + R'.slots ≤ R.slots) :
    Stand p l e R' ((T.setVm s.vm).setFrames (.invoking m args :: below)) m args below meth c T [] 0 0 := by
  have htop : (T.setVm s.vm).topJava?.isSome := X.here.top
  have hF : ((T.setVm s.vm).setFrames (.invoking m args :: below)).frames = .invoking m args :: below := State.frames_setFrames _ (State.cur_lt_of_top htop)
  obtain ⟨g₀, hg0⟩ := Option.isSome_iff_exists.mp htop
  obtain ⟨r, hr⟩ := State.topJava?_eq_some.mp hg0
  have hl9 : e.platform.stackLimits (T.setVm s.vm).me = e.platform.stackLimits s.me := X.limits
  have hb9 : (T.setVm s.vm).me.stackBytes = s.me.stackBytes := X.bytes
  refine ⟨X.admits, X.cas, X.clock, hF, ?_, X.hears, X.method, X.code, X.here, X.tail, X.warmed, ?_, ?_, ?_⟩
  · have h := X.room
    have hU : ((T.setVm s.vm).setFrames (.invoking m args :: below)).localsInUse = s.localsInUse := by
      rw [State.localsInUse_invoking hF (meth := meth) (c := c) X.method X.code, State.localsInUse_invoking X.frames X.method X.code]
    simp only [State.hasRoom, Bool.and_eq_true, decide_eq_true_eq] at h ⊢
    obtain ⟨⟨⟨⟨h1, h2, h3, h4, h5, h6⟩, h7⟩, h8⟩, h9⟩ := h
    rw [X.frames, List.length_cons] at h2 h3
    have q1 := X.heapSize
    have q2 := X.used
    simp only [hF, hU, List.length_cons, State.stackLimits_setFrames, State.stackBytes_setFrames, hl9, hb9]
    refine ⟨⟨⟨⟨by omega, by omega, by omega, by omega, by omega, h6⟩, ?_⟩, ?_⟩, X.book⟩
    · show T.heap.size + R'.cells ≤ e.platform.maxCells
      omega
    · show T.slotsUsed + R'.slots ≤ e.platform.maxSlots
      omega
  · rw [State.stackLimits_setFrames]; rfl
  · rw [State.stackBytes_setFrames]; rfl
  · refine ⟨?_, Nat.le_refl _, Nat.le_refl _, ?_, ?_, fun a c9 h9 => ⟨c9, h9, rfl, rfl, fun _ _ => rfl⟩⟩
    · obtain ⟨t, ht, -⟩ := State.frames_cons hr
      show T.setVm s.vm = { ((T.setVm s.vm).setFrames (.invoking m args :: below)).setFrames (T.setVm s.vm).frames with heap := T.heap, slotsUsed := T.slotsUsed }
      rw [State.setFrames_setFrames, State.setFrames_self ht]
      rfl
    · show T.slotsUsed = T.slotsUsed + ((T.heap.toList.drop T.heap.size).map (·.slots.size)).sum
      rw [List.drop_eq_nil_of_le (Nat.le_of_eq Array.length_toList)]
      rfl
    · show ((T.heap.toList.drop T.heap.size).map (·.slots.size)).sum ≤ 0
      rw [List.drop_eq_nil_of_le (Nat.le_of_eq Array.length_toList)]
      exact Nat.le_refl _
/-- 'throw new E()': new; dup; invokespecial; athrow -/
theorem vx_throw0 {cc : ByteArray} {pc : Nat} (hexec : p.tables.exec = Jvm.exec) (hb : c.code = cc) (hl : l.stackTraces = false) {own cls : String} {names : List String} {ik ic mc ms : Nat} {A : Nat → Prop}
    (hown : s.vm.findClass own = some m.cls) (hcls : Bundle.fit cls = true) (hnames : ∀ n ∈ names, Bundle.fit n = true)
    (hk : (Cond.classLink own ik cls).before args s = true) (hini : (Cond.initialized cls).before args s = true) (hat : ∀ w ∈ vx_at0 own ic cls names, w.before args s = true)
    (hgood : ∀ w ∈ Cond.classLink own ik cls :: Cond.initialized cls :: vx_at0 own ic cls names, vx_ot w = true)
    (hU : vx_Zq Bundle.tN "UNASSIGNED_STACK" Bundle.steD A s s.heap) (hN : vx_Zq Bundle.tN "SUPPRESSED_SENTINEL" Bundle.listD A s s.heap) (hS : va_S A s.heap H locs) (hsize : ls.size = c.maxLocals)
    (d0 : decode cc pc = .ok (.new ik, 3)) (d3 : decode cc (pc + 3) = .ok (.dup, 1)) (d4 : decode cc (pc + 4) = .ok (.invokespecial ic, 3)) (d7 : decode cc (pc + 7) = .ok (.athrow, 1))
    (hout : ∀ x ∈ c.exceptionTable.toList, covers x (pc + 7) = false)
    (hRframes : names.length + 3 < R.frames) (hRlocals : (rest.map fun v => v.category).sum + (13 * (names.length + 1) + 42) ≤ R.locals) (hRcells : cells + 1 ≤ R.cells) (hRslots : slots + 6 ≤ R.slots) (hlocks : meth.locks = false)
    (hx : ∀ t : State, s.vm.Alike t.vm → H.size ≤ t.heap.size → (∀ q : Nat, q < H.size → t.heap[q]? = H[q]?) → XC cls s t)
    (hf : ∀ z ∈ locs, free z.base) (hc : cells + 1 ≤ mc) (hs : slots + 6 ≤ ms) :
    W p l e R s m args below meth c H locs cells slots (vx_MQ below Qc XC args s mc ms free) (F0 m pc ls rest) := by
  intro T hT X
  have htr : e.platform.stackTraces = false := (show e.platform.stackTraces = l.stackTraces by rw [X.admits.platform]).trans hl
  have Y := vx_rebase X (R' := { frames := R.frames, locals := R.locals, cells := 1, slots := 6 }) (Nat.le_refl _) (Nat.le_refl _) hRcells hRslots
  obtain ⟨s', hA⟩ : ∃ z, z = (T.setVm s.vm).setFrames (.invoking m args :: below) := ⟨_, rfl⟩
  rw [← hA] at Y
  have hvm : s'.vm = s.vm := by rw [hA]; rfl
  have hhp : s'.heap = H := by rw [hA]; exact hT
  have hW0 : s.WarmedH s'.vm := by rw [hvm]; exact State.WarmedH.refl s
  have hat' : ∀ w ∈ vx_at0 own ic cls names, w.before args s' = true := fun w hw => vx_ot_at hW0 hvm.symm (hgood w (List.mem_cons_of_mem _ (List.mem_cons_of_mem _ hw))) (hat w hw)
  have hk' : (Cond.classLink own ik cls).before args s' = true := vx_ot_at hW0 hvm.symm (hgood _ List.mem_cons_self) hk
  have hini' : (Cond.initialized cls).before args s' = true := vx_ot_at hW0 hvm.symm (hgood _ (List.mem_cons_of_mem _ List.mem_cons_self)) hini
  have hU' : vx_Zq Bundle.tN "UNASSIGNED_STACK" Bundle.steD A s' s'.heap := by rw [hhp]; exact vx_Zq.moved hW0.alike (hU.kept hS.2.1)
  have hN' : vx_Zq Bundle.tN "SUPPRESSED_SENTINEL" Bundle.listD A s' s'.heap := by rw [hhp]; exact vx_Zq.moved hW0.alike (hN.kept hS.2.1)
  have h : ∀ w ∈ Bundle.ownAtoms0 own ic cls names, w.before args s' = true := vx_own hat' (vx_isRefq hU'.1) (vx_isRefq hN'.1) hU'.2.word hN'.2.word
  have hown' : s'.vm.findClass own = some m.cls := by rw [hvm]; exact hown
  have hins : (Cond.instantiable cls 6).before args s' = true := h _ (by simp [Bundle.ownAtoms0])
  obtain ⟨vm₁, cX, kX, hfX, hkX, -, -, X₁, st1⟩ := Y.newCold hexec (own := own) (C := cls) (index := ik) (n := 6) hown' hk' hins hini'
    (g := F0 m pc ls rest) rfl (by rw [hb]; exact d0) (Nat.le_refl _) (Nat.le_refl _)
  generalize hT1 : (T.setVm vm₁).pushCell { cls := cX, slots := kX.instanceTypes.map defaultValue, vm := .none } = T1 at X₁ st1
  have hcat : (Value.ref T.heap.size).category = 1 := rfl
  have hcellA : T1.heap[T.heap.size]? = some (freshCell cX kX) := by rw [← hT1]; exact State.heap_pushCell_size _ _
  have d3' : decode c.code (pc + 3) = .ok (.dup, 1) := by rw [hb]; exact d3
  obtain ⟨U, hsteps, hrun, hend, hW, hsame, ce, hce, hO⟩ := X₁.ctorThrow0 hexec htr (own := own) (cls := cls) (names := names) (ic := ic) hown' hcls hnames h (fun x hx => nomatch hx) hfX hkX hcellA (by rw [hhp, hT]; exact Nat.le_refl _)
    (g := { method := m, pc := pc + 4, locals := ls, stack := .ref T.heap.size :: .ref T.heap.size :: rest, locked := none }) rfl hsize rfl rfl (rest := rest) rfl
    (by rw [hb]; exact d4) (by rw [hb]; exact d7) hout hRframes (by simp only [List.map_cons, List.sum_cons, hcat]; omega) hlocks
  obtain ⟨f1, f2⟩ := vx_frame hsame
  rw [hhp] at f1 f2
  have hWs : s.WarmedH U.vm := State.WarmedH.trans hW0 hW
  have hcl : s.vm.findClass cls = some ce.cls := by
    have h9 := hO.cls
    rw [hvm] at h9
    exact h9
  have hall : s.sameButNew ({ U with vm := s.vm } : State) locs mc ms := by
    subst hA
    obtain ⟨e1, e2⟩ := hsame
    rw [State.setFrames_setFrames] at e1
    have h2 : (T.setVm s.vm).sameButNew ({ U with vm := s.vm } : State) [] (0 + 1) (0 + 6) := ⟨e1, e2⟩
    have h3 := X.same.trans h2
    rw [List.append_nil] at h3
    exact h3.mono hc hs
  refine ⟨U, ?_, .threw T.heap.size, hrun, hend, Or.inr ⟨T.heap.size, rfl, cls, ce, locs, hx U hWs.alike f1 (fun q hq => f2 q hq (fun z hz => nomatch hz)), hce, hO.vm, hcl, hWs, hall, hf⟩⟩
  refine st1 _ ?_
  show Steps p.tables e below (T1.setTop { method := m, pc := pc + 3, locals := ls, stack := .ref T.heap.size :: rest, locked := none }) _
  jvm_step X₁.here [X₁.here.top, hexec, d3', Value.category]
  exact hsteps
/-- 'throw new E("text")': new; dup; ldc; invokespecial; athrow -/
theorem vx_throwS {cc : ByteArray} {pc : Nat} (hexec : p.tables.exec = Jvm.exec) (hb : c.code = cc) (hl : l.stackTraces = false) {own cls text : String} {names : List String} {ik is ic mc ms sa : Nat} {A : Nat → Prop}
    (hown : s.vm.findClass own = some m.cls) (hcls : Bundle.fit cls = true) (hnames : ∀ n ∈ names, Bundle.fit n = true)
    (hk : (Cond.classLink own ik cls).before args s = true) (hini : (Cond.initialized cls).before args s = true) (hstr : vk_R own is text sa s) (hat : ∀ w ∈ vx_atS own ic cls names, w.before args s = true)
    (hgood : ∀ w ∈ Cond.classLink own ik cls :: Cond.initialized cls :: vx_atS own ic cls names, vx_ot w = true)
    (hU : vx_Zq Bundle.tN "UNASSIGNED_STACK" Bundle.steD A s s.heap) (hN : vx_Zq Bundle.tN "SUPPRESSED_SENTINEL" Bundle.listD A s s.heap) (hS : va_S A s.heap H locs) (hsize : ls.size = c.maxLocals)
    (d0 : decode cc pc = .ok (.new ik, 3)) (d3 : decode cc (pc + 3) = .ok (.dup, 1)) (d4 : decode cc (pc + 4) = .ok (.ldc is, 2)) (d6 : decode cc (pc + 6) = .ok (.invokespecial ic, 3)) (d9 : decode cc (pc + 9) = .ok (.athrow, 1))
    (hout : ∀ x ∈ c.exceptionTable.toList, covers x (pc + 9) = false)
    (hRframes : names.length + 3 < R.frames) (hRlocals : (rest.map fun v => v.category).sum + (13 * (names.length + 1) + 43) ≤ R.locals) (hRcells : cells + 1 ≤ R.cells) (hRslots : slots + 6 ≤ R.slots) (hlocks : meth.locks = false)
    (hx : ∀ t : State, s.vm.Alike t.vm → H.size ≤ t.heap.size → (∀ q : Nat, q < H.size → t.heap[q]? = H[q]?) → XC cls s t)
    (hf : ∀ z ∈ locs, free z.base) (hc : cells + 1 ≤ mc) (hs : slots + 6 ≤ ms) :
    W p l e R s m args below meth c H locs cells slots (vx_MQ below Qc XC args s mc ms free) (F0 m pc ls rest) := by
  intro T hT X
  have htr : e.platform.stackTraces = false := (show e.platform.stackTraces = l.stackTraces by rw [X.admits.platform]).trans hl
  have Y := vx_rebase X (R' := { frames := R.frames, locals := R.locals, cells := 1, slots := 6 }) (Nat.le_refl _) (Nat.le_refl _) hRcells hRslots
  obtain ⟨s', hA⟩ : ∃ z, z = (T.setVm s.vm).setFrames (.invoking m args :: below) := ⟨_, rfl⟩
  rw [← hA] at Y
  have hvm : s'.vm = s.vm := by rw [hA]; rfl
  have hhp : s'.heap = H := by rw [hA]; exact hT
  have hW0 : s.WarmedH s'.vm := by rw [hvm]; exact State.WarmedH.refl s
  have hat' : ∀ w ∈ vx_atS own ic cls names, w.before args s' = true := fun w hw => vx_ot_at hW0 hvm.symm (hgood w (List.mem_cons_of_mem _ (List.mem_cons_of_mem _ hw))) (hat w hw)
  have hk' : (Cond.classLink own ik cls).before args s' = true := vx_ot_at hW0 hvm.symm (hgood _ List.mem_cons_self) hk
  have hini' : (Cond.initialized cls).before args s' = true := vx_ot_at hW0 hvm.symm (hgood _ (List.mem_cons_of_mem _ List.mem_cons_self)) hini
  have hU' : vx_Zq Bundle.tN "UNASSIGNED_STACK" Bundle.steD A s' s'.heap := by rw [hhp]; exact vx_Zq.moved hW0.alike (hU.kept hS.2.1)
  have hN' : vx_Zq Bundle.tN "SUPPRESSED_SENTINEL" Bundle.listD A s' s'.heap := by rw [hhp]; exact vx_Zq.moved hW0.alike (hN.kept hS.2.1)
  have h : ∀ w ∈ Bundle.ownAtoms own ic cls names, w.before args s' = true := vx_own hat' (vx_isRefq hU'.1) (vx_isRefq hN'.1) hU'.2.word hN'.2.word
  have hown' : s'.vm.findClass own = some m.cls := by rw [hvm]; exact hown
  have hins : (Cond.instantiable cls 6).before args s' = true := h _ (by simp [Bundle.ownAtoms])
  obtain ⟨vm₁, cX, kX, hfX, hkX, -, -, X₁, st1⟩ := Y.newCold hexec (own := own) (C := cls) (index := ik) (n := 6) hown' hk' hins hini'
    (g := F0 m pc ls rest) rfl (by rw [hb]; exact d0) (Nat.le_refl _) (Nat.le_refl _)
  generalize hT1 : (T.setVm vm₁).pushCell { cls := cX, slots := kX.instanceTypes.map defaultValue, vm := .none } = T1 at X₁ st1
  have hcat : (Value.ref T.heap.size).category = 1 := rfl
  have hcellA : T1.heap[T.heap.size]? = some (freshCell cX kX) := by rw [← hT1]; exact State.heap_pushCell_size _ _
  have d3' : decode c.code (pc + 3) = .ok (.dup, 1) := by rw [hb]; exact d3
  have d4' : decode c.code (pc + 4) = .ok (.ldc is, 2) := by rw [hb]; exact d4
  have hstr' : vk_R own is text sa s' := vk_R.warm hW0 hstr
  obtain ⟨U, hsteps, hrun, hend, hW, hsame, ce, hce, hO⟩ := X₁.ctorThrowS hexec htr (own := own) (cls := cls) (names := names) (ic := ic) hown' hcls hnames h (fun x hx => nomatch hx) hfX hkX hcellA (by rw [hhp, hT]; exact Nat.le_refl _) (msg := .ref sa) rfl
    (g := { method := m, pc := pc + 6, locals := ls, stack := .ref sa :: .ref T.heap.size :: .ref T.heap.size :: rest, locked := none }) rfl hsize rfl rfl (rest := rest) rfl
    (by rw [hb]; exact d6) (by rw [hb]; exact d9) hout hRframes (by simp only [List.map_cons, List.sum_cons, hcat]; omega) hlocks
  obtain ⟨f1, f2⟩ := vx_frame hsame
  rw [hhp] at f1 f2
  have hWs : s.WarmedH U.vm := State.WarmedH.trans hW0 hW
  have hcl : s.vm.findClass cls = some ce.cls := by
    have h9 := hO.cls
    rw [hvm] at h9
    exact h9
  have hall : s.sameButNew ({ U with vm := s.vm } : State) locs mc ms := by
    subst hA
    obtain ⟨e1, e2⟩ := hsame
    rw [State.setFrames_setFrames] at e1
    have h2 : (T.setVm s.vm).sameButNew ({ U with vm := s.vm } : State) [] (0 + 1) (0 + 6) := ⟨e1, e2⟩
    have h3 := X.same.trans h2
    rw [List.append_nil] at h3
    exact h3.mono hc hs
  refine ⟨U, ?_, .threw T.heap.size, hrun, hend, Or.inr ⟨T.heap.size, rfl, cls, ce, locs, hx U hWs.alike f1 (fun q hq => f2 q hq (fun z hz => nomatch hz)), hce, hO.vm, hcl, hWs, hall, hf⟩⟩
  refine st1 _ ?_
  show Steps p.tables e below (T1.setTop { method := m, pc := pc + 3, locals := ls, stack := .ref T.heap.size :: rest, locked := none }) _
  jvm_step X₁.here [X₁.here.top, hexec, d3', Value.category]
  exact X₁.ldcString hexec (own := own) (text := text) (index := is) (a := sa) hown' hstr'.1 hstr'.2
    (g := { method := m, pc := pc + 4, locals := ls, stack := .ref T.heap.size :: .ref T.heap.size :: rest, locked := none }) rfl d4' _ hsteps
/-- 'throw new E("text")', the text by a wide index -/
theorem vx_throwSW {cc : ByteArray} {pc : Nat} (hexec : p.tables.exec = Jvm.exec) (hb : c.code = cc) (hl : l.stackTraces = false) {own cls text : String} {names : List String} {ik is ic mc ms sa : Nat} {A : Nat → Prop}
    (hown : s.vm.findClass own = some m.cls) (hcls : Bundle.fit cls = true) (hnames : ∀ n ∈ names, Bundle.fit n = true)
    (hk : (Cond.classLink own ik cls).before args s = true) (hini : (Cond.initialized cls).before args s = true) (hstr : vk_R own is text sa s) (hat : ∀ w ∈ vx_atS own ic cls names, w.before args s = true)
    (hgood : ∀ w ∈ Cond.classLink own ik cls :: Cond.initialized cls :: vx_atS own ic cls names, vx_ot w = true)
    (hU : vx_Zq Bundle.tN "UNASSIGNED_STACK" Bundle.steD A s s.heap) (hN : vx_Zq Bundle.tN "SUPPRESSED_SENTINEL" Bundle.listD A s s.heap) (hS : va_S A s.heap H locs) (hsize : ls.size = c.maxLocals)
    (d0 : decode cc pc = .ok (.new ik, 3)) (d3 : decode cc (pc + 3) = .ok (.dup, 1)) (d4 : decode cc (pc + 4) = .ok (.ldc_w is, 3)) (d7 : decode cc (pc + 7) = .ok (.invokespecial ic, 3)) (d10 : decode cc (pc + 10) = .ok (.athrow, 1))
    (hout : ∀ x ∈ c.exceptionTable.toList, covers x (pc + 10) = false)
    (hRframes : names.length + 3 < R.frames) (hRlocals : (rest.map fun v => v.category).sum + (13 * (names.length + 1) + 43) ≤ R.locals) (hRcells : cells + 1 ≤ R.cells) (hRslots : slots + 6 ≤ R.slots) (hlocks : meth.locks = false)
    (hx : ∀ t : State, s.vm.Alike t.vm → H.size ≤ t.heap.size → (∀ q : Nat, q < H.size → t.heap[q]? = H[q]?) → XC cls s t)
    (hf : ∀ z ∈ locs, free z.base) (hc : cells + 1 ≤ mc) (hs : slots + 6 ≤ ms) :
    W p l e R s m args below meth c H locs cells slots (vx_MQ below Qc XC args s mc ms free) (F0 m pc ls rest) := by
  intro T hT X
  have htr : e.platform.stackTraces = false := (show e.platform.stackTraces = l.stackTraces by rw [X.admits.platform]).trans hl
  have Y := vx_rebase X (R' := { frames := R.frames, locals := R.locals, cells := 1, slots := 6 }) (Nat.le_refl _) (Nat.le_refl _) hRcells hRslots
  obtain ⟨s', hA⟩ : ∃ z, z = (T.setVm s.vm).setFrames (.invoking m args :: below) := ⟨_, rfl⟩
  rw [← hA] at Y
  have hvm : s'.vm = s.vm := by rw [hA]; rfl
  have hhp : s'.heap = H := by rw [hA]; exact hT
  have hW0 : s.WarmedH s'.vm := by rw [hvm]; exact State.WarmedH.refl s
  have hat' : ∀ w ∈ vx_atS own ic cls names, w.before args s' = true := fun w hw => vx_ot_at hW0 hvm.symm (hgood w (List.mem_cons_of_mem _ (List.mem_cons_of_mem _ hw))) (hat w hw)
  have hk' : (Cond.classLink own ik cls).before args s' = true := vx_ot_at hW0 hvm.symm (hgood _ List.mem_cons_self) hk
  have hini' : (Cond.initialized cls).before args s' = true := vx_ot_at hW0 hvm.symm (hgood _ (List.mem_cons_of_mem _ List.mem_cons_self)) hini
  have hU' : vx_Zq Bundle.tN "UNASSIGNED_STACK" Bundle.steD A s' s'.heap := by rw [hhp]; exact vx_Zq.moved hW0.alike (hU.kept hS.2.1)
  have hN' : vx_Zq Bundle.tN "SUPPRESSED_SENTINEL" Bundle.listD A s' s'.heap := by rw [hhp]; exact vx_Zq.moved hW0.alike (hN.kept hS.2.1)
  have h : ∀ w ∈ Bundle.ownAtoms own ic cls names, w.before args s' = true := vx_own hat' (vx_isRefq hU'.1) (vx_isRefq hN'.1) hU'.2.word hN'.2.word
  have hown' : s'.vm.findClass own = some m.cls := by rw [hvm]; exact hown
  have hins : (Cond.instantiable cls 6).before args s' = true := h _ (by simp [Bundle.ownAtoms])
  obtain ⟨vm₁, cX, kX, hfX, hkX, -, -, X₁, st1⟩ := Y.newCold hexec (own := own) (C := cls) (index := ik) (n := 6) hown' hk' hins hini'
    (g := F0 m pc ls rest) rfl (by rw [hb]; exact d0) (Nat.le_refl _) (Nat.le_refl _)
  generalize hT1 : (T.setVm vm₁).pushCell { cls := cX, slots := kX.instanceTypes.map defaultValue, vm := .none } = T1 at X₁ st1
  have hcat : (Value.ref T.heap.size).category = 1 := rfl
  have hcellA : T1.heap[T.heap.size]? = some (freshCell cX kX) := by rw [← hT1]; exact State.heap_pushCell_size _ _
  have d3' : decode c.code (pc + 3) = .ok (.dup, 1) := by rw [hb]; exact d3
  have d4' : decode c.code (pc + 4) = .ok (.ldc_w is, 3) := by rw [hb]; exact d4
  have hstr' : vk_R own is text sa s' := vk_R.warm hW0 hstr
  obtain ⟨U, hsteps, hrun, hend, hW, hsame, ce, hce, hO⟩ := X₁.ctorThrowS hexec htr (own := own) (cls := cls) (names := names) (ic := ic) hown' hcls hnames h (fun x hx => nomatch hx) hfX hkX hcellA (by rw [hhp, hT]; exact Nat.le_refl _) (msg := .ref sa) rfl
    (g := { method := m, pc := pc + 7, locals := ls, stack := .ref sa :: .ref T.heap.size :: .ref T.heap.size :: rest, locked := none }) rfl hsize rfl rfl (rest := rest) rfl
    (by rw [hb]; exact d7) (by rw [hb]; exact d10) hout hRframes (by simp only [List.map_cons, List.sum_cons, hcat]; omega) hlocks
  obtain ⟨f1, f2⟩ := vx_frame hsame
  rw [hhp] at f1 f2
  have hWs : s.WarmedH U.vm := State.WarmedH.trans hW0 hW
  have hcl : s.vm.findClass cls = some ce.cls := by
    have h9 := hO.cls
    rw [hvm] at h9
    exact h9
  have hall : s.sameButNew ({ U with vm := s.vm } : State) locs mc ms := by
    subst hA
    obtain ⟨e1, e2⟩ := hsame
    rw [State.setFrames_setFrames] at e1
    have h2 : (T.setVm s.vm).sameButNew ({ U with vm := s.vm } : State) [] (0 + 1) (0 + 6) := ⟨e1, e2⟩
    have h3 := X.same.trans h2
    rw [List.append_nil] at h3
    exact h3.mono hc hs
  refine ⟨U, ?_, .threw T.heap.size, hrun, hend, Or.inr ⟨T.heap.size, rfl, cls, ce, locs, hx U hWs.alike f1 (fun q hq => f2 q hq (fun z hz => nomatch hz)), hce, hO.vm, hcl, hWs, hall, hf⟩⟩
  refine st1 _ ?_
  show Steps p.tables e below (T1.setTop { method := m, pc := pc + 3, locals := ls, stack := .ref T.heap.size :: rest, locked := none }) _
  jvm_step X₁.here [X₁.here.top, hexec, d3', Value.category]
  exact X₁.ldcStringW hexec (own := own) (text := text) (index := is) (a := sa) hown' hstr'.1 hstr'.2
    (g := { method := m, pc := pc + 4, locals := ls, stack := .ref T.heap.size :: .ref T.heap.size :: rest, locked := none }) rfl d4' _ hsteps
end Ends
section Bodies
variable {l : Launch}
theorem vx_ofW {y : MethodName} {ws ws' : List Cond} {rm : Room} {Pc : Array Value → State → Prop} {Qc : Array Value → State → Outcome → State → Prop} {XC : String → State → State → Prop} {mc ms : Nat} {free : Addr → Prop} {cc : ByteArray} {maxL : Nat} {ret : Option FieldType}
    (hy : plainName y.cls = true) (hw : ws = Cond.code y cc maxL ret :: ws')
    (body : ∀ p e s m args below meth c s₁, BodyLoose p l y (headSpec ws rm) cc maxL ret e s m args below meth c s₁ → c.maxLocals = maxL → (∀ x ∈ c.exceptionTable.toList, False) → Pc args s →
      W p l e (headSpec ws rm).room s m args below meth c s.heap [] 0 0 (vx_MQ below Qc XC args s mc ms free) (entryFrame m args maxL)) : vx_Met l y ws rm Pc Qc XC mc ms free := by
  refine MetFree.of_bodyS (code := cc) (maxLocals := maxL) (ret := ret) hy ?_ ?_
  · intro args s m h hn
    obtain ⟨meth, c, h1, h2, h3, h4, h5, h6, -, -⟩ := Cond.code_spec hn (atoms_spec (ws := ws) h _ (by rw [hw]; exact List.mem_cons_self))
    exact ⟨meth, c, h1, h2, h3, h4, h5, h6⟩
  · intro p e s m args below meth c s₁ B hml hP _
    have hh0 : s₁.heap = s.heap := by rw [B.state]; rfl
    have ht : ∀ x ∈ c.exceptionTable.toList, False := by
      obtain ⟨meth9, c9, h1, h2, -, -, -, -, h7, -⟩ := Cond.code_spec B.named (atoms_spec (ws := ws) B.pre _ (by rw [hw]; exact List.mem_cons_self))
      cases Option.some.inj (h1.symm.trans B.method)
      cases Option.some.inj (h2.symm.trans (Stand.of_body B).code)
      intro x hx
      rw [Array.isEmpty_iff.mp h7] at hx
      cases hx
    obtain ⟨t, a1, o, b1, b2, b3⟩ := body p e s m args below meth c s₁ B hml ht hP s₁ hh0 (Stand.of_body B)
    exact ⟨t, o, a1, b1, b2, b3⟩
/-- the table of a body with handlers -/
theorem vx_table {p : Program} {x y : MethodName} {S : Spec} {cc bytes : ByteArray} {maxL maxL' : Nat} {ret ret' : Option FieldType} {e : Env} {s s₁ : State} {m : MethodId} {args : Array Value} {below : List Frame} {meth : Method} {c : Code} {hh : List (Nat × Nat × Nat × Nat)}
    (B : BodyLoose p l y S cc maxL ret e s m args below meth c s₁) (h : (Cond.codeWith y bytes maxL' ret' hh).before args s = true) : c.exceptionTable.toList = tableOf hh := by
  obtain ⟨m9, meth9, c9, hn9, h1, h2, -, -, h6, -⟩ := Cond.codeWith_spec h
  cases Option.some.inj (hn9.symm.trans B.named)
  cases Option.some.inj (h1.symm.trans B.method)
  cases Option.some.inj (h2.symm.trans (Stand.of_body B).code)
  rw [← h6, table_eq]
end Bodies
end VXA
/-! ===== END ===== -/
/-! ===== BEGIN a static call of a method with an exception table ===== -/
section VXS
variable {p : Program} {l : Launch} {e : Env} {R : Room} {s : State} {m : MethodId} {args : Array Value} {below : List Frame} {meth : Method} {c : Code} {T : State} {H : Heap} {locs : List Loc} {cells slots : Nat}
abbrev vx_CSW (R : Room) (s : State) (args : Array Value) (own : String) (index : Nat) (y : MethodName) (bytes : ByteArray) (maxL : Nat) (ret : Option FieldType) (hh : List (Nat × Nat × Nat × Nat)) (ws : List Cond) (rm : Room) (mc ms n : Nat) : Prop :=
  (rm.cells = mc ∧ rm.slots = ms ∧ rm.frames + 1 ≤ R.frames ∧ 8 + (maxL + 11) + rm.locals ≤ R.locals ∧ (∀ w ∈ ws, ∀ (a' : Array Value) (U : State), s.WarmedH U.vm → w.before a' U = true) ∧ Cond.codeWith y bytes maxL ret hh ∈ ws) ∧
  (Cond.codeWith y bytes maxL ret hh).before args s = true ∧ (Cond.initialized y.cls).before args s = true ∧ (y.cls ≠ "java/lang/invoke/MethodHandle" ∧ y.cls ≠ "java/lang/invoke/VarHandle") ∧
  (∀ sig, parseMethodDescriptor y.desc = some sig → n = sig.parameters.length) ∧ (Cond.methodLink own index y).before args s = true ∧ (Cond.static y).before args s = true
theorem vx_cwSW {own : String} {index maxL mc ms : Nat} {y : MethodName} {bytes : ByteArray} {ret : Option FieldType} {hh : List (Nat × Nat × Nat × Nat)} {Ts ws ws' : List Cond} {rm : Room} (n : Nat) (ht : ∀ w ∈ Ts, w.before args s = true) (hT : GoodIn Ts (va_wsS own index y ws)) (hw : ws = Cond.codeWith y bytes maxL ret hh :: ws') (hrc : rm.cells = mc) (hrs : rm.slots = ms)
    (hd : y.cls ≠ "java/lang/invoke/MethodHandle" ∧ y.cls ≠ "java/lang/invoke/VarHandle" ∧ (parseMethodDescriptor y.desc).map (fun d => d.parameters.length) = some n) (hR : rm.frames + 1 ≤ R.frames ∧ 8 + (maxL + 11) + rm.locals ≤ R.locals) :
    vx_CSW R s args own index y bytes maxL ret hh ws rm mc ms n := by
  have ok : ∀ w ∈ va_wsS own index y ws, w.before args s = true := fun w h => ht w (hT w h).1
  have hG : GoodIn Ts ws := fun w h => hT w (by unfold va_wsS; exact List.mem_append_right _ h)
  have hc : Cond.codeWith y bytes maxL ret hh ∈ ws := by rw [hw]; exact List.mem_cons_self
  refine ⟨⟨hrc, hrs, hR.1, hR.2, pay_in ht hG, hc⟩, ht _ (hG _ hc).1, ok _ (by simp [va_wsS]), ⟨hd.1, hd.2.1⟩, fun sig h => ?_, ok _ (by simp [va_wsS]), ok _ (by simp [va_wsS])⟩
  have h2 := hd.2.2
  rw [h] at h2
  exact (Option.some.inj h2).symm
theorem vx_callSW (X : Stand p l e R s m args below meth c T locs cells slots) (hexec : p.tables.exec = Jvm.exec) {own : String} {index : Nat} {y : MethodName} {bytes : ByteArray} {maxL : Nat} {ret : Option FieldType} {hh : List (Nat × Nat × Nat × Nat)}
    (hown : s.vm.findClass own = some m.cls) (hlink : (Cond.methodLink own index y).before args s = true) (hstat : (Cond.static y).before args s = true) (hinit : (Cond.initialized y.cls).before args s = true)
    (hcode : (Cond.codeWith y bytes maxL ret hh).before args s = true) (hy : y.cls ≠ "java/lang/invoke/MethodHandle" ∧ y.cls ≠ "java/lang/invoke/VarHandle")
    {W9 : Nat} {Pre : Pt → Array Value → Prop} {Post : Pt → Array Value → Option Value → Pt → Prop} (hK : Back l R p e below s args y 3 W9 Pre Post)
    {g : JFrame} (hg : g.method = m) (hsize : g.locals.size = c.maxLocals) {argsL rest : List Value} (hlen : ∀ sig, parseMethodDescriptor y.desc = some sig → argsL.length = sig.parameters.length)
    (hstack : g.stack = argsL.reverse ++ rest) (hW : 2 * g.monitorRoom + (rest.map fun v => v.category).sum ≤ W9) (hdg : decode c.code g.pc = .ok (.invokestatic index, 3))
    (hpre : ∀ vm₁, s.WarmedH vm₁ → Pre ⟨T.setVm vm₁, locs, cells, slots⟩ argsL.toArray) :
    ∃ (v : Option Value) (vm₁ : Vm) (B : Pt), s.WarmedH vm₁ ∧ Stand p l e R s m args below meth c B.U B.locs B.cells B.slots ∧ Post ⟨T.setVm vm₁, locs, cells, slots⟩ argsL.toArray v B ∧
      ∀ target, Steps p.tables e below (B.U.setTop { g with pc := g.pc + 3, stack := v.toList ++ rest }) target → Steps p.tables e below (T.setTop g) target := by
  obtain ⟨mk, methM, cM, hnamed, hmethM, -, -, -, -, -, -, hsigM⟩ := Cond.codeWith_spec hcode
  have hstatic : methM.isStatic = true := Cond.static_spec hnamed hmethM hstat
  obtain ⟨kP, hkP, -⟩ := className_of_methodNamed hnamed
  have hinitP : kP.init = .initialized := Cond.initialized_spec (findClass_of_methodNamed hnamed) hkP hinit
  obtain ⟨vm₁, X₁, hstep₁⟩ := X.invokestatic hexec hown hlink hnamed hmethM hstatic hkP hinitP hy (g := g) hg (argsL := argsL) (rest := rest) (hlen _ hsigM) hstack hdg
  obtain ⟨v, B, X', hpost, hsteps⟩ := hK m meth c ⟨T.setVm vm₁, locs, cells, slots⟩ { g with stack := rest } (.invokestatic index) mk argsL.toArray X₁ hg hsize hdg hW (X₁.named hnamed) (hpre vm₁ X₁.warmed)
  exact ⟨v, vm₁, B, X₁.warmed, X', hpost, fun target h => hstep₁ _ fun acts => by rw [doInvoke_state]; exact hsteps.trans h⟩
theorem vx_runSW {y : MethodName} {bytes cc : ByteArray} {maxL nL mc ms n index : Nat} {ret : Option FieldType} {hh : List (Nat × Nat × Nat × Nat)} {ws : List Cond} {rm : Room} {Pc : Array Value → State → Prop} {Qc : Array Value → State → Outcome → State → Prop} {free : Addr → Prop} {Ts : List Cond} {own : String} {As rest : List Value} {g : JFrame}
    (S : CallFix p m c cc nL s args Ts own) (hM : Met l y ws rm Pc Qc mc ms free) (cw : vx_CSW R s args own index y bytes maxL ret hh ws rm mc ms n) (hp : PreS s H Pc As)
    (hg : g.method = m) (hn : As.length = n) (hsize : g.locals.size = nL) (hstack : g.stack = As.reverse ++ rest) (hW : 2 * g.monitorRoom + (rest.map fun v => v.category).sum ≤ 8) (hdg : decode cc g.pc = .ok (.invokestatic index, 3)) (hf : cells + mc ≤ R.cells ∧ slots + ms ≤ R.slots) :
    va_Run p l e R s m args below meth c H locs cells slots mc ms g rest (Qc As.toArray) (free) := by
  obtain ⟨⟨hrc, hrs, hfr, hlo, hws, hcw⟩, hcode, hini, hy, hlen, hl, hstt⟩ := cw
  have hK : Back l R p e below s args y 3 8 (PreOf R mc ms Pc) (PostOf Qc mc ms free) := va_backW (hh := hh) (bytes := bytes) (maxL := maxL) (ret := ret) hM hp.1 hrc hrs hfr hlo hws hcw (fun a' U hW => word_at hW (Or.inl (by first | rfl | simp [Cond.onTables, Cond.keeps, Cond.steady])) hini)
  obtain ⟨hx, hb, hml, ho, -⟩ := S
  intro T hT X
  obtain ⟨v, vm₁, ⟨U', l2, c2, s2⟩, hW₁, X', ⟨g', mk, t, L, e1, e2, hq, h1, hL, h2, h3⟩, st⟩ := vx_callSW X hx (hh := hh) (bytes := bytes) (maxL := maxL) (ret := ret) ho hl hstt hini hcode hy hK hg (hsize.trans hml.symm) (argsL := As) (rest := rest) (fun sig h => hn.trans (hlen sig h)) hstack hW (by rw [hb]; exact hdg)
    (fun vm₁ hW₁ => ⟨hf.1, hf.2, hp.2 (T.setVm vm₁) hT hW₁⟩)
  dsimp only [Pt.U, Pt.locs, Pt.cells, Pt.slots] at X' e1 e2 h1 h2 h3 st
  subst h1; subst h2; subst h3
  exact ⟨v, (T.setVm vm₁).calling g' mk As.toArray, t, U', L, hT, X', hL, e1, e2, hq, st⟩
/-- not caught here, past rows that name other classes: it goes on to the caller -/
theorem vx_outP {p : Program} {l : Launch} {e : Env} {R : Room} {s : State} {m : MethodId} {args : Array Value} {below : List Frame} {meth : Method} {c : Code} {H : Heap} {locs : List Loc} {cells slots : Nat} {free : Addr → Prop} {ls : Array Slot} {rest : List Value} {Qc : Array Value → State → Outcome → State → Prop} {XC : String → State → State → Prop}
    {pc : Nat} {own E : String} {ce : Cell} {q : Addr} {mc ms : Nat} (hown : s.vm.findClass own = some m.cls) (hlocks : meth.locks = false)
    (hpass : ∀ z ∈ c.exceptionTable.toList, covers z pc = false ∨ (z.catchType ≠ 0 ∧ ∃ nm : String, (Cond.classLink own z.catchType nm).before args s = true ∧ va_Nc E nm s)) (hcell : H[q]? = some ce) (hv : ce.vm = .none) (hcl : s.vm.findClass E = some ce.cls)
    (hx : ∀ t : State, t.heap = H → s.vm.Alike t.vm → XC E s t) (hf : ∀ z ∈ locs, free z.base) (hc : cells ≤ mc) (hs : slots ≤ ms) :
    vx_W p l e R s m args below meth c H locs cells slots (vx_MQ below Qc XC args s mc ms free) (F0 m pc ls rest) q := by
  intro T hT X
  have hpl : e.platform.magicAccessors = ({} : Platform).magicAccessors := by rw [X.admits.platform]
  obtain ⟨vm', hW', X', st⟩ := X.outThrough hlocks q (g := F0 m pc ls rest) rfl rfl rfl (cell := ce) (by rw [hT]; exact hcell) (by rw [hv]; rfl)
    (by obtain ⟨k9, h9, -⟩ := Vm.findClass_spec hcl; exact ⟨k9, h9⟩) (fun z hz => by
      rcases hpass z hz with h | ⟨hz0, nm, hl1, hn1⟩
      · exact Or.inl h
      · obtain ⟨c6, hc6, hcl6⟩ := Cond.classLink_spec hown hl1 e.platform hpl
        obtain ⟨a8, b8, h1, h2, h3⟩ := hn1
        cases Option.some.inj (h1.symm.trans hcl)
        cases Option.some.inj (h2.symm.trans hc6)
        exact Or.inr ⟨hz0, _, hcl6, h3⟩)
  obtain ⟨g₀, hfr⟩ := X'.frames_eq
  have hcell9 : ((T.setVm vm').setFrames (.throwing q :: below)).heap[q]? = some ce := by
    show T.heap[q]? = some ce
    rw [hT]; exact hcell
  have hend : Ended ((T.setVm vm').setFrames (.throwing q :: below)) below (.threw q) := State.frames_setFrames _ (State.cur_lt_of_frames hfr)
  refine ⟨(T.setVm vm').setFrames (.throwing q :: below), ?_, .threw q, X'.here.running, hend, Or.inr ⟨q, rfl, E, ce, locs, hx _ hT (X'.ends _).1.alike, hcell9, hv, hcl, (X'.ends _).1, (X'.ends _).2.mono hc hs, hf⟩⟩
  rw [X.pushThrowing_eq]
  exact st
/-- a thing of a world lies in the heap -/
theorem vx_lt {D : va_G} {cl : List vw_C} {ws : va_W} {H1 : Heap} (h : va_P D cl ws H1) {k : Nat} {q : Nat × va_E} (hk : ws[k]? = some q) : q.1 < H1.size := (h k q hk).lt
end VXS
/-! ===== END ===== -/
/-! ===== BEGIN methods with a table of their own: called by a name, returning or throwing ===== -/
section VXH
/-! vx_backW, vx_callVX, vx_callSX, vx_callVW, vx_runVW, vx_runVX, vx_runSX, vx_ofWH follow the same proofs as their sisters above (Free/Laws.lean, Shelf42/LK1.lean); vx_outP calls Shelf42/NT130.lean (outThrough). -/
section
variable {l : Launch} {R : Room} {p : Program} {e : Env} {below : List Frame} {s : State} {sargs : Array Value} {y : MethodName} {len W9 : Nat}
theorem vx_backW {ws : List Cond} {rm : Room} {Pc : Array Value → State → Prop} {Qc : Array Value → State → Outcome → State → Prop} {XC : String → State → State → Prop} {mc ms : Nat} {free : Addr → Prop} {bytes : ByteArray} {maxL : Nat} {ret : Option FieldType} {hh : List (Nat × Nat × Nat × Nat)}
    (hM : vx_Met l y ws rm Pc Qc XC mc ms free) (hblind : FrameBlind Pc) (hrc : rm.cells = mc) (hrs : rm.slots = ms)
    (hframes : rm.frames + 1 ≤ R.frames) (hlocals : W9 + (maxL + 11) + rm.locals ≤ R.locals)
    (hws : ∀ w ∈ ws, ∀ a' U, s.WarmedH U.vm → w.before a' U = true) (hcode : Cond.codeWith y bytes maxL ret hh ∈ ws) (hinit : ∀ a' U, s.WarmedH U.vm → (Cond.initialized y.cls).before a' U = true) :
    vx_Back l R p e below s sargs y len W9 (PreOf R mc ms Pc) (PostOf Qc mc ms free) (vx_Post XC mc ms free) := by
  intro m meth c A g ig mk a X hg hsize hdg hW hn hp
  have h1 : (headSpec ws rm).pre.before a A.U = true := atoms_intro fun w hw => hws w hw _ _ X.warmed
  have h2 : (Cond.codeWith y bytes maxL ret hh).before a A.U = true := hws _ hcode _ _ X.warmed
  have h3 : (Cond.initialized y.cls).before a A.U = true := hinit _ _ X.warmed
  have h4 : A.cells + (headSpec ws rm).room.cells ≤ R.cells := by rw [show (headSpec ws rm).room.cells = mc from hrc]; exact hp.1
  have h5 : A.slots + (headSpec ws rm).room.slots ≤ R.slots := by rw [show (headSpec ws rm).room.slots = ms from hrs]; exact hp.2.1
  have hPc : Pc a (A.U.calling g mk a) := hblind _ _ _ _ hp.2.2
  obtain ⟨U, Ls, c0, s0⟩ := A
  dsimp only [Pt.U, Pt.locs, Pt.cells, Pt.slots] at h1 h2 h3 h4 h5 X hn hPc ⊢
  obtain ⟨m9, methY, cY, hn9, hmY, hcY, -, hlY, -⟩ := Cond.codeWith_spec h2
  cases Option.some.inj (hn9.symm.trans hn)
  obtain ⟨kY, hkY, -⟩ := className_of_methodNamed hn
  have hinitY : kY.init = .initialized := Cond.initialized_spec (findClass_of_methodNamed hn) hkY h3
  have h : At U g.method c below := by rw [hg]; exact X.here
  have hlocals9 : W9 + (maxL + 11) + (headSpec ws rm).room.locals ≤ R.locals := hlocals
  have happ : (headSpec ws rm).appliesLoose y e.platform (U.calling g mk a) = true :=
    Spec.appliesLoose_calling (g := g) h hdg hn hkY hinitY
      (X.room_calling (g := g) (R' := (headSpec ws rm).room) hsize hmY hcY hframes (by rw [hlY]; omega) h4 h5) h1
  obtain ⟨mid, hmid⟩ := h.above
  have hfr : (U.setTop g).frames = (.java g :: mid) ++ below := by rw [State.frames_setTop' g h.top, hmid]; rfl
  obtain ⟨o, s₂, hsteps, -, hend, hq⟩ := Steps.callFree hM p X.admits X.cas X.clock (acts := []) hfr happ hPc trivial
  have hq' : vx_Q Qc XC mc ms free a (U.calling g mk a) o s₂ := hq
  rw [State.frames_setTop' g h.top] at hend
  obtain ⟨g₀, hg0⟩ := Option.isSome_iff_exists.mp h.top
  obtain ⟨r, hr⟩ := State.topJava?_eq_some.mp hg0
  have hr' : (({ U with heap := s₂.heap, slotsUsed := s₂.slotsUsed } : State).setVm s₂.vm).frames = .java g₀ :: r := hr
  rcases hq' with ⟨hqc, L, hfe, hL⟩ | ⟨q, rfl, E, ce, L, hx, hce, hcv, hcl, hW₂, hsm, hL⟩
  · obtain ⟨⟨v, rfl⟩, hW₂, e2, q2, q3, q4, q5, q6⟩ := id hfe
    have e3 : s₂ = ({ (U.calling g mk a).setFrames s₂.frames with heap := s₂.heap, slotsUsed := s₂.slotsUsed } : State).setVm s₂.vm := by
      have : s₂ = ({ s₂ with vm := (U.calling g mk a).vm } : State).setVm s₂.vm := rfl
      rw [e2] at this
      exact this
    obtain ⟨c₂, i₂, len₂, hc₂, hd₂, hf₂⟩ := hend
    have hW' : U.WarmedH s₂.vm := hW₂
    have hcc : c₂ = c := by
      have h1 : s₂.code? g.method = U.code? g.method := by
        rw [State.code?_eq, State.code?_eq, hW'.alike.method?]
      exact Option.some.inj (hc₂.symm.trans (h1.trans h.code))
    subst hcc
    have hlen : len₂ = len := by rw [hdg] at hd₂; cases hd₂; rfl
    subst hlen
    have hs₂ : s₂ = (({ U with heap := s₂.heap, slotsUsed := s₂.slotsUsed } : State).setVm s₂.vm).setTop { g with pc := g.pc + len₂, stack := v.toList ++ g.stack } := by
      refine e3.trans ?_
      rw [hf₂, State.calling_eq h.top, State.setFrames_setFrames, State.setTop_of_frames _ hr', hr]
      rfl
    have hsame : U.sameButNew ({ U with heap := s₂.heap, slotsUsed := s₂.slotsUsed } : State) L mc ms := by
      refine ⟨?_, q2, q3, q4, q5, q6⟩
      obtain ⟨t, ht, -⟩ := State.frames_cons hr
      show ({ U with heap := s₂.heap, slotsUsed := s₂.slotsUsed } : State) = { U.setFrames U.frames with heap := s₂.heap, slotsUsed := s₂.slotsUsed }
      rw [State.setFrames_self ht]
    subst hg
    refine Or.inl ⟨v, ⟨(({ U with heap := s₂.heap, slotsUsed := s₂.slotsUsed } : State).setVm s₂.vm), Ls ++ L, c0 + mc, s0 + ms⟩,
      ⟨X.admits, X.cas, X.clock, X.frames, X.room, X.hears, X.method, X.code, (X.here.setHeapUsed s₂.heap s₂.slotsUsed).setVm hW'.alike, X.tail, State.WarmedH.trans X.warmed hW', X.limits, X.bytes, X.same.trans (hsame.setVm s.vm)⟩,
      ⟨g, mk, s₂, L, rfl, rfl, hqc, rfl, hL, rfl, rfl⟩, ?_⟩
    show Steps p.tables e below _ ((({ U with heap := s₂.heap, slotsUsed := s₂.slotsUsed } : State).setVm s₂.vm).setTop { g with pc := g.pc + len₂, stack := v.toList ++ g.stack })
    rw [← hs₂]
    exact hsteps
  · obtain ⟨e2, q2, q3, q4, q5, q6⟩ := id hsm
    have e3 : s₂ = ({ (U.calling g mk a).setFrames s₂.frames with heap := s₂.heap, slotsUsed := s₂.slotsUsed } : State).setVm s₂.vm := by
      have : s₂ = ({ s₂ with vm := (U.calling g mk a).vm } : State).setVm s₂.vm := rfl
      rw [e2] at this
      exact this
    have hf₂ : s₂.frames = .throwing q :: .java g :: U.frames.tail := hend
    have hW' : U.WarmedH s₂.vm := hW₂
    have hs₂ : s₂ = ((({ U with heap := s₂.heap, slotsUsed := s₂.slotsUsed } : State).setVm s₂.vm).setTop g).pushFrame (.throwing q) := by
      refine e3.trans ?_
      rw [hf₂, State.calling_eq h.top, State.setFrames_setFrames, State.pushFrame, State.frames_setTop _ hr', State.setTop_of_frames _ hr', State.setFrames_setFrames, hr]
      rfl
    have hsame : U.sameButNew ({ U with heap := s₂.heap, slotsUsed := s₂.slotsUsed } : State) L mc ms := by
      refine ⟨?_, q2, q3, q4, q5, q6⟩
      obtain ⟨t, ht, -⟩ := State.frames_cons hr
      show ({ U with heap := s₂.heap, slotsUsed := s₂.slotsUsed } : State) = { U.setFrames U.frames with heap := s₂.heap, slotsUsed := s₂.slotsUsed }
      rw [State.setFrames_self ht]
    subst hg
    refine Or.inr ⟨q, ⟨(({ U with heap := s₂.heap, slotsUsed := s₂.slotsUsed } : State).setVm s₂.vm), Ls ++ L, c0 + mc, s0 + ms⟩,
      ⟨X.admits, X.cas, X.clock, X.frames, X.room, X.hears, X.method, X.code, (X.here.setHeapUsed s₂.heap s₂.slotsUsed).setVm hW'.alike, X.tail, State.WarmedH.trans X.warmed hW', X.limits, X.bytes, X.same.trans (hsame.setVm s.vm)⟩,
      ⟨g, mk, s₂, L, E, ce, rfl, rfl, hx, hce, hcv, hcl, rfl, hL, rfl, rfl⟩, ?_⟩
    show Steps p.tables e below _ (((({ U with heap := s₂.heap, slotsUsed := s₂.slotsUsed } : State).setVm s₂.vm).setTop g).pushFrame (.throwing q))
    rw [← hs₂]
    exact hsteps
end
variable {p : Program} {l : Launch} {e : Env} {R : Room} {s : State} {m : MethodId} {args : Array Value} {below : List Frame} {meth : Method} {c : Code} {T : State} {H : Heap} {locs : List Loc} {cells slots : Nat}
theorem vx_callVX (X : Stand p l e R s m args below meth c T locs cells slots) (hexec : p.tables.exec = Jvm.exec) {own C : String} {index : Nat} {y : MethodName} {bytes : ByteArray} {maxL : Nat} {ret : Option FieldType} {hh : List (Nat × Nat × Nat × Nat)}
    (hown : s.vm.findClass own = some m.cls) (hlink : (Cond.methodLink own index y).before args s = true) (hinst : (Cond.instanceMethod y).before args s = true) (hsel : (Cond.selects C y y).before args s = true)
    (hcode : (Cond.codeWith y bytes maxL ret hh).before args s = true) (hy : y.cls ≠ "java/lang/invoke/MethodHandle" ∧ y.cls ≠ "java/lang/invoke/VarHandle")
    {W9 : Nat} {Pre : Pt → Array Value → Prop} {Post : Pt → Array Value → Option Value → Pt → Prop} {PostX : Pt → Array Value → Addr → Pt → Prop} (hK : vx_Back l R p e below s args y 3 W9 Pre Post PostX)
    {b : Addr} {cellB : Cell} (hcell : T.heap[b]? = some cellB) (hobj : cellB.vm.isStatics = false) (hcls : s.vm.findClass C = some cellB.cls)
    {g : JFrame} (hg : g.method = m) (hsize : g.locals.size = c.maxLocals) {argsL rest : List Value} (hlen : ∀ sig, parseMethodDescriptor y.desc = some sig → argsL.length = sig.parameters.length)
    (hstack : g.stack = argsL.reverse ++ .ref b :: rest) (hW : 2 * g.monitorRoom + (rest.map fun v => v.category).sum ≤ W9) (hdg : decode c.code g.pc = .ok (.invokevirtual index, 3))
    (hpre : ∀ vm₁, s.WarmedH vm₁ → Pre ⟨T.setVm vm₁, locs, cells, slots⟩ (Value.ref b :: argsL).toArray) :
    (∃ (v : Option Value) (vm₁ : Vm) (B : Pt), s.WarmedH vm₁ ∧ Stand p l e R s m args below meth c B.U B.locs B.cells B.slots ∧ Post ⟨T.setVm vm₁, locs, cells, slots⟩ (Value.ref b :: argsL).toArray v B ∧
      ∀ target, Steps p.tables e below (B.U.setTop { g with pc := g.pc + 3, stack := v.toList ++ rest }) target → Steps p.tables e below (T.setTop g) target) ∨
    (∃ (q : Addr) (vm₁ : Vm) (B : Pt), s.WarmedH vm₁ ∧ Stand p l e R s m args below meth c B.U B.locs B.cells B.slots ∧ PostX ⟨T.setVm vm₁, locs, cells, slots⟩ (Value.ref b :: argsL).toArray q B ∧
      Steps p.tables e below (T.setTop g) ((B.U.setTop { g with stack := rest }).pushFrame (.throwing q))) := by
  obtain ⟨mk, methM, hnamed, hmethM, hstM, habM⟩ := Cond.instanceMethod_spec hinst
  obtain ⟨m8, methM', cM, hn8, hmethM', -, -, -, -, -, -, hsigM⟩ := Cond.codeWith_spec hcode
  cases Option.some.inj (hn8.symm.trans hnamed)
  cases hmethM.symm.trans hmethM'
  obtain ⟨c2, r2, m2, q1, q2, q3, q4, kP, hkP, hkPi⟩ := Cond.selects_spec hsel
  cases hcls.symm.trans q1
  cases (State.methodFound?_of_named hnamed hy).symm.trans q2
  cases hnamed.symm.trans q3
  have hselP : selectMethod e.platform s.vm cellB.cls mk = .method mk := by rw [Launch.admits_selectMethod X.admits]; exact q4
  obtain ⟨vm₁, X₁, hstep₁⟩ := X.invokevirtual hexec hown hlink hnamed hmethM hstM hkP hkPi hy (a := b) (cell := cellB) hcell
    (fun z h => by rw [h] at hobj; cases hobj) hselP hmethM habM hkP hkPi (g := g) hg (argsL := argsL) (rest := rest) (hlen _ hsigM) hstack hdg
  rcases hK m meth c ⟨T.setVm vm₁, locs, cells, slots⟩ { g with stack := rest } (.invokevirtual index) mk (Value.ref b :: argsL).toArray X₁ hg hsize hdg hW (X₁.named hnamed) (hpre vm₁ X₁.warmed) with ⟨v, B, X', hpost, hsteps⟩ | ⟨q, B, X', hpost, hsteps⟩
  · exact Or.inl ⟨v, vm₁, B, X₁.warmed, X', hpost, fun target h => hstep₁ _ fun acts => by rw [doInvoke_state]; exact hsteps.trans h⟩
  · exact Or.inr ⟨q, vm₁, B, X₁.warmed, X', hpost, hstep₁ _ fun acts => by rw [doInvoke_state]; exact hsteps⟩
theorem vx_callSX (X : Stand p l e R s m args below meth c T locs cells slots) (hexec : p.tables.exec = Jvm.exec) {own : String} {index : Nat} {y : MethodName} {bytes : ByteArray} {maxL : Nat} {ret : Option FieldType} {hh : List (Nat × Nat × Nat × Nat)}
    (hown : s.vm.findClass own = some m.cls) (hlink : (Cond.methodLink own index y).before args s = true) (hstat : (Cond.static y).before args s = true) (hinit : (Cond.initialized y.cls).before args s = true)
    (hcode : (Cond.codeWith y bytes maxL ret hh).before args s = true) (hy : y.cls ≠ "java/lang/invoke/MethodHandle" ∧ y.cls ≠ "java/lang/invoke/VarHandle")
    {W9 : Nat} {Pre : Pt → Array Value → Prop} {Post : Pt → Array Value → Option Value → Pt → Prop} {PostX : Pt → Array Value → Addr → Pt → Prop} (hK : vx_Back l R p e below s args y 3 W9 Pre Post PostX)
    {g : JFrame} (hg : g.method = m) (hsize : g.locals.size = c.maxLocals) {argsL rest : List Value} (hlen : ∀ sig, parseMethodDescriptor y.desc = some sig → argsL.length = sig.parameters.length)
    (hstack : g.stack = argsL.reverse ++ rest) (hW : 2 * g.monitorRoom + (rest.map fun v => v.category).sum ≤ W9) (hdg : decode c.code g.pc = .ok (.invokestatic index, 3))
    (hpre : ∀ vm₁, s.WarmedH vm₁ → Pre ⟨T.setVm vm₁, locs, cells, slots⟩ argsL.toArray) :
    (∃ (v : Option Value) (vm₁ : Vm) (B : Pt), s.WarmedH vm₁ ∧ Stand p l e R s m args below meth c B.U B.locs B.cells B.slots ∧ Post ⟨T.setVm vm₁, locs, cells, slots⟩ argsL.toArray v B ∧
      ∀ target, Steps p.tables e below (B.U.setTop { g with pc := g.pc + 3, stack := v.toList ++ rest }) target → Steps p.tables e below (T.setTop g) target) ∨
    (∃ (q : Addr) (vm₁ : Vm) (B : Pt), s.WarmedH vm₁ ∧ Stand p l e R s m args below meth c B.U B.locs B.cells B.slots ∧ PostX ⟨T.setVm vm₁, locs, cells, slots⟩ argsL.toArray q B ∧
      Steps p.tables e below (T.setTop g) ((B.U.setTop { g with stack := rest }).pushFrame (.throwing q))) := by
  obtain ⟨mk, methM, cM, hnamed, hmethM, -, -, -, -, -, -, hsigM⟩ := Cond.codeWith_spec hcode
  have hstatic : methM.isStatic = true := Cond.static_spec hnamed hmethM hstat
  obtain ⟨kP, hkP, -⟩ := className_of_methodNamed hnamed
  have hinitP : kP.init = .initialized := Cond.initialized_spec (findClass_of_methodNamed hnamed) hkP hinit
  obtain ⟨vm₁, X₁, hstep₁⟩ := X.invokestatic hexec hown hlink hnamed hmethM hstatic hkP hinitP hy (g := g) hg (argsL := argsL) (rest := rest) (hlen _ hsigM) hstack hdg
  rcases hK m meth c ⟨T.setVm vm₁, locs, cells, slots⟩ { g with stack := rest } (.invokestatic index) mk argsL.toArray X₁ hg hsize hdg hW (X₁.named hnamed) (hpre vm₁ X₁.warmed) with ⟨v, B, X', hpost, hsteps⟩ | ⟨q, B, X', hpost, hsteps⟩
  · exact Or.inl ⟨v, vm₁, B, X₁.warmed, X', hpost, fun target h => hstep₁ _ fun acts => by rw [doInvoke_state]; exact hsteps.trans h⟩
  · exact Or.inr ⟨q, vm₁, B, X₁.warmed, X', hpost, hstep₁ _ fun acts => by rw [doInvoke_state]; exact hsteps⟩
theorem vx_callVW (X : Stand p l e R s m args below meth c T locs cells slots) (hexec : p.tables.exec = Jvm.exec) {own C : String} {index : Nat} {y : MethodName} {bytes : ByteArray} {maxL : Nat} {ret : Option FieldType} {hh : List (Nat × Nat × Nat × Nat)}
    (hown : s.vm.findClass own = some m.cls) (hlink : (Cond.methodLink own index y).before args s = true) (hinst : (Cond.instanceMethod y).before args s = true) (hsel : (Cond.selects C y y).before args s = true)
    (hcode : (Cond.codeWith y bytes maxL ret hh).before args s = true) (hy : y.cls ≠ "java/lang/invoke/MethodHandle" ∧ y.cls ≠ "java/lang/invoke/VarHandle")
    {W9 : Nat} {Pre : Pt → Array Value → Prop} {Post : Pt → Array Value → Option Value → Pt → Prop} (hK : Back l R p e below s args y 3 W9 Pre Post)
    {b : Addr} {cellB : Cell} (hcell : T.heap[b]? = some cellB) (hobj : cellB.vm.isStatics = false) (hcls : s.vm.findClass C = some cellB.cls)
    {g : JFrame} (hg : g.method = m) (hsize : g.locals.size = c.maxLocals) {argsL rest : List Value} (hlen : ∀ sig, parseMethodDescriptor y.desc = some sig → argsL.length = sig.parameters.length)
    (hstack : g.stack = argsL.reverse ++ .ref b :: rest) (hW : 2 * g.monitorRoom + (rest.map fun v => v.category).sum ≤ W9) (hdg : decode c.code g.pc = .ok (.invokevirtual index, 3))
    (hpre : ∀ vm₁, s.WarmedH vm₁ → Pre ⟨T.setVm vm₁, locs, cells, slots⟩ (Value.ref b :: argsL).toArray) :
    ∃ (v : Option Value) (vm₁ : Vm) (B : Pt), s.WarmedH vm₁ ∧ Stand p l e R s m args below meth c B.U B.locs B.cells B.slots ∧ Post ⟨T.setVm vm₁, locs, cells, slots⟩ (Value.ref b :: argsL).toArray v B ∧
      ∀ target, Steps p.tables e below (B.U.setTop { g with pc := g.pc + 3, stack := v.toList ++ rest }) target → Steps p.tables e below (T.setTop g) target := by
  obtain ⟨mk, methM, hnamed, hmethM, hstM, habM⟩ := Cond.instanceMethod_spec hinst
  obtain ⟨m8, methM', cM, hn8, hmethM', -, -, -, -, -, -, hsigM⟩ := Cond.codeWith_spec hcode
  cases Option.some.inj (hn8.symm.trans hnamed)
  cases hmethM.symm.trans hmethM'
  obtain ⟨c2, r2, m2, q1, q2, q3, q4, kP, hkP, hkPi⟩ := Cond.selects_spec hsel
  cases hcls.symm.trans q1
  cases (State.methodFound?_of_named hnamed hy).symm.trans q2
  cases hnamed.symm.trans q3
  have hselP : selectMethod e.platform s.vm cellB.cls mk = .method mk := by rw [Launch.admits_selectMethod X.admits]; exact q4
  obtain ⟨vm₁, X₁, hstep₁⟩ := X.invokevirtual hexec hown hlink hnamed hmethM hstM hkP hkPi hy (a := b) (cell := cellB) hcell
    (fun z h => by rw [h] at hobj; cases hobj) hselP hmethM habM hkP hkPi (g := g) hg (argsL := argsL) (rest := rest) (hlen _ hsigM) hstack hdg
  obtain ⟨v, B, X', hpost, hsteps⟩ := hK m meth c ⟨T.setVm vm₁, locs, cells, slots⟩ { g with stack := rest } (.invokevirtual index) mk (Value.ref b :: argsL).toArray X₁ hg hsize hdg hW (X₁.named hnamed) (hpre vm₁ X₁.warmed)
  exact ⟨v, vm₁, B, X₁.warmed, X', hpost, fun target h => hstep₁ _ fun acts => by rw [doInvoke_state]; exact hsteps.trans h⟩
abbrev vx_CVW (R : Room) (s : State) (args : Array Value) (own C : String) (index : Nat) (y : MethodName) (bytes : ByteArray) (maxL : Nat) (ret : Option FieldType) (hh : List (Nat × Nat × Nat × Nat)) (ws : List Cond) (rm : Room) (mc ms n : Nat) : Prop :=
  (rm.cells = mc ∧ rm.slots = ms ∧ rm.frames + 1 ≤ R.frames ∧ 8 + (maxL + 11) + rm.locals ≤ R.locals ∧ (∀ w ∈ ws, ∀ (a' : Array Value) (U : State), s.WarmedH U.vm → w.before a' U = true) ∧ Cond.codeWith y bytes maxL ret hh ∈ ws) ∧
  (Cond.codeWith y bytes maxL ret hh).before args s = true ∧ (Cond.initialized y.cls).before args s = true ∧ (y.cls ≠ "java/lang/invoke/MethodHandle" ∧ y.cls ≠ "java/lang/invoke/VarHandle") ∧
  (∀ sig, parseMethodDescriptor y.desc = some sig → n = sig.parameters.length) ∧ (Cond.methodLink own index y).before args s = true ∧ (Cond.instanceMethod y).before args s = true ∧ (Cond.selects C y y).before args s = true
theorem vx_cwVW {own C : String} {index maxL mc ms : Nat} {y : MethodName} {bytes : ByteArray} {ret : Option FieldType} {hh : List (Nat × Nat × Nat × Nat)} {Ts ws ws' : List Cond} {rm : Room} (n : Nat) (ht : ∀ w ∈ Ts, w.before args s = true) (hT : GoodIn Ts (wsV own index C y ws)) (hw : ws = Cond.codeWith y bytes maxL ret hh :: ws') (hrc : rm.cells = mc) (hrs : rm.slots = ms)
    (hd : y.cls = C ∧ y.cls ≠ "java/lang/invoke/MethodHandle" ∧ y.cls ≠ "java/lang/invoke/VarHandle" ∧ (parseMethodDescriptor y.desc).map (fun d => d.parameters.length) = some n) (hR : rm.frames + 1 ≤ R.frames ∧ 8 + (maxL + 11) + rm.locals ≤ R.locals) :
    vx_CVW R s args own C index y bytes maxL ret hh ws rm mc ms n := by
  obtain ⟨hC, hd⟩ := hd
  subst hC
  have ok : ∀ w ∈ wsV own index y.cls y ws, w.before args s = true := fun w h => ht w (hT w h).1
  have hG : GoodIn Ts ws := fun w h => hT w (by unfold wsV; exact List.mem_append_right _ h)
  have hc : Cond.codeWith y bytes maxL ret hh ∈ ws := by rw [hw]; exact List.mem_cons_self
  refine ⟨⟨hrc, hrs, hR.1, hR.2, pay_in ht hG, hc⟩, ht _ (hG _ hc).1, ok _ (by simp [wsV]), ⟨hd.1, hd.2.1⟩, fun sig h => ?_, ok _ (by simp [wsV]), ok _ (by simp [wsV]), ok _ (by simp [wsV])⟩
  have h2 := hd.2.2
  rw [h] at h2
  exact (Option.some.inj h2).symm
theorem vx_runVW {y : MethodName} {bytes cc : ByteArray} {maxL nL mc ms n index : Nat} {ret : Option FieldType} {hh : List (Nat × Nat × Nat × Nat)} {ws : List Cond} {rm : Room} {Pc : Array Value → State → Prop} {Qc : Array Value → State → Outcome → State → Prop} {free : Addr → Prop} {Ts : List Cond} {own C : String} {b : Addr} {As rest : List Value} {g : JFrame}
    (S : CallFix p m c cc nL s args Ts own) (hM : Met l y ws rm Pc Qc mc ms free) (cw : vx_CVW R s args own C index y bytes maxL ret hh ws rm mc ms n) (hp : PreV s H C b Pc As)
    (hg : g.method = m) (hn : As.length = n) (hsize : g.locals.size = nL) (hstack : g.stack = As.reverse ++ .ref b :: rest) (hW : 2 * g.monitorRoom + (rest.map fun v => v.category).sum ≤ 8) (hdg : decode cc g.pc = .ok (.invokevirtual index, 3)) (hf : cells + mc ≤ R.cells ∧ slots + ms ≤ R.slots) :
    va_Run p l e R s m args below meth c H locs cells slots mc ms g rest (Qc (Value.ref b :: As).toArray) free := by
  obtain ⟨⟨hrc, hrs, hfr, hlo, hws, hcw⟩, hcode, hini, hy, hlen, hl, hin, hse⟩ := cw
  have hK : Back l R p e below s args y 3 8 (PreOf R mc ms Pc) (PostOf Qc mc ms free) := va_backW (hh := hh) (bytes := bytes) (maxL := maxL) (ret := ret) hM hp.1 hrc hrs hfr hlo hws hcw (fun a' U hW => word_at hW (Or.inl (by first | rfl | simp [Cond.onTables, Cond.keeps, Cond.steady])) hini)
  obtain ⟨hx, hb, hml, ho, -⟩ := S
  obtain ⟨-, ⟨cellB, hcB, hoB, hclB⟩, hPc⟩ := hp
  intro T hT X
  obtain ⟨v, vm₁, ⟨U', l2, c2, s2⟩, hW₁, X', ⟨g', mk, t, L, e1, e2, hq, h1, hL, h2, h3⟩, st⟩ := vx_callVW X hx (C := C) (hh := hh) (bytes := bytes) (maxL := maxL) (ret := ret) ho hl hin hse hcode hy hK (by rw [hT]; exact hcB) hoB hclB hg (hsize.trans hml.symm) (argsL := As) (rest := rest) (fun sig h => hn.trans (hlen sig h)) hstack hW (by rw [hb]; exact hdg)
    (fun vm₁ hW₁ => ⟨hf.1, hf.2, hPc (T.setVm vm₁) hT hW₁⟩)
  dsimp only [Pt.U, Pt.locs, Pt.cells, Pt.slots] at X' e1 e2 h1 h2 h3 st
  subst h1; subst h2; subst h3
  exact ⟨v, (T.setVm vm₁).calling g' mk (Value.ref b :: As).toArray, t, U', L, hT, X', hL, e1, e2, hq, st⟩
section
variable {y : MethodName} {bytes cc : ByteArray} {maxL nL mc ms n index : Nat} {ret : Option FieldType} {ws : List Cond} {rm : Room} {Pc : Array Value → State → Prop} {Qc : Array Value → State → Outcome → State → Prop} {XC : String → State → State → Prop} {free : Addr → Prop} {Ts : List Cond} {own C : String} {b : Addr} {As rest : List Value} {g : JFrame}
theorem vx_runVX {hh : List (Nat × Nat × Nat × Nat)} (S : CallFix p m c cc nL s args Ts own) (hM : vx_Met l y ws rm Pc Qc XC mc ms free) (cw : vx_CVW R s args own C index y bytes maxL ret hh ws rm mc ms n) (hp : PreV s H C b Pc As)
    (hg : g.method = m) (hn : As.length = n) (hsize : g.locals.size = nL) (hstack : g.stack = As.reverse ++ .ref b :: rest) (hW : 2 * g.monitorRoom + (rest.map fun v => v.category).sum ≤ 8) (hdg : decode cc g.pc = .ok (.invokevirtual index, 3)) (hf : cells + mc ≤ R.cells ∧ slots + ms ≤ R.slots) :
    vx_Run p l e R s m args below meth c H locs cells slots mc ms g rest (Qc (Value.ref b :: As).toArray) XC free := by
  obtain ⟨⟨hrc, hrs, hfr, hlo, hws, hcw⟩, hcode, hini, hy, hlen, hl, hin, hse⟩ := cw
  have hK : vx_Back l R p e below s args y 3 8 (PreOf R mc ms Pc) (PostOf Qc mc ms free) (vx_Post XC mc ms free) := vx_backW (hh := hh) (bytes := bytes) (maxL := maxL) (ret := ret) hM hp.1 hrc hrs hfr hlo hws hcw (fun a' U hW => word_at hW (Or.inl (by first | rfl | simp [Cond.onTables, Cond.keeps, Cond.steady])) hini)
  obtain ⟨hx, hb, hml, ho, -⟩ := S
  obtain ⟨-, ⟨cellB, hcB, hoB, hclB⟩, hPc⟩ := hp
  intro T hT X
  rcases vx_callVX X hx (C := C) (hh := hh) (bytes := bytes) (maxL := maxL) (ret := ret) ho hl hin hse hcode hy hK (by rw [hT]; exact hcB) hoB hclB hg (hsize.trans hml.symm) (argsL := As) (rest := rest) (fun sig h => hn.trans (hlen sig h)) hstack hW (by rw [hb]; exact hdg)
    (fun vm₁ hW₁ => ⟨hf.1, hf.2, hPc (T.setVm vm₁) hT hW₁⟩) with ⟨v, vm₁, ⟨U', l2, c2, s2⟩, hW₁, X', ⟨g', mk, t, L, e1, e2, hq, h1, hL, h2, h3⟩, st⟩ | ⟨q, vm₁, ⟨U', l2, c2, s2⟩, hW₁, X', ⟨g', mk, t, L, E, ce, e1, e2, hq, hce, hcv, hcl, h1, hL, h2, h3⟩, st⟩
  · dsimp only [Pt.U, Pt.locs, Pt.cells, Pt.slots] at X' e1 e2 h1 h2 h3 st
    subst h1; subst h2; subst h3
    exact Or.inl ⟨v, (T.setVm vm₁).calling g' mk (Value.ref b :: As).toArray, t, U', L, hT, X', hL, e1, e2, hq, st⟩
  · dsimp only [Pt.U, Pt.locs, Pt.cells, Pt.slots] at X' e1 e2 h1 h2 h3 st hcl
    subst h1; subst h2; subst h3
    exact Or.inr ⟨q, (T.setVm vm₁).calling g' mk (Value.ref b :: As).toArray, t, U', L, E, ce, hT, X', hL, e1, e2, hq, hce, hcv, vx_cls hW₁ hcl, st⟩
theorem vx_runSX {hh : List (Nat × Nat × Nat × Nat)} (S : CallFix p m c cc nL s args Ts own) (hM : vx_Met l y ws rm Pc Qc XC mc ms free) (cw : vx_CSW R s args own index y bytes maxL ret hh ws rm mc ms n) (hp : PreS s H Pc As)
    (hg : g.method = m) (hn : As.length = n) (hsize : g.locals.size = nL) (hstack : g.stack = As.reverse ++ rest) (hW : 2 * g.monitorRoom + (rest.map fun v => v.category).sum ≤ 8) (hdg : decode cc g.pc = .ok (.invokestatic index, 3)) (hf : cells + mc ≤ R.cells ∧ slots + ms ≤ R.slots) :
    vx_Run p l e R s m args below meth c H locs cells slots mc ms g rest (Qc As.toArray) XC free := by
  obtain ⟨⟨hrc, hrs, hfr, hlo, hws, hcw⟩, hcode, hini, hy, hlen, hl, hstt⟩ := cw
  have hK : vx_Back l R p e below s args y 3 8 (PreOf R mc ms Pc) (PostOf Qc mc ms free) (vx_Post XC mc ms free) := vx_backW (hh := hh) (bytes := bytes) (maxL := maxL) (ret := ret) hM hp.1 hrc hrs hfr hlo hws hcw (fun a' U hW => word_at hW (Or.inl (by first | rfl | simp [Cond.onTables, Cond.keeps, Cond.steady])) hini)
  obtain ⟨hx, hb, hml, ho, -⟩ := S
  intro T hT X
  rcases vx_callSX X hx (hh := hh) (bytes := bytes) (maxL := maxL) (ret := ret) ho hl hstt hini hcode hy hK hg (hsize.trans hml.symm) (argsL := As) (rest := rest) (fun sig h => hn.trans (hlen sig h)) hstack hW (by rw [hb]; exact hdg)
    (fun vm₁ hW₁ => ⟨hf.1, hf.2, hp.2 (T.setVm vm₁) hT hW₁⟩) with ⟨v, vm₁, ⟨U', l2, c2, s2⟩, hW₁, X', ⟨g', mk, t, L, e1, e2, hq, h1, hL, h2, h3⟩, st⟩ | ⟨q, vm₁, ⟨U', l2, c2, s2⟩, hW₁, X', ⟨g', mk, t, L, E, ce, e1, e2, hq, hce, hcv, hcl, h1, hL, h2, h3⟩, st⟩
  · dsimp only [Pt.U, Pt.locs, Pt.cells, Pt.slots] at X' e1 e2 h1 h2 h3 st
    subst h1; subst h2; subst h3
    exact Or.inl ⟨v, (T.setVm vm₁).calling g' mk As.toArray, t, U', L, hT, X', hL, e1, e2, hq, st⟩
  · dsimp only [Pt.U, Pt.locs, Pt.cells, Pt.slots] at X' e1 e2 h1 h2 h3 st hcl
    subst h1; subst h2; subst h3
    exact Or.inr ⟨q, (T.setVm vm₁).calling g' mk As.toArray, t, U', L, E, ce, hT, X', hL, e1, e2, hq, hce, hcv, vx_cls hW₁ hcl, st⟩
end
end VXH
theorem vx_ofWH {l : Launch} {y : MethodName} {ws ws' : List Cond} {rm : Room} {Pc : Array Value → State → Prop} {Qc : Array Value → State → Outcome → State → Prop} {XC : String → State → State → Prop} {mc ms : Nat} {free : Addr → Prop} {cc : ByteArray} {maxL : Nat} {ret : Option FieldType} {hh : List (Nat × Nat × Nat × Nat)}
    (hy : plainName y.cls = true) (hw : ws = Cond.codeWith y cc maxL ret hh :: ws')
    (body : ∀ p e s m args below meth c s₁, BodyLoose p l y (headSpec ws rm) cc maxL ret e s m args below meth c s₁ → c.maxLocals = maxL → Pc args s →
      W p l e (headSpec ws rm).room s m args below meth c s.heap [] 0 0 (vx_MQ below Qc XC args s mc ms free) (entryFrame m args maxL)) : vx_Met l y ws rm Pc Qc XC mc ms free := by
  refine MetFree.of_bodyS (code := cc) (maxLocals := maxL) (ret := ret) hy ?_ ?_
  · intro args s m h hn
    obtain ⟨m9, meth, c, hn9, h1, h2, h3, h4, -, h5, h6, -⟩ := Cond.codeWith_spec (atoms_spec (ws := ws) h _ (by rw [hw]; exact List.mem_cons_self))
    cases hn.symm.trans hn9
    exact ⟨meth, c, h1, h2, h3, h4, h5, h6⟩
  · intro p e s m args below meth c s₁ B hml hP _
    have hh0 : s₁.heap = s.heap := by rw [B.state]; rfl
    obtain ⟨t, a1, o, b1, b2, b3⟩ := body p e s m args below meth c s₁ B hml hP s₁ hh0 (Stand.of_body B)
    exact ⟨t, o, a1, b1, b2, b3⟩
/-! ===== END ===== -/

def RX0 : String := "RainWishes$Book"
def TX0 : u_T := fun k => match k with
  | 0 => ("RainWishes$Book", "open", "I", false)
  | 1 => ("RainWishes$Book", "ages", "[I", true)
  | 2 => ("RainWishes$Book", "dues", "[I", true)
  | 3 => ("RainWishes$Book", "deeds", "I", false)
  | 4 => ("RainWishes$Book", "eldest", "I", false)
  | _ => ("RainWishes$Book", "past", "[[I", true)
def tyX0 : Nat → FieldType := fun k => match k with
  | 0 => .int
  | 1 => .array .int
  | 2 => .array .int
  | 3 => .int
  | 4 => .int
  | _ => .array (.array .int)
abbrev wsX00 : List Cond := u_ws RX0 TX0 6
theorem nmX0 : ∀ a, a < 6 → ∀ b, b < 6 → a ≠ b → (TX0 a).2.1 ≠ (TX0 b).2.1 := by decide +kernel
theorem tyX0_ok : ∀ k, k < 6 → parseFieldDescriptor (TX0 k).2.2.1 = some (tyX0 k) := by decide +kernel
abbrev cX0_init : ByteArray := prog_2_method_1_code
def yX0_init : MethodName := ⟨RX0, "<init>", "()V"⟩
abbrev cX0_begin : ByteArray := prog_2_method_2_code
def yX0_begin : MethodName := ⟨RX0, "begin", "(I)V"⟩
abbrev cX0_copyFrom : ByteArray := prog_2_method_3_code
def yX0_copyFrom : MethodName := ⟨RX0, "copyFrom", "(LRainWishes$Book;)V"⟩
abbrev cX0_remember : ByteArray := prog_2_method_4_code
def yX0_remember : MethodName := ⟨RX0, "remember", "()V"⟩
abbrev cX0_takeBack : ByteArray := prog_2_method_5_code
def yX0_takeBack : MethodName := ⟨RX0, "takeBack", "(I)V"⟩
abbrev cX0_pass : ByteArray := prog_2_method_6_code
def yX0_pass : MethodName := ⟨RX0, "pass", "(ILRainWishes$Sky;)V"⟩
abbrev cX0_allDues : ByteArray := prog_2_method_7_code
def yX0_allDues : MethodName := ⟨RX0, "allDues", "()I"⟩
def RX1 : String := "RainWishes$Brackets"
def TX1 : u_T := fun k => match k with
  | 0 => ("RainWishes$Brackets", "sky", "LRainWishes$Sky;", true)
  | 1 => ("RainWishes$Brackets", "choices", "LRainWishes$Choices;", true)
  | 2 => ("RainWishes$Brackets", "joint", "[I", true)
  | 3 => ("RainWishes$Brackets", "cellOf", "[I", true)
  | 4 => ("RainWishes$Brackets", "plansIn", "[I", true)
  | 5 => ("RainWishes$Brackets", "found", "[[I", true)
  | 6 => ("RainWishes$Brackets", "ways", "[I", true)
  | 7 => ("RainWishes$Brackets", "parts", "I", false)
  | _ => ("RainWishes$Brackets", "spokenOf", "I", false)
def tyX1 : Nat → FieldType := fun k => match k with
  | 0 => .object "RainWishes$Sky"
  | 1 => .object "RainWishes$Choices"
  | 2 => .array .int
  | 3 => .array .int
  | 4 => .array .int
  | 5 => .array (.array .int)
  | 6 => .array .int
  | 7 => .int
  | _ => .int
abbrev wsX10 : List Cond := u_ws RX1 TX1 9
theorem nmX1 : ∀ a, a < 9 → ∀ b, b < 9 → a ≠ b → (TX1 a).2.1 ≠ (TX1 b).2.1 := by decide +kernel
theorem tyX1_ok : ∀ k, k < 9 → parseFieldDescriptor (TX1 k).2.2.1 = some (tyX1 k) := by decide +kernel
abbrev cX1_init : ByteArray := prog_3_method_1_code
def yX1_init : MethodName := ⟨RX1, "<init>", "(LRainWishes$Sky;LRainWishes$Choices;)V"⟩
abbrev cX1_take : ByteArray := prog_3_method_2_code
def yX1_take : MethodName := ⟨RX1, "take", "(LRainWishes$Tray;)Z"⟩
abbrev cX1_takePart : ByteArray := prog_3_method_3_code
def yX1_takePart : MethodName := ⟨RX1, "takePart", "(II)V"⟩
abbrev cX1_placeOfCell : ByteArray := prog_3_method_4_code
def yX1_placeOfCell : MethodName := ⟨RX1, "placeOfCell", "(I)I"⟩
abbrev cX1_bracket : ByteArray := prog_3_method_5_code
def yX1_bracket : MethodName := ⟨RX1, "bracket", "()V"⟩
abbrev cX1_joinAt : ByteArray := prog_3_method_6_code
def yX1_joinAt : MethodName := ⟨RX1, "joinAt", "(III)V"⟩
abbrev cX1_all : ByteArray := prog_3_method_7_code
def yX1_all : MethodName := ⟨RX1, "all", "()I"⟩
abbrev cX1_unlike : ByteArray := prog_3_method_8_code
def yX1_unlike : MethodName := ⟨RX1, "unlike", "()I"⟩
abbrev cX1_isNew : ByteArray := prog_3_method_9_code
def yX1_isNew : MethodName := ⟨RX1, "isNew", "(I)Z"⟩
abbrev cX1_heldIn : ByteArray := prog_3_method_10_code
def yX1_heldIn : MethodName := ⟨RX1, "heldIn", "(Z)I"⟩
abbrev cX1_sortPlans : ByteArray := prog_3_method_11_code
def yX1_sortPlans : MethodName := ⟨RX1, "sortPlans", "()V"⟩
abbrev cX1_plansOf : ByteArray := prog_3_method_12_code
def yX1_plansOf : MethodName := ⟨RX1, "plansOf", "(I)I"⟩
def RX2 : String := "RainWishes$Choices"
def TX2 : u_T := fun k => match k with
  | 0 => ("RainWishes$Choices", "sky", "LRainWishes$Sky;", true)
  | 1 => ("RainWishes$Choices", "book", "LRainWishes$Book;", true)
  | 2 => ("RainWishes$Choices", "field", "LRainWishes$Field;", true)
  | 3 => ("RainWishes$Choices", "able", "[I", true)
  | 4 => ("RainWishes$Choices", "ables", "I", false)
  | 5 => ("RainWishes$Choices", "least", "[I", true)
  | 6 => ("RainWishes$Choices", "fewest", "[I", true)
  | 7 => ("RainWishes$Choices", "open", "I", false)
  | _ => ("RainWishes$Choices", "fresh", "Z", false)
def tyX2 : Nat → FieldType := fun k => match k with
  | 0 => .object "RainWishes$Sky"
  | 1 => .object "RainWishes$Book"
  | 2 => .object "RainWishes$Field"
  | 3 => .array .int
  | 4 => .int
  | 5 => .array .int
  | 6 => .array .int
  | 7 => .int
  | _ => .boolean
abbrev wsX20 : List Cond := u_ws RX2 TX2 9
theorem nmX2 : ∀ a, a < 9 → ∀ b, b < 9 → a ≠ b → (TX2 a).2.1 ≠ (TX2 b).2.1 := by decide +kernel
theorem tyX2_ok : ∀ k, k < 9 → parseFieldDescriptor (TX2 k).2.2.1 = some (tyX2 k) := by decide +kernel
abbrev cX2_init : ByteArray := prog_4_method_1_code
def yX2_init : MethodName := ⟨RX2, "<init>", "(LRainWishes$Sky;LRainWishes$Book;LRainWishes$Field;)V"⟩
abbrev cX2_forget : ByteArray := prog_4_method_2_code
def yX2_forget : MethodName := ⟨RX2, "forget", "()V"⟩
abbrev cX2_settled : ByteArray := prog_4_method_3_code
def yX2_settled : MethodName := ⟨RX2, "settled", "()LRainWishes$Choices;"⟩
abbrev cX2_settle : ByteArray := prog_4_method_4_code
def yX2_settle : MethodName := ⟨RX2, "settle", "()V"⟩
abbrev cX2_spread : ByteArray := prog_4_method_5_code
def yX2_spread : MethodName := ⟨RX2, "spread", "()V"⟩
abbrev cX2_lesser : ByteArray := prog_4_method_6_code
def yX2_lesser : MethodName := ⟨RX2, "lesser", "(II)I"⟩
abbrev cX2_leastPlan : ByteArray := prog_4_method_7_code
def yX2_leastPlan : MethodName := ⟨RX2, "leastPlan", "(I)I"⟩
abbrev cX2_areTogether : ByteArray := prog_4_method_8_code
def yX2_areTogether : MethodName := ⟨RX2, "areTogether", "(I)Z"⟩
abbrev cX2_smallestQuarrel : ByteArray := prog_4_method_9_code
def yX2_smallestQuarrel : MethodName := ⟨RX2, "smallestQuarrel", "(I)I"⟩
abbrev cX2_foesOf : ByteArray := prog_4_method_10_code
def yX2_foesOf : MethodName := ⟨RX2, "foesOf", "(I)I"⟩
abbrev cX2_mostPlan : ByteArray := prog_4_method_11_code
def yX2_mostPlan : MethodName := ⟨RX2, "mostPlan", "()I"⟩
abbrev cX2_nightsForAll : ByteArray := prog_4_method_12_code
def yX2_nightsForAll : MethodName := ⟨RX2, "nightsForAll", "()I"⟩
abbrev cX2_nightsFor : ByteArray := prog_4_method_13_code
def yX2_nightsFor : MethodName := ⟨RX2, "nightsFor", "(I)I"⟩
abbrev cX2_givenUpFor : ByteArray := prog_4_method_14_code
def yX2_givenUpFor : MethodName := ⟨RX2, "givenUpFor", "(I)I"⟩
abbrev cX2_followersOf : ByteArray := prog_4_method_15_code
def yX2_followersOf : MethodName := ⟨RX2, "followersOf", "(I)I"⟩
abbrev cX2_sureCells : ByteArray := prog_4_method_16_code
def yX2_sureCells : MethodName := ⟨RX2, "sureCells", "(IZ)I"⟩
abbrev cX2_weightExpected : ByteArray := prog_4_method_17_code
def yX2_weightExpected : MethodName := ⟨RX2, "weightExpected", "(II)J"⟩
abbrev cX2_bestByChance : ByteArray := prog_4_method_18_code
def yX2_bestByChance : MethodName := ⟨RX2, "bestByChance", "(I)I"⟩
abbrev cX2_power : ByteArray := prog_4_method_19_code
def yX2_power : MethodName := ⟨RX2, "power", "(II)J"⟩
def RX3 : String := "RainWishes$Field"
def TX3 : u_T := fun k => match k with
  | 0 => ("RainWishes$Field", "sky", "LRainWishes$Sky;", true)
  | 1 => ("RainWishes$Field", "held", "[I", true)
  | _ => ("RainWishes$Field", "stack", "[I", true)
def tyX3 : Nat → FieldType := fun k => match k with
  | 0 => .object "RainWishes$Sky"
  | 1 => .array .int
  | _ => .array .int
abbrev wsX30 : List Cond := u_ws RX3 TX3 3
theorem nmX3 : ∀ a, a < 3 → ∀ b, b < 3 → a ≠ b → (TX3 a).2.1 ≠ (TX3 b).2.1 := by decide +kernel
theorem tyX3_ok : ∀ k, k < 3 → parseFieldDescriptor (TX3 k).2.2.1 = some (tyX3 k) := by decide +kernel
abbrev cX3_init : ByteArray := prog_5_method_1_code
def yX3_init : MethodName := ⟨RX3, "<init>", "(LRainWishes$Sky;)V"⟩
abbrev cX3_forget : ByteArray := prog_5_method_2_code
def yX3_forget : MethodName := ⟨RX3, "forget", "()V"⟩
abbrev cX3_at : ByteArray := prog_5_method_3_code
def yX3_at : MethodName := ⟨RX3, "at", "(I)I"⟩
abbrev cX3_truthOf : ByteArray := prog_5_method_4_code
def yX3_truthOf : MethodName := ⟨RX3, "truthOf", "(II)I"⟩
abbrev cX3_reckon : ByteArray := prog_5_method_5_code
def yX3_reckon : MethodName := ⟨RX3, "reckon", "(IJJ)J"⟩
abbrev cX3_kept : ByteArray := prog_5_method_6_code
def yX3_kept : MethodName := ⟨RX3, "kept", "(J)I"⟩
abbrev cX3_weathersOf : ByteArray := prog_5_method_7_code
def yX3_weathersOf : MethodName := ⟨RX3, "weathersOf", "(I)I"⟩
abbrev cX3_grantedBy : ByteArray := prog_5_method_8_code
def yX3_grantedBy : MethodName := ⟨RX3, "grantedBy", "(II)I"⟩
abbrev cX3_whyNot : ByteArray := prog_5_method_9_code
def yX3_whyNot : MethodName := ⟨RX3, "whyNot", "(JI)I"⟩
def RX4 : String := "RainWishes$Holding"
def TX4 : u_T := fun k => match k with
  | 0 => ("RainWishes$Holding", "weights", "[I", true)
  | 1 => ("RainWishes$Holding", "many", "I", false)
  | 2 => ("RainWishes$Holding", "worth", "[[J", true)
  | _ => ("RainWishes$Holding", "scale", "[J", true)
def tyX4 : Nat → FieldType := fun k => match k with
  | 0 => .array .int
  | 1 => .int
  | 2 => .array (.array .long)
  | _ => .array .long
abbrev wsX40 : List Cond := u_ws RX4 TX4 4
theorem nmX4 : ∀ a, a < 4 → ∀ b, b < 4 → a ≠ b → (TX4 a).2.1 ≠ (TX4 b).2.1 := by decide +kernel
theorem tyX4_ok : ∀ k, k < 4 → parseFieldDescriptor (TX4 k).2.2.1 = some (tyX4 k) := by decide +kernel
abbrev cX4_init : ByteArray := prog_6_method_1_code
def yX4_init : MethodName := ⟨RX4, "<init>", "()V"⟩
abbrev cX4_take : ByteArray := prog_6_method_2_code
def yX4_take : MethodName := ⟨RX4, "take", "(LRainWishes$Tray;)Z"⟩
abbrev cX4_reckon : ByteArray := prog_6_method_3_code
def yX4_reckon : MethodName := ⟨RX4, "reckon", "(I)V"⟩
abbrev cX4_byGranting : ByteArray := prog_6_method_4_code
def yX4_byGranting : MethodName := ⟨RX4, "byGranting", "(III)J"⟩
abbrev cX4_worthOf : ByteArray := prog_6_method_5_code
def yX4_worthOf : MethodName := ⟨RX4, "worthOf", "(II)J"⟩
abbrev cX4_leastNow : ByteArray := prog_6_method_6_code
def yX4_leastNow : MethodName := ⟨RX4, "leastNow", "(II)I"⟩
def RX5 : String := "RainWishes$Meant"
def TX5 : u_T := fun k => match k with
  | 0 => ("RainWishes$Meant", "sky", "LRainWishes$Sky;", true)
  | 1 => ("RainWishes$Meant", "told", "[I", true)
  | 2 => ("RainWishes$Meant", "many", "I", false)
  | 3 => ("RainWishes$Meant", "care", "I", false)
  | 4 => ("RainWishes$Meant", "wet", "I", false)
  | 5 => ("RainWishes$Meant", "cells", "I", false)
  | _ => ("RainWishes$Meant", "ways", "I", false)
def tyX5 : Nat → FieldType := fun k => match k with
  | 0 => .object "RainWishes$Sky"
  | 1 => .array .int
  | 2 => .int
  | 3 => .int
  | 4 => .int
  | 5 => .int
  | _ => .int
abbrev wsX50 : List Cond := u_ws RX5 TX5 7
theorem nmX5 : ∀ a, a < 7 → ∀ b, b < 7 → a ≠ b → (TX5 a).2.1 ≠ (TX5 b).2.1 := by decide +kernel
theorem tyX5_ok : ∀ k, k < 7 → parseFieldDescriptor (TX5 k).2.2.1 = some (tyX5 k) := by decide +kernel
abbrev cX5_init : ByteArray := prog_7_method_1_code
def yX5_init : MethodName := ⟨RX5, "<init>", "(LRainWishes$Sky;)V"⟩
abbrev cX5_take : ByteArray := prog_7_method_2_code
def yX5_take : MethodName := ⟨RX5, "take", "(LRainWishes$Tray;)Z"⟩
abbrev cX5_find : ByteArray := prog_7_method_3_code
def yX5_find : MethodName := ⟨RX5, "find", "()V"⟩
abbrev cX5_search : ByteArray := prog_7_method_4_code
def yX5_search : MethodName := ⟨RX5, "search", "(IIII)V"⟩
abbrev cX5_fits : ByteArray := prog_7_method_5_code
def yX5_fits : MethodName := ⟨RX5, "fits", "(II)Z"⟩
abbrev cX5_keep : ByteArray := prog_7_method_6_code
def yX5_keep : MethodName := ⟨RX5, "keep", "(II)V"⟩
abbrev cX5_numberAt : ByteArray := prog_7_method_7_code
def yX5_numberAt : MethodName := ⟨RX5, "numberAt", "(I)I"⟩
def RX6 : String := "RainWishes$Parser"
def TX6 : u_T := fun k => match k with
  | 0 => ("RainWishes$Parser", "tokens", "LRainWishes$Tokens;", true)
  | 1 => ("RainWishes$Parser", "sky", "LRainWishes$Sky;", true)
  | 2 => ("RainWishes$Parser", "waiting", "[I", true)
  | 3 => ("RainWishes$Parser", "top", "I", false)
  | 4 => ("RainWishes$Parser", "nested", "I", false)
  | 5 => ("RainWishes$Parser", "parens", "I", false)
  | 6 => ("RainWishes$Parser", "squares", "I", false)
  | 7 => ("RainWishes$Parser", "compared", "Z", false)
  | 8 => ("RainWishes$Parser", "state", "I", false)
  | 9 => ("RainWishes$Parser", "number", "I", false)
  | 10 => ("RainWishes$Parser", "fault", "I", false)
  | _ => ("RainWishes$Parser", "place", "I", false)
def tyX6 : Nat → FieldType := fun k => match k with
  | 0 => .object "RainWishes$Tokens"
  | 1 => .object "RainWishes$Sky"
  | 2 => .array .int
  | 3 => .int
  | 4 => .int
  | 5 => .int
  | 6 => .int
  | 7 => .boolean
  | 8 => .int
  | 9 => .int
  | 10 => .int
  | _ => .int
abbrev wsX60 : List Cond := u_ws RX6 TX6 12
theorem nmX6 : ∀ a, a < 12 → ∀ b, b < 12 → a ≠ b → (TX6 a).2.1 ≠ (TX6 b).2.1 := by decide +kernel
theorem tyX6_ok : ∀ k, k < 12 → parseFieldDescriptor (TX6 k).2.2.1 = some (tyX6 k) := by decide +kernel
abbrev cX6_init : ByteArray := prog_8_method_1_code
def yX6_init : MethodName := ⟨RX6, "<init>", "([BLRainWishes$Sky;)V"⟩
abbrev cX6_parse : ByteArray := prog_8_method_2_code
def yX6_parse : MethodName := ⟨RX6, "parse", "(I)Z"⟩
abbrev cX6_refuse : ByteArray := prog_8_method_3_code
def yX6_refuse : MethodName := ⟨RX6, "refuse", "(I)Z"⟩
abbrev cX6_take : ByteArray := prog_8_method_4_code
def yX6_take : MethodName := ⟨RX6, "take", "(Ljava/lang/String;)Z"⟩
abbrev cX6_takeNumber : ByteArray := prog_8_method_5_code
def yX6_takeNumber : MethodName := ⟨RX6, "takeNumber", "(II)Z"⟩
abbrev cX6_readSky : ByteArray := prog_8_method_6_code
def yX6_readSky : MethodName := ⟨RX6, "readSky", "()Z"⟩
abbrev cX6_endLine : ByteArray := prog_8_method_7_code
def yX6_endLine : MethodName := ⟨RX6, "endLine", "()Z"⟩
abbrev cX6_readLine : ByteArray := prog_8_method_8_code
def yX6_readLine : MethodName := ⟨RX6, "readLine", "()Z"⟩
abbrev cX6_readWish : ByteArray := prog_8_method_9_code
def yX6_readWish : MethodName := ⟨RX6, "readWish", "()Z"⟩
abbrev cX6_readOperand : ByteArray := prog_8_method_10_code
def yX6_readOperand : MethodName := ⟨RX6, "readOperand", "()Z"⟩
abbrev cX6_open : ByteArray := prog_8_method_11_code
def yX6_open : MethodName := ⟨RX6, "open", "(II)Z"⟩
abbrev cX6_await : ByteArray := prog_8_method_12_code
def yX6_await : MethodName := ⟨RX6, "await", "(II)Z"⟩
abbrev cX6_readAtom : ByteArray := prog_8_method_13_code
def yX6_readAtom : MethodName := ⟨RX6, "readAtom", "()Z"⟩
abbrev cX6_readOperator : ByteArray := prog_8_method_14_code
def yX6_readOperator : MethodName := ⟨RX6, "readOperator", "()Z"⟩
abbrev cX6_arithmeticSign : ByteArray := prog_8_method_15_code
def yX6_arithmeticSign : MethodName := ⟨RX6, "arithmeticSign", "()I"⟩
abbrev cX6_comparingSign : ByteArray := prog_8_method_16_code
def yX6_comparingSign : MethodName := ⟨RX6, "comparingSign", "()I"⟩
abbrev cX6_join : ByteArray := prog_8_method_17_code
def yX6_join : MethodName := ⟨RX6, "join", "(II)Z"⟩
abbrev cX6_close : ByteArray := prog_8_method_18_code
def yX6_close : MethodName := ⟨RX6, "close", "(I)Z"⟩
abbrev cX6_endWish : ByteArray := prog_8_method_19_code
def yX6_endWish : MethodName := ⟨RX6, "endWish", "()V"⟩
abbrev cX6_settleDownTo : ByteArray := prog_8_method_20_code
def yX6_settleDownTo : MethodName := ⟨RX6, "settleDownTo", "(I)V"⟩
def RX7 : String := "RainWishes$Rules"
def TX7 : u_T := fun k => match k with
  | 0 => ("RainWishes$Rules", "sky", "LRainWishes$Sky;", true)
  | 1 => ("RainWishes$Rules", "book", "LRainWishes$Book;", true)
  | 2 => ("RainWishes$Rules", "choices", "LRainWishes$Choices;", true)
  | 3 => ("RainWishes$Rules", "saidWeight", "[I", true)
  | 4 => ("RainWishes$Rules", "saidAge", "[I", true)
  | 5 => ("RainWishes$Rules", "saidOpen", "I", false)
  | 6 => ("RainWishes$Rules", "gain", "I", false)
  | _ => ("RainWishes$Rules", "form", "I", false)
def tyX7 : Nat → FieldType := fun k => match k with
  | 0 => .object "RainWishes$Sky"
  | 1 => .object "RainWishes$Book"
  | 2 => .object "RainWishes$Choices"
  | 3 => .array .int
  | 4 => .array .int
  | 5 => .int
  | 6 => .int
  | _ => .int
abbrev wsX70 : List Cond := u_ws RX7 TX7 8
theorem nmX7 : ∀ a, a < 8 → ∀ b, b < 8 → a ≠ b → (TX7 a).2.1 ≠ (TX7 b).2.1 := by decide +kernel
theorem tyX7_ok : ∀ k, k < 8 → parseFieldDescriptor (TX7 k).2.2.1 = some (tyX7 k) := by decide +kernel
abbrev cX7_init : ByteArray := prog_9_method_1_code
def yX7_init : MethodName := ⟨RX7, "<init>", "(LRainWishes$Sky;LRainWishes$Book;LRainWishes$Choices;)V"⟩
abbrev cX7_servedAsAsked : ByteArray := prog_9_method_2_code
def yX7_servedAsAsked : MethodName := ⟨RX7, "servedAsAsked", "(I)I"⟩
abbrev cX7_sayAsItIs : ByteArray := prog_9_method_3_code
def yX7_sayAsItIs : MethodName := ⟨RX7, "sayAsItIs", "()V"⟩
abbrev cX7_serve : ByteArray := prog_9_method_4_code
def yX7_serve : MethodName := ⟨RX7, "serve", "(I)I"⟩
abbrev cX7_firstOf : ByteArray := prog_9_method_5_code
def yX7_firstOf : MethodName := ⟨RX7, "firstOf", "(II)I"⟩
abbrev cX7_turnOf : ByteArray := prog_9_method_6_code
def yX7_turnOf : MethodName := ⟨RX7, "turnOf", "(II)I"⟩
abbrev cX7_openOf : ByteArray := prog_9_method_7_code
def yX7_openOf : MethodName := ⟨RX7, "openOf", "(I)I"⟩
abbrev cX7_weightFor : ByteArray := prog_9_method_8_code
def yX7_weightFor : MethodName := ⟨RX7, "weightFor", "(II)I"⟩
abbrev cX7_findGain : ByteArray := prog_9_method_9_code
def yX7_findGain : MethodName := ⟨RX7, "findGain", "(II)V"⟩
abbrev cX7_sayOtherwise : ByteArray := prog_9_method_10_code
def yX7_sayOtherwise : MethodName := ⟨RX7, "sayOtherwise", "(II)Z"⟩
def RX8 : String := "RainWishes$Sky"
def TX8 : u_T := fun k => match k with
  | 0 => ("RainWishes$Sky", "lines", "I", false)
  | 1 => ("RainWishes$Sky", "parishes", "I", false)
  | 2 => ("RainWishes$Sky", "days", "I", false)
  | 3 => ("RainWishes$Sky", "clouds", "I", false)
  | 4 => ("RainWishes$Sky", "wind", "I", false)
  | 5 => ("RainWishes$Sky", "wishes", "I", false)
  | 6 => ("RainWishes$Sky", "musts", "I", false)
  | 7 => ("RainWishes$Sky", "cells", "I", false)
  | 8 => ("RainWishes$Sky", "allCells", "I", false)
  | 9 => ("RainWishes$Sky", "codes", "I", false)
  | 10 => ("RainWishes$Sky", "blown", "I", false)
  | 11 => ("RainWishes$Sky", "blownBy", "I", false)
  | 12 => ("RainWishes$Sky", "by", "[I", true)
  | 13 => ("RainWishes$Sky", "weight", "[I", true)
  | 14 => ("RainWishes$Sky", "from", "[I", true)
  | _ => ("RainWishes$Sky", "code", "[I", true)
def tyX8 : Nat → FieldType := fun k => match k with
  | 0 => .int
  | 1 => .int
  | 2 => .int
  | 3 => .int
  | 4 => .int
  | 5 => .int
  | 6 => .int
  | 7 => .int
  | 8 => .int
  | 9 => .int
  | 10 => .int
  | 11 => .int
  | 12 => .array .int
  | 13 => .array .int
  | 14 => .array .int
  | _ => .array .int
abbrev wsX80 : List Cond := u_ws RX8 TX8 16
theorem nmX8 : ∀ a, a < 16 → ∀ b, b < 16 → a ≠ b → (TX8 a).2.1 ≠ (TX8 b).2.1 := by decide +kernel
theorem tyX8_ok : ∀ k, k < 16 → parseFieldDescriptor (TX8 k).2.2.1 = some (tyX8 k) := by decide +kernel
abbrev cX8_init : ByteArray := prog_10_method_1_code
def yX8_init : MethodName := ⟨RX8, "<init>", "()V"⟩
abbrev cX8_clear : ByteArray := prog_10_method_2_code
def yX8_clear : MethodName := ⟨RX8, "clear", "()V"⟩
abbrev cX8_measure : ByteArray := prog_10_method_3_code
def yX8_measure : MethodName := ⟨RX8, "measure", "()V"⟩
abbrev cX8_copyFrom : ByteArray := prog_10_method_4_code
def yX8_copyFrom : MethodName := ⟨RX8, "copyFrom", "(LRainWishes$Sky;)V"⟩
abbrev cX8_emit : ByteArray := prog_10_method_5_code
def yX8_emit : MethodName := ⟨RX8, "emit", "(II)V"⟩
abbrev cX8_weatherOf : ByteArray := prog_10_method_6_code
def yX8_weatherOf : MethodName := ⟨RX8, "weatherOf", "(I)I"⟩
abbrev cX8_weightOf : ByteArray := prog_10_method_7_code
def yX8_weightOf : MethodName := ⟨RX8, "weightOf", "(I)I"⟩
abbrev cX8_cellsOfParish : ByteArray := prog_10_method_8_code
def yX8_cellsOfParish : MethodName := ⟨RX8, "cellsOfParish", "(I)I"⟩
abbrev cX8_cellsOnDay : ByteArray := prog_10_method_9_code
def yX8_cellsOnDay : MethodName := ⟨RX8, "cellsOnDay", "(I)I"⟩
def RX9 : String := "RainWishes$Tokens"
def TX9 : u_T := fun k => match k with
  | 0 => ("RainWishes$Tokens", "text", "[B", true)
  | 1 => ("RainWishes$Tokens", "length", "I", false)
  | 2 => ("RainWishes$Tokens", "end", "I", false)
  | 3 => ("RainWishes$Tokens", "start", "I", false)
  | _ => ("RainWishes$Tokens", "kind", "I", false)
def tyX9 : Nat → FieldType := fun k => match k with
  | 0 => .array .byte
  | 1 => .int
  | 2 => .int
  | 3 => .int
  | _ => .int
abbrev wsX90 : List Cond := u_ws RX9 TX9 5
theorem nmX9 : ∀ a, a < 5 → ∀ b, b < 5 → a ≠ b → (TX9 a).2.1 ≠ (TX9 b).2.1 := by decide +kernel
theorem tyX9_ok : ∀ k, k < 5 → parseFieldDescriptor (TX9 k).2.2.1 = some (tyX9 k) := by decide +kernel
abbrev cX9_init : ByteArray := prog_11_method_1_code
def yX9_init : MethodName := ⟨RX9, "<init>", "([B)V"⟩
abbrev cX9_begin : ByteArray := prog_11_method_2_code
def yX9_begin : MethodName := ⟨RX9, "begin", "(I)V"⟩
abbrev cX9_advance : ByteArray := prog_11_method_3_code
def yX9_advance : MethodName := ⟨RX9, "advance", "()V"⟩
abbrev cX9_runEnd : ByteArray := prog_11_method_4_code
def yX9_runEnd : MethodName := ⟨RX9, "runEnd", "(CC)I"⟩
abbrev cX9_at : ByteArray := prog_11_method_5_code
def yX9_at : MethodName := ⟨RX9, "at", "(Ljava/lang/String;)Z"⟩
abbrev cX9_value : ByteArray := prog_11_method_6_code
def yX9_value : MethodName := ⟨RX9, "value", "()I"⟩
def RX10 : String := "RainWishes$Tray"
def TX10 : u_T := fun k => match k with
  | 0 => ("RainWishes$Tray", "sort", "I", false)
  | 1 => ("RainWishes$Tray", "many", "I", false)
  | _ => ("RainWishes$Tray", "row", "[J", true)
def tyX10 : Nat → FieldType := fun k => match k with
  | 0 => .int
  | 1 => .int
  | _ => .array .long
abbrev wsX100 : List Cond := u_ws RX10 TX10 3
theorem nmX10 : ∀ a, a < 3 → ∀ b, b < 3 → a ≠ b → (TX10 a).2.1 ≠ (TX10 b).2.1 := by decide +kernel
theorem tyX10_ok : ∀ k, k < 3 → parseFieldDescriptor (TX10 k).2.2.1 = some (tyX10 k) := by decide +kernel
abbrev cX10_init : ByteArray := prog_12_method_1_code
def yX10_init : MethodName := ⟨RX10, "<init>", "()V"⟩
abbrev cX10_lay : ByteArray := prog_12_method_2_code
def yX10_lay : MethodName := ⟨RX10, "lay", "(II)V"⟩
abbrev cX10_put : ByteArray := prog_12_method_3_code
def yX10_put : MethodName := ⟨RX10, "put", "(IJ)J"⟩
def RX11 : String := "RainWishes"
def TX11 : u_T := fun k => match k with
  | 0 => ("RainWishes", "tape", "[B", true)
  | 1 => ("RainWishes", "onTape", "I", false)
  | 2 => ("RainWishes", "sky", "LRainWishes$Sky;", true)
  | 3 => ("RainWishes", "draft", "LRainWishes$Sky;", true)
  | 4 => ("RainWishes", "parser", "LRainWishes$Parser;", true)
  | 5 => ("RainWishes", "book", "LRainWishes$Book;", true)
  | 6 => ("RainWishes", "field", "LRainWishes$Field;", true)
  | 7 => ("RainWishes", "choices", "LRainWishes$Choices;", true)
  | 8 => ("RainWishes", "rules", "LRainWishes$Rules;", true)
  | 9 => ("RainWishes", "meant", "LRainWishes$Meant;", true)
  | 10 => ("RainWishes", "brackets", "LRainWishes$Brackets;", true)
  | 11 => ("RainWishes", "reserve", "LRainWishes$Holding;", true)
  | 12 => ("RainWishes", "trays", "[LRainWishes$Tray;", true)
  | 13 => ("RainWishes", "imageSkies", "[LRainWishes$Sky;", true)
  | 14 => ("RainWishes", "imageBooks", "[LRainWishes$Book;", true)
  | _ => ("RainWishes", "imaged", "[Z", true)
def tyX11 : Nat → FieldType := fun k => match k with
  | 0 => .array .byte
  | 1 => .int
  | 2 => .object "RainWishes$Sky"
  | 3 => .object "RainWishes$Sky"
  | 4 => .object "RainWishes$Parser"
  | 5 => .object "RainWishes$Book"
  | 6 => .object "RainWishes$Field"
  | 7 => .object "RainWishes$Choices"
  | 8 => .object "RainWishes$Rules"
  | 9 => .object "RainWishes$Meant"
  | 10 => .object "RainWishes$Brackets"
  | 11 => .object "RainWishes$Holding"
  | 12 => .array (.object "RainWishes$Tray")
  | 13 => .array (.object "RainWishes$Sky")
  | 14 => .array (.object "RainWishes$Book")
  | _ => .array .boolean
abbrev wsX110 : List Cond := u_ws RX11 TX11 16
theorem nmX11 : ∀ a, a < 16 → ∀ b, b < 16 → a ≠ b → (TX11 a).2.1 ≠ (TX11 b).2.1 := by decide +kernel
theorem tyX11_ok : ∀ k, k < 16 → parseFieldDescriptor (TX11 k).2.2.1 = some (tyX11 k) := by decide +kernel
abbrev cX11_init : ByteArray := prog_1_method_1_code
def yX11_init : MethodName := ⟨RX11, "<init>", "()V"⟩
abbrev cX11_feed : ByteArray := prog_1_method_2_code
def yX11_feed : MethodName := ⟨RX11, "feed", "(IIIII)I"⟩
abbrev cX11_lay : ByteArray := prog_1_method_3_code
def yX11_lay : MethodName := ⟨RX11, "lay", "(I)V"⟩
abbrev cX11_sky : ByteArray := prog_1_method_4_code
def yX11_sky : MethodName := ⟨RX11, "sky", "(I)I"⟩
abbrev cX11_forgetWhatWasFound : ByteArray := prog_1_method_5_code
def yX11_forgetWhatWasFound : MethodName := ⟨RX11, "forgetWhatWasFound", "()V"⟩
abbrev cX11_fault : ByteArray := prog_1_method_6_code
def yX11_fault : MethodName := ⟨RX11, "fault", "(I)I"⟩
abbrev cX11_wish : ByteArray := prog_1_method_7_code
def yX11_wish : MethodName := ⟨RX11, "wish", "(II)I"⟩
abbrev cX11_weather : ByteArray := prog_1_method_8_code
def yX11_weather : MethodName := ⟨RX11, "weather", "(I)I"⟩
abbrev cX11_holds : ByteArray := prog_1_method_9_code
def yX11_holds : MethodName := ⟨RX11, "holds", "(II)Z"⟩
abbrev cX11_why : ByteArray := prog_1_method_10_code
def yX11_why : MethodName := ⟨RX11, "why", "(I)I"⟩
abbrev cX11_granted : ByteArray := prog_1_method_11_code
def yX11_granted : MethodName := ⟨RX11, "granted", "(I)I"⟩
abbrev cX11_plans : ByteArray := prog_1_method_12_code
def yX11_plans : MethodName := ⟨RX11, "plans", "()I"⟩
abbrev cX11_checkWish : ByteArray := prog_1_method_13_code
def yX11_checkWish : MethodName := ⟨RX11, "checkWish", "(I)V"⟩
abbrev cX11_checkOpen : ByteArray := prog_1_method_14_code
def yX11_checkOpen : MethodName := ⟨RX11, "checkOpen", "(I)V"⟩
abbrev cX11_checkCells : ByteArray := prog_1_method_15_code
def yX11_checkCells : MethodName := ⟨RX11, "checkCells", "(I)V"⟩
abbrev cX11_checkSet : ByteArray := prog_1_method_16_code
def yX11_checkSet : MethodName := ⟨RX11, "checkSet", "(I)V"⟩
abbrev cX11_checkPerson : ByteArray := prog_1_method_17_code
def yX11_checkPerson : MethodName := ⟨RX11, "checkPerson", "(I)V"⟩
abbrev cX11_checkRule : ByteArray := prog_1_method_18_code
def yX11_checkRule : MethodName := ⟨RX11, "checkRule", "(I)V"⟩
abbrev cX11_checkWhat : ByteArray := prog_1_method_19_code
def yX11_checkWhat : MethodName := ⟨RX11, "checkWhat", "(II)V"⟩
abbrev cX11_checkHundredths : ByteArray := prog_1_method_20_code
def yX11_checkHundredths : MethodName := ⟨RX11, "checkHundredths", "(I)V"⟩
abbrev cX11_trayThere : ByteArray := prog_1_method_21_code
def yX11_trayThere : MethodName := ⟨RX11, "trayThere", "(I)LRainWishes$Tray;"⟩
abbrev cX11_together : ByteArray := prog_1_method_22_code
def yX11_together : MethodName := ⟨RX11, "together", "(I)I"⟩
abbrev cX11_quarrel : ByteArray := prog_1_method_23_code
def yX11_quarrel : MethodName := ⟨RX11, "quarrel", "(I)I"⟩
abbrev cX11_foes : ByteArray := prog_1_method_24_code
def yX11_foes : MethodName := ⟨RX11, "foes", "(I)I"⟩
abbrev cX11_most : ByteArray := prog_1_method_25_code
def yX11_most : MethodName := ⟨RX11, "most", "(I)I"⟩
abbrev cX11_nights : ByteArray := prog_1_method_26_code
def yX11_nights : MethodName := ⟨RX11, "nights", "()I"⟩
abbrev cX11_hearts : ByteArray := prog_1_method_27_code
def yX11_hearts : MethodName := ⟨RX11, "hearts", "(II)I"⟩
abbrev cX11_follows : ByteArray := prog_1_method_28_code
def yX11_follows : MethodName := ⟨RX11, "follows", "(I)I"⟩
abbrev cX11_sure : ByteArray := prog_1_method_29_code
def yX11_sure : MethodName := ⟨RX11, "sure", "(IZ)I"⟩
abbrev cX11_expected : ByteArray := prog_1_method_30_code
def yX11_expected : MethodName := ⟨RX11, "expected", "(II)J"⟩
abbrev cX11_bestChance : ByteArray := prog_1_method_31_code
def yX11_bestChance : MethodName := ⟨RX11, "bestChance", "(I)I"⟩
abbrev cX11_served : ByteArray := prog_1_method_32_code
def yX11_served : MethodName := ⟨RX11, "served", "(I)I"⟩
abbrev cX11_share : ByteArray := prog_1_method_33_code
def yX11_share : MethodName := ⟨RX11, "share", "(II)I"⟩
abbrev cX11_gains : ByteArray := prog_1_method_34_code
def yX11_gains : MethodName := ⟨RX11, "gains", "(III)I"⟩
abbrev cX11_bestRule : ByteArray := prog_1_method_35_code
def yX11_bestRule : MethodName := ⟨RX11, "bestRule", "()I"⟩
abbrev cX11_wants : ByteArray := prog_1_method_36_code
def yX11_wants : MethodName := ⟨RX11, "wants", "(II)I"⟩
abbrev cX11_readings : ByteArray := prog_1_method_37_code
def yX11_readings : MethodName := ⟨RX11, "readings", "(II)I"⟩
abbrev cX11_night : ByteArray := prog_1_method_38_code
def yX11_night : MethodName := ⟨RX11, "night", "(I)I"⟩
abbrev cX11_makeNight : ByteArray := prog_1_method_39_code
def yX11_makeNight : MethodName := ⟨RX11, "makeNight", "(I)I"⟩
abbrev cX11_thank : ByteArray := prog_1_method_40_code
def yX11_thank : MethodName := ⟨RX11, "thank", "(II)I"⟩
abbrev cX11_owes : ByteArray := prog_1_method_41_code
def yX11_owes : MethodName := ⟨RX11, "owes", "(I)I"⟩
abbrev cX11_withdraw : ByteArray := prog_1_method_42_code
def yX11_withdraw : MethodName := ⟨RX11, "withdraw", "(I)I"⟩
abbrev cX11_again : ByteArray := prog_1_method_43_code
def yX11_again : MethodName := ⟨RX11, "again", "(I)I"⟩
abbrev cX11_undo : ByteArray := prog_1_method_44_code
def yX11_undo : MethodName := ⟨RX11, "undo", "(I)I"⟩
abbrev cX11_judge : ByteArray := prog_1_method_45_code
def yX11_judge : MethodName := ⟨RX11, "judge", "(II)I"⟩
abbrev cX11_perform : ByteArray := prog_1_method_46_code
def yX11_perform : MethodName := ⟨RX11, "perform", "(I)I"⟩
abbrev cX11_season : ByteArray := prog_1_method_47_code
def yX11_season : MethodName := ⟨RX11, "season", "(II)I"⟩
abbrev cX11_drawn : ByteArray := prog_1_method_48_code
def yX11_drawn : MethodName := ⟨RX11, "drawn", "(I)I"⟩
abbrev cX11_holding : ByteArray := prog_1_method_49_code
def yX11_holding : MethodName := ⟨RX11, "holding", "(III)J"⟩
abbrev cX11_grants : ByteArray := prog_1_method_50_code
def yX11_grants : MethodName := ⟨RX11, "grants", "(III)I"⟩
abbrev cX11_takeReserve : ByteArray := prog_1_method_51_code
def yX11_takeReserve : MethodName := ⟨RX11, "takeReserve", "(III)V"⟩
abbrev cX11_tray : ByteArray := prog_1_method_52_code
def yX11_tray : MethodName := ⟨RX11, "tray", "(III)V"⟩
abbrev cX11_write : ByteArray := prog_1_method_53_code
def yX11_write : MethodName := ⟨RX11, "write", "(IIJ)J"⟩
abbrev cX11_pour : ByteArray := prog_1_method_54_code
def yX11_pour : MethodName := ⟨RX11, "pour", "(I)I"⟩
abbrev cX11_image : ByteArray := prog_1_method_55_code
def yX11_image : MethodName := ⟨RX11, "image", "(I)V"⟩
abbrev cX11_restore : ByteArray := prog_1_method_56_code
def yX11_restore : MethodName := ⟨RX11, "restore", "(I)V"⟩
abbrev cX11_checkImage : ByteArray := prog_1_method_57_code
def yX11_checkImage : MethodName := ⟨RX11, "checkImage", "(I)V"⟩
abbrev cX11_count : ByteArray := prog_1_method_58_code
def yX11_count : MethodName := ⟨RX11, "count", "(I)I"⟩
def RX12 : String := "RainWishesModel"
def TX12 : u_T := fun k => match k with
  | 0 => ("RainWishesModel", "known", "[I", true)
  | 1 => ("RainWishesModel", "fresh", "[I", true)
  | 2 => ("RainWishesModel", "images", "[I", true)
  | 3 => ("RainWishesModel", "kept", "[I", true)
  | 4 => ("RainWishesModel", "isImage", "[Z", true)
  | 5 => ("RainWishesModel", "thrown", "I", false)
  | 6 => ("RainWishesModel", "tape", "[I", true)
  | 7 => ("RainWishesModel", "taped", "I", false)
  | 8 => ("RainWishesModel", "length", "I", false)
  | 9 => ("RainWishesModel", "at", "I", false)
  | 10 => ("RainWishesModel", "begin", "I", false)
  | 11 => ("RainWishesModel", "token", "I", false)
  | 12 => ("RainWishesModel", "value", "I", false)
  | 13 => ("RainWishesModel", "bad", "I", false)
  | 14 => ("RainWishesModel", "badPlace", "I", false)
  | 15 => ("RainWishesModel", "faultKind", "I", false)
  | 16 => ("RainWishesModel", "faultPlace", "I", false)
  | 17 => ("RainWishesModel", "deep", "I", false)
  | 18 => ("RainWishesModel", "truth", "[Z", true)
  | 19 => ("RainWishesModel", "weatherBy", "[I", true)
  | 20 => ("RainWishesModel", "stack", "[I", true)
  | 21 => ("RainWishesModel", "grantedBy", "[I", true)
  | 22 => ("RainWishesModel", "go", "[Z", true)
  | 23 => ("RainWishesModel", "nightsBy", "[I", true)
  | 24 => ("RainWishesModel", "keys", "[I", true)
  | 25 => ("RainWishesModel", "askedAge", "[I", true)
  | 26 => ("RainWishesModel", "askedWeight", "[I", true)
  | 27 => ("RainWishesModel", "wanted", "[I", true)
  | 28 => ("RainWishesModel", "wantedFirst", "[I", true)
  | 29 => ("RainWishesModel", "wantedMany", "I", false)
  | 30 => ("RainWishesModel", "reading", "[J", true)
  | 31 => ("RainWishesModel", "readFirst", "[I", true)
  | 32 => ("RainWishesModel", "readMany", "[I", true)
  | 33 => ("RainWishesModel", "readAll", "I", false)
  | 34 => ("RainWishesModel", "state", "I", false)
  | 35 => ("RainWishesModel", "worth", "[J", true)
  | 36 => ("RainWishesModel", "tSort", "[I", true)
  | 37 => ("RainWishesModel", "tMany", "[I", true)
  | _ => ("RainWishesModel", "numbers", "[J", true)
def tyX12 : Nat → FieldType := fun k => match k with
  | 0 => .array .int
  | 1 => .array .int
  | 2 => .array .int
  | 3 => .array .int
  | 4 => .array .boolean
  | 5 => .int
  | 6 => .array .int
  | 7 => .int
  | 8 => .int
  | 9 => .int
  | 10 => .int
  | 11 => .int
  | 12 => .int
  | 13 => .int
  | 14 => .int
  | 15 => .int
  | 16 => .int
  | 17 => .int
  | 18 => .array .boolean
  | 19 => .array .int
  | 20 => .array .int
  | 21 => .array .int
  | 22 => .array .boolean
  | 23 => .array .int
  | 24 => .array .int
  | 25 => .array .int
  | 26 => .array .int
  | 27 => .array .int
  | 28 => .array .int
  | 29 => .int
  | 30 => .array .long
  | 31 => .array .int
  | 32 => .array .int
  | 33 => .int
  | 34 => .int
  | 35 => .array .long
  | 36 => .array .int
  | 37 => .array .int
  | _ => .array .long
abbrev wsX120 : List Cond := u_ws RX12 TX12 39
theorem nmX12 : ∀ a, a < 39 → ∀ b, b < 39 → a ≠ b → (TX12 a).2.1 ≠ (TX12 b).2.1 := by decide +kernel
theorem tyX12_ok : ∀ k, k < 39 → parseFieldDescriptor (TX12 k).2.2.1 = some (tyX12 k) := by decide +kernel
abbrev cX12_init : ByteArray := prog_14_method_1_code
def yX12_init : MethodName := ⟨RX12, "<init>", "()V"⟩
abbrev cX12_thrown : ByteArray := prog_14_method_2_code
def yX12_thrown : MethodName := ⟨RX12, "thrown", "()I"⟩
abbrev cX12_fails : ByteArray := prog_14_method_3_code
def yX12_fails : MethodName := ⟨RX12, "fails", "(I)I"⟩
abbrev cX12_within : ByteArray := prog_14_method_4_code
def yX12_within : MethodName := ⟨RX12, "within", "(JJJ)Z"⟩
abbrev cX12_has : ByteArray := prog_14_method_5_code
def yX12_has : MethodName := ⟨RX12, "has", "(II)Z"⟩
abbrev cX12_size : ByteArray := prog_14_method_6_code
def yX12_size : MethodName := ⟨RX12, "size", "(I)I"⟩
abbrev cX12_feed : ByteArray := prog_14_method_7_code
def yX12_feed : MethodName := ⟨RX12, "feed", "(IIIII)I"⟩
abbrev cX12_see : ByteArray := prog_14_method_8_code
def yX12_see : MethodName := ⟨RX12, "see", "(I)I"⟩
abbrev cX12_isLetter : ByteArray := prog_14_method_9_code
def yX12_isLetter : MethodName := ⟨RX12, "isLetter", "(I)Z"⟩
abbrev cX12_isDigit : ByteArray := prog_14_method_10_code
def yX12_isDigit : MethodName := ⟨RX12, "isDigit", "(I)Z"⟩
abbrev cX12_isSignByte : ByteArray := prog_14_method_11_code
def yX12_isSignByte : MethodName := ⟨RX12, "isSignByte", "(I)Z"⟩
abbrev cX12_readsOn : ByteArray := prog_14_method_12_code
def yX12_readsOn : MethodName := ⟨RX12, "readsOn", "()V"⟩
abbrev cX12_blames : ByteArray := prog_14_method_13_code
def yX12_blames : MethodName := ⟨RX12, "blames", "(I)V"⟩
abbrev cX12_isWord : ByteArray := prog_14_method_14_code
def yX12_isWord : MethodName := ⟨RX12, "isWord", "(Ljava/lang/String;)Z"⟩
abbrev cX12_took : ByteArray := prog_14_method_15_code
def yX12_took : MethodName := ⟨RX12, "took", "(Ljava/lang/String;)Z"⟩
abbrev cX12_mustWord : ByteArray := prog_14_method_16_code
def yX12_mustWord : MethodName := ⟨RX12, "mustWord", "(Ljava/lang/String;)V"⟩
abbrev cX12_isSign : ByteArray := prog_14_method_17_code
def yX12_isSign : MethodName := ⟨RX12, "isSign", "(I)Z"⟩
abbrev cX12_mustSign : ByteArray := prog_14_method_18_code
def yX12_mustSign : MethodName := ⟨RX12, "mustSign", "(I)V"⟩
abbrev cX12_number : ByteArray := prog_14_method_19_code
def yX12_number : MethodName := ⟨RX12, "number", "(II)I"⟩
abbrev cX12_laysStep : ByteArray := prog_14_method_20_code
def yX12_laysStep : MethodName := ⟨RX12, "laysStep", "(I)V"⟩
abbrev cX12_goesIn : ByteArray := prog_14_method_21_code
def yX12_goesIn : MethodName := ⟨RX12, "goesIn", "()V"⟩
abbrev cX12_readTruth : ByteArray := prog_14_method_22_code
def yX12_readTruth : MethodName := ⟨RX12, "readTruth", "()V"⟩
abbrev cX12_readBoth : ByteArray := prog_14_method_23_code
def yX12_readBoth : MethodName := ⟨RX12, "readBoth", "()V"⟩
abbrev cX12_readUnit : ByteArray := prog_14_method_24_code
def yX12_readUnit : MethodName := ⟨RX12, "readUnit", "()V"⟩
abbrev cX12_readSum : ByteArray := prog_14_method_25_code
def yX12_readSum : MethodName := ⟨RX12, "readSum", "()V"⟩
abbrev cX12_readTerm : ByteArray := prog_14_method_26_code
def yX12_readTerm : MethodName := ⟨RX12, "readTerm", "()V"⟩
abbrev cX12_readAtom : ByteArray := prog_14_method_27_code
def yX12_readAtom : MethodName := ⟨RX12, "readAtom", "()V"⟩
abbrev cX12_readWish : ByteArray := prog_14_method_28_code
def yX12_readWish : MethodName := ⟨RX12, "readWish", "()V"⟩
abbrev cX12_readStop : ByteArray := prog_14_method_29_code
def yX12_readStop : MethodName := ⟨RX12, "readStop", "()V"⟩
abbrev cX12_readLine : ByteArray := prog_14_method_30_code
def yX12_readLine : MethodName := ⟨RX12, "readLine", "()V"⟩
abbrev cX12_sky : ByteArray := prog_14_method_31_code
def yX12_sky : MethodName := ⟨RX12, "sky", "(I)I"⟩
abbrev cX12_fault : ByteArray := prog_14_method_32_code
def yX12_fault : MethodName := ⟨RX12, "fault", "(I)I"⟩
abbrev cX12_cells : ByteArray := prog_14_method_33_code
def yX12_cells : MethodName := ⟨RX12, "cells", "()I"⟩
abbrev cX12_everywhere : ByteArray := prog_14_method_34_code
def yX12_everywhere : MethodName := ⟨RX12, "everywhere", "()I"⟩
abbrev cX12_isSky : ByteArray := prog_14_method_35_code
def yX12_isSky : MethodName := ⟨RX12, "isSky", "(J)Z"⟩
abbrev cX12_bound : ByteArray := prog_14_method_36_code
def yX12_bound : MethodName := ⟨RX12, "bound", "(J)I"⟩
abbrev cX12_done : ByteArray := prog_14_method_37_code
def yX12_done : MethodName := ⟨RX12, "done", "(IJJ)I"⟩
abbrev cX12_plain : ByteArray := prog_14_method_38_code
def yX12_plain : MethodName := ⟨RX12, "plain", "(II)I"⟩
abbrev cX12_worksOut : ByteArray := prog_14_method_39_code
def yX12_worksOut : MethodName := ⟨RX12, "worksOut", "(II)Z"⟩
abbrev cX12_blown : ByteArray := prog_14_method_40_code
def yX12_blown : MethodName := ⟨RX12, "blown", "(I)I"⟩
abbrev cX12_laysTruths : ByteArray := prog_14_method_41_code
def yX12_laysTruths : MethodName := ⟨RX12, "laysTruths", "()V"⟩
abbrev cX12_doesHold : ByteArray := prog_14_method_42_code
def yX12_doesHold : MethodName := ⟨RX12, "doesHold", "(II)Z"⟩
abbrev cX12_isWish : ByteArray := prog_14_method_43_code
def yX12_isWish : MethodName := ⟨RX12, "isWish", "(I)Z"⟩
abbrev cX12_isOpen : ByteArray := prog_14_method_44_code
def yX12_isOpen : MethodName := ⟨RX12, "isOpen", "(I)Z"⟩
abbrev cX12_weight : ByteArray := prog_14_method_45_code
def yX12_weight : MethodName := ⟨RX12, "weight", "(I)I"⟩
abbrev cX12_grantedIn : ByteArray := prog_14_method_46_code
def yX12_grantedIn : MethodName := ⟨RX12, "grantedIn", "(I)I"⟩
abbrev cX12_musts : ByteArray := prog_14_method_47_code
def yX12_musts : MethodName := ⟨RX12, "musts", "()I"⟩
abbrev cX12_whyNot : ByteArray := prog_14_method_48_code
def yX12_whyNot : MethodName := ⟨RX12, "whyNot", "(J)I"⟩
abbrev cX12_wish : ByteArray := prog_14_method_49_code
def yX12_wish : MethodName := ⟨RX12, "wish", "(II)I"⟩
abbrev cX12_weather : ByteArray := prog_14_method_50_code
def yX12_weather : MethodName := ⟨RX12, "weather", "(I)I"⟩
abbrev cX12_holds : ByteArray := prog_14_method_51_code
def yX12_holds : MethodName := ⟨RX12, "holds", "(II)Z"⟩
abbrev cX12_why : ByteArray := prog_14_method_52_code
def yX12_why : MethodName := ⟨RX12, "why", "(I)I"⟩
abbrev cX12_granted : ByteArray := prog_14_method_53_code
def yX12_granted : MethodName := ⟨RX12, "granted", "(I)I"⟩
abbrev cX12_laysPlans : ByteArray := prog_14_method_54_code
def yX12_laysPlans : MethodName := ⟨RX12, "laysPlans", "()V"⟩
abbrev cX12_plans : ByteArray := prog_14_method_55_code
def yX12_plans : MethodName := ⟨RX12, "plans", "()I"⟩
abbrev cX12_isAsked : ByteArray := prog_14_method_56_code
def yX12_isAsked : MethodName := ⟨RX12, "isAsked", "(I)Z"⟩
abbrev cX12_planFor : ByteArray := prog_14_method_57_code
def yX12_planFor : MethodName := ⟨RX12, "planFor", "(I)I"⟩
abbrev cX12_together : ByteArray := prog_14_method_58_code
def yX12_together : MethodName := ⟨RX12, "together", "(I)I"⟩
abbrev cX12_quarrel : ByteArray := prog_14_method_59_code
def yX12_quarrel : MethodName := ⟨RX12, "quarrel", "(I)I"⟩
abbrev cX12_openFault : ByteArray := prog_14_method_60_code
def yX12_openFault : MethodName := ⟨RX12, "openFault", "(I)I"⟩
abbrev cX12_foes : ByteArray := prog_14_method_61_code
def yX12_foes : MethodName := ⟨RX12, "foes", "(I)I"⟩
abbrev cX12_most : ByteArray := prog_14_method_62_code
def yX12_most : MethodName := ⟨RX12, "most", "(I)I"⟩
abbrev cX12_nights : ByteArray := prog_14_method_63_code
def yX12_nights : MethodName := ⟨RX12, "nights", "()I"⟩
abbrev cX12_heartsOf : ByteArray := prog_14_method_64_code
def yX12_heartsOf : MethodName := ⟨RX12, "heartsOf", "(I)I"⟩
abbrev cX12_hearts : ByteArray := prog_14_method_65_code
def yX12_hearts : MethodName := ⟨RX12, "hearts", "(II)I"⟩
abbrev cX12_follows : ByteArray := prog_14_method_66_code
def yX12_follows : MethodName := ⟨RX12, "follows", "(I)I"⟩
abbrev cX12_sure : ByteArray := prog_14_method_67_code
def yX12_sure : MethodName := ⟨RX12, "sure", "(IZ)I"⟩
abbrev cX12_power : ByteArray := prog_14_method_68_code
def yX12_power : MethodName := ⟨RX12, "power", "(JI)J"⟩
abbrev cX12_expects : ByteArray := prog_14_method_69_code
def yX12_expects : MethodName := ⟨RX12, "expects", "(II)J"⟩
abbrev cX12_expected : ByteArray := prog_14_method_70_code
def yX12_expected : MethodName := ⟨RX12, "expected", "(II)J"⟩
abbrev cX12_bestChance : ByteArray := prog_14_method_71_code
def yX12_bestChance : MethodName := ⟨RX12, "bestChance", "(I)I"⟩
abbrev cX12_manyOf : ByteArray := prog_14_method_72_code
def yX12_manyOf : MethodName := ⟨RX12, "manyOf", "(II)I"⟩
abbrev cX12_key : ByteArray := prog_14_method_73_code
def yX12_key : MethodName := ⟨RX12, "key", "(III)I"⟩
abbrev cX12_asksAsItIs : ByteArray := prog_14_method_74_code
def yX12_asksAsItIs : MethodName := ⟨RX12, "asksAsItIs", "()V"⟩
abbrev cX12_serves : ByteArray := prog_14_method_75_code
def yX12_serves : MethodName := ⟨RX12, "serves", "(II)I"⟩
abbrev cX12_isRule : ByteArray := prog_14_method_76_code
def yX12_isRule : MethodName := ⟨RX12, "isRule", "(I)Z"⟩
abbrev cX12_isBody : ByteArray := prog_14_method_77_code
def yX12_isBody : MethodName := ⟨RX12, "isBody", "(I)Z"⟩
abbrev cX12_served : ByteArray := prog_14_method_78_code
def yX12_served : MethodName := ⟨RX12, "served", "(I)I"⟩
abbrev cX12_shareOf : ByteArray := prog_14_method_79_code
def yX12_shareOf : MethodName := ⟨RX12, "shareOf", "(II)I"⟩
abbrev cX12_share : ByteArray := prog_14_method_80_code
def yX12_share : MethodName := ⟨RX12, "share", "(II)I"⟩
abbrev cX12_shareBy : ByteArray := prog_14_method_81_code
def yX12_shareBy : MethodName := ⟨RX12, "shareBy", "(III)I"⟩
abbrev cX12_gains : ByteArray := prog_14_method_82_code
def yX12_gains : MethodName := ⟨RX12, "gains", "(III)I"⟩
abbrev cX12_bestRule : ByteArray := prog_14_method_83_code
def yX12_bestRule : MethodName := ⟨RX12, "bestRule", "()I"⟩
abbrev cX12_trayFault : ByteArray := prog_14_method_84_code
def yX12_trayFault : MethodName := ⟨RX12, "trayFault", "(I)I"⟩
abbrev cX12_isSo : ByteArray := prog_14_method_85_code
def yX12_isSo : MethodName := ⟨RX12, "isSo", "(II)Z"⟩
abbrev cX12_doPart : ByteArray := prog_14_method_86_code
def yX12_doPart : MethodName := ⟨RX12, "doPart", "(II)Z"⟩
abbrev cX12_goesWants : ByteArray := prog_14_method_87_code
def yX12_goesWants : MethodName := ⟨RX12, "goesWants", "(IIII)V"⟩
abbrev cX12_wantsFault : ByteArray := prog_14_method_88_code
def yX12_wantsFault : MethodName := ⟨RX12, "wantsFault", "(II)I"⟩
abbrev cX12_wants : ByteArray := prog_14_method_89_code
def yX12_wants : MethodName := ⟨RX12, "wants", "(II)I"⟩
abbrev cX12_sayFault : ByteArray := prog_14_method_90_code
def yX12_sayFault : MethodName := ⟨RX12, "sayFault", "(II)I"⟩
abbrev cX12_laysReading : ByteArray := prog_14_method_91_code
def yX12_laysReading : MethodName := ⟨RX12, "laysReading", "(I)V"⟩
abbrev cX12_laysPair : ByteArray := prog_14_method_92_code
def yX12_laysPair : MethodName := ⟨RX12, "laysPair", "(IIZ)V"⟩
abbrev cX12_reads : ByteArray := prog_14_method_93_code
def yX12_reads : MethodName := ⟨RX12, "reads", "(III)V"⟩
abbrev cX12_areLike : ByteArray := prog_14_method_94_code
def yX12_areLike : MethodName := ⟨RX12, "areLike", "(II)Z"⟩
abbrev cX12_unlike : ByteArray := prog_14_method_95_code
def yX12_unlike : MethodName := ⟨RX12, "unlike", "(II)I"⟩
abbrev cX12_holdsIn : ByteArray := prog_14_method_96_code
def yX12_holdsIn : MethodName := ⟨RX12, "holdsIn", "(I)I"⟩
abbrev cX12_readings : ByteArray := prog_14_method_97_code
def yX12_readings : MethodName := ⟨RX12, "readings", "(II)I"⟩
abbrev cX12_keeps : ByteArray := prog_14_method_98_code
def yX12_keeps : MethodName := ⟨RX12, "keeps", "()V"⟩
abbrev cX12_goesBy : ByteArray := prog_14_method_99_code
def yX12_goesBy : MethodName := ⟨RX12, "goesBy", "(I)I"⟩
abbrev cX12_night : ByteArray := prog_14_method_100_code
def yX12_night : MethodName := ⟨RX12, "night", "(I)I"⟩
abbrev cX12_thank : ByteArray := prog_14_method_101_code
def yX12_thank : MethodName := ⟨RX12, "thank", "(II)I"⟩
abbrev cX12_owes : ByteArray := prog_14_method_102_code
def yX12_owes : MethodName := ⟨RX12, "owes", "(I)I"⟩
abbrev cX12_withdraw : ByteArray := prog_14_method_103_code
def yX12_withdraw : MethodName := ⟨RX12, "withdraw", "(I)I"⟩
abbrev cX12_again : ByteArray := prog_14_method_104_code
def yX12_again : MethodName := ⟨RX12, "again", "(I)I"⟩
abbrev cX12_undo : ByteArray := prog_14_method_105_code
def yX12_undo : MethodName := ⟨RX12, "undo", "(I)I"⟩
abbrev cX12_judge : ByteArray := prog_14_method_106_code
def yX12_judge : MethodName := ⟨RX12, "judge", "(II)I"⟩
abbrev cX12_perform : ByteArray := prog_14_method_107_code
def yX12_perform : MethodName := ⟨RX12, "perform", "(I)I"⟩
abbrev cX12_draw : ByteArray := prog_14_method_108_code
def yX12_draw : MethodName := ⟨RX12, "draw", "(I)I"⟩
abbrev cX12_season : ByteArray := prog_14_method_109_code
def yX12_season : MethodName := ⟨RX12, "season", "(II)I"⟩
abbrev cX12_holdFault : ByteArray := prog_14_method_110_code
def yX12_holdFault : MethodName := ⟨RX12, "holdFault", "(III)I"⟩
abbrev cX12_grantsNow : ByteArray := prog_14_method_111_code
def yX12_grantsNow : MethodName := ⟨RX12, "grantsNow", "(IJII)J"⟩
abbrev cX12_laysWorth : ByteArray := prog_14_method_112_code
def yX12_laysWorth : MethodName := ⟨RX12, "laysWorth", "(I)V"⟩
abbrev cX12_holding : ByteArray := prog_14_method_113_code
def yX12_holding : MethodName := ⟨RX12, "holding", "(III)J"⟩
abbrev cX12_grants : ByteArray := prog_14_method_114_code
def yX12_grants : MethodName := ⟨RX12, "grants", "(III)I"⟩
abbrev cX12_isTray : ByteArray := prog_14_method_115_code
def yX12_isTray : MethodName := ⟨RX12, "isTray", "(I)Z"⟩
abbrev cX12_tray : ByteArray := prog_14_method_116_code
def yX12_tray : MethodName := ⟨RX12, "tray", "(III)V"⟩
abbrev cX12_cut : ByteArray := prog_14_method_117_code
def yX12_cut : MethodName := ⟨RX12, "cut", "(IIJ)J"⟩
abbrev cX12_write : ByteArray := prog_14_method_118_code
def yX12_write : MethodName := ⟨RX12, "write", "(IIJ)J"⟩
abbrev cX12_pour : ByteArray := prog_14_method_119_code
def yX12_pour : MethodName := ⟨RX12, "pour", "(I)I"⟩
abbrev cX12_image : ByteArray := prog_14_method_120_code
def yX12_image : MethodName := ⟨RX12, "image", "(I)V"⟩
abbrev cX12_restore : ByteArray := prog_14_method_121_code
def yX12_restore : MethodName := ⟨RX12, "restore", "(I)V"⟩
abbrev cX12_count : ByteArray := prog_14_method_122_code
def yX12_count : MethodName := ⟨RX12, "count", "(I)I"⟩
def RJx145de : String := "java/io/Serializable"
def TJx145de : u_T := fun k => match k with
  | _ => ("", "", "", false)
def tyJx145de : Nat → FieldType := fun k => match k with
  | _ => .int
theorem nmJx145de : ∀ a, a < 0 → ∀ b, b < 0 → a ≠ b → (TJx145de a).2.1 ≠ (TJx145de b).2.1 := by decide +kernel
theorem tyJx145de_ok : ∀ k, k < 0 → parseFieldDescriptor (TJx145de k).2.2.1 = some (tyJx145de k) := by decide +kernel
def RJx9f9b0 : String := "java/lang/CharSequence"
def TJx9f9b0 : u_T := fun k => match k with
  | _ => ("", "", "", false)
def tyJx9f9b0 : Nat → FieldType := fun k => match k with
  | _ => .int
theorem nmJx9f9b0 : ∀ a, a < 0 → ∀ b, b < 0 → a ≠ b → (TJx9f9b0 a).2.1 ≠ (TJx9f9b0 b).2.1 := by decide +kernel
theorem tyJx9f9b0_ok : ∀ k, k < 0 → parseFieldDescriptor (TJx9f9b0 k).2.2.1 = some (tyJx9f9b0 k) := by decide +kernel
def RJ11 : String := "java/lang/Character"
def TJ11 : u_T := fun k => match k with
  | _ => ("", "", "", false)
def tyJ11 : Nat → FieldType := fun k => match k with
  | _ => .int
theorem nmJ11 : ∀ a, a < 0 → ∀ b, b < 0 → a ≠ b → (TJ11 a).2.1 ≠ (TJ11 b).2.1 := by decide +kernel
theorem tyJ11_ok : ∀ k, k < 0 → parseFieldDescriptor (TJ11 k).2.2.1 = some (tyJ11 k) := by decide +kernel
abbrev cJ11_isValidCodePoint_9a6ad : ByteArray := prog_17_method_11_code
def yJ11_isValidCodePoint_9a6ad : MethodName := ⟨RJ11, "isValidCodePoint", "(I)Z"⟩
abbrev cJ11_highSurrogate_5068e : ByteArray := prog_17_method_28_code
def yJ11_highSurrogate_5068e : MethodName := ⟨RJ11, "highSurrogate", "(I)C"⟩
abbrev cJ11_lowSurrogate_5068e : ByteArray := prog_17_method_29_code
def yJ11_lowSurrogate_5068e : MethodName := ⟨RJ11, "lowSurrogate", "(I)C"⟩
def RJxb160c : String := "java/lang/Comparable"
def TJxb160c : u_T := fun k => match k with
  | _ => ("", "", "", false)
def tyJxb160c : Nat → FieldType := fun k => match k with
  | _ => .int
theorem nmJxb160c : ∀ a, a < 0 → ∀ b, b < 0 → a ≠ b → (TJxb160c a).2.1 ≠ (TJxb160c b).2.1 := by decide +kernel
theorem tyJxb160c_ok : ∀ k, k < 0 → parseFieldDescriptor (TJxb160c k).2.2.1 = some (tyJxb160c k) := by decide +kernel
def RJ6 : String := "java/lang/Integer"
def TJ6 : u_T := fun k => match k with
  | _ => ("", "", "", false)
def tyJ6 : Nat → FieldType := fun k => match k with
  | _ => .int
theorem nmJ6 : ∀ a, a < 0 → ∀ b, b < 0 → a ≠ b → (TJ6 a).2.1 ≠ (TJ6 b).2.1 := by decide +kernel
theorem tyJ6_ok : ∀ k, k < 0 → parseFieldDescriptor (TJ6 k).2.2.1 = some (tyJ6 k) := by decide +kernel
abbrev cJ6_bitCount_0f7a4 : ByteArray := prog_23_method_49_code
def yJ6_bitCount_0f7a4 : MethodName := ⟨RJ6, "bitCount", "(I)I"⟩
def RJ9 : String := "java/lang/Math"
def TJ9 : u_T := fun k => match k with
  | _ => ("", "", "", false)
def tyJ9 : Nat → FieldType := fun k => match k with
  | _ => .int
theorem nmJ9 : ∀ a, a < 0 → ∀ b, b < 0 → a ≠ b → (TJ9 a).2.1 ≠ (TJ9 b).2.1 := by decide +kernel
theorem tyJ9_ok : ∀ k, k < 0 → parseFieldDescriptor (TJ9 k).2.2.1 = some (tyJ9 k) := by decide +kernel
abbrev cJ9_max_7cf53 : ByteArray := prog_24_method_65_code
def yJ9_max_7cf53 : MethodName := ⟨RJ9, "max", "(II)I"⟩
abbrev cJ9_max_f86c9 : ByteArray := prog_24_method_66_code
def yJ9_max_f86c9 : MethodName := ⟨RJ9, "max", "(JJ)J"⟩
abbrev cJ9_min_7cf53 : ByteArray := prog_24_method_69_code
def yJ9_min_7cf53 : MethodName := ⟨RJ9, "min", "(II)I"⟩
abbrev cJ9_min_f86c9 : ByteArray := prog_24_method_70_code
def yJ9_min_f86c9 : MethodName := ⟨RJ9, "min", "(JJ)J"⟩
def RJ0 : String := "java/lang/String"
def TJ0 : u_T := fun k => match k with
  | _ => ("", "", "", false)
def tyJ0 : Nat → FieldType := fun k => match k with
  | _ => .int
theorem nmJ0 : ∀ a, a < 0 → ∀ b, b < 0 → a ≠ b → (TJ0 a).2.1 ≠ (TJ0 b).2.1 := by decide +kernel
theorem tyJ0_ok : ∀ k, k < 0 → parseFieldDescriptor (TJ0 k).2.2.1 = some (tyJ0 k) := by decide +kernel
abbrev cJ0_length_8abf5 : ByteArray := prog_26_method_54_code
def yJ0_length_8abf5 : MethodName := ⟨RJ0, "length", "()I"⟩
abbrev cJ0_charAt_5068e : ByteArray := prog_26_method_56_code
def yJ0_charAt_5068e : MethodName := ⟨RJ0, "charAt", "(I)C"⟩
abbrev cJ0_indexOf_0f7a4 : ByteArray := prog_26_method_79_code
def yJ0_indexOf_0f7a4 : MethodName := ⟨RJ0, "indexOf", "(I)I"⟩
abbrev cJ0_indexOf_7cf53 : ByteArray := prog_26_method_80_code
def yJ0_indexOf_7cf53 : MethodName := ⟨RJ0, "indexOf", "(II)I"⟩
abbrev cJ0_coder_7d493 : ByteArray := prog_26_method_152_code
def yJ0_coder_7d493 : MethodName := ⟨RJ0, "coder", "()B"⟩
abbrev cJ0_isLatin1_aae02 : ByteArray := prog_26_method_154_code
def yJ0_isLatin1_aae02 : MethodName := ⟨RJ0, "isLatin1", "()Z"⟩
abbrev cJ0_checkIndex_df160 : ByteArray := prog_26_method_155_code
def yJ0_checkIndex_df160 : MethodName := ⟨RJ0, "checkIndex", "(II)V"⟩
abbrev cJ0_checkBoundsBeginEnd_23922 : ByteArray := prog_26_method_158_code
def yJ0_checkBoundsBeginEnd_23922 : MethodName := ⟨RJ0, "checkBoundsBeginEnd", "(III)V"⟩
def RJ1 : String := "java/lang/StringLatin1"
def TJ1 : u_T := fun k => match k with
  | _ => ("", "", "", false)
def tyJ1 : Nat → FieldType := fun k => match k with
  | _ => .int
theorem nmJ1 : ∀ a, a < 0 → ∀ b, b < 0 → a ≠ b → (TJ1 a).2.1 ≠ (TJ1 b).2.1 := by decide +kernel
theorem tyJ1_ok : ∀ k, k < 0 → parseFieldDescriptor (TJ1 k).2.2.1 = some (tyJ1 k) := by decide +kernel
abbrev cJ1_charAt_3b067 : ByteArray := prog_27_method_2_code
def yJ1_charAt_3b067 : MethodName := ⟨RJ1, "charAt", "([BI)C"⟩
abbrev cJ1_canEncode_9a6ad : ByteArray := prog_27_method_4_code
def yJ1_canEncode_9a6ad : MethodName := ⟨RJ1, "canEncode", "(I)Z"⟩
abbrev cJ1_indexOf_4cfef : ByteArray := prog_27_method_22_code
def yJ1_indexOf_4cfef : MethodName := ⟨RJ1, "indexOf", "([BIII)I"⟩
abbrev cJ1_indexOfChar_4cfef : ByteArray := prog_27_method_23_code
def yJ1_indexOfChar_4cfef : MethodName := ⟨RJ1, "indexOfChar", "([BIII)I"⟩
def RJ2 : String := "java/lang/StringUTF16"
def TJ2 : u_T := fun k => match k with
  | _ => ("", "", "", false)
def tyJ2 : Nat → FieldType := fun k => match k with
  | _ => .int
theorem nmJ2 : ∀ a, a < 0 → ∀ b, b < 0 → a ≠ b → (TJ2 a).2.1 ≠ (TJ2 b).2.1 := by decide +kernel
theorem tyJ2_ok : ∀ k, k < 0 → parseFieldDescriptor (TJ2 k).2.2.1 = some (tyJ2 k) := by decide +kernel
abbrev cJ2_getChar_3b067 : ByteArray := prog_28_method_5_code
def yJ2_getChar_3b067 : MethodName := ⟨RJ2, "getChar", "([BI)C"⟩
abbrev cJ2_length_9d52b : ByteArray := prog_28_method_6_code
def yJ2_length_9d52b : MethodName := ⟨RJ2, "length", "([B)I"⟩
abbrev cJ2_indexOf_4cfef : ByteArray := prog_28_method_40_code
def yJ2_indexOf_4cfef : MethodName := ⟨RJ2, "indexOf", "([BIII)I"⟩
abbrev cJ2_indexOfChar_4cfef : ByteArray := prog_28_method_47_code
def yJ2_indexOfChar_4cfef : MethodName := ⟨RJ2, "indexOfChar", "([BIII)I"⟩
abbrev cJ2_indexOfCharUnsafe_4cfef : ByteArray := prog_28_method_48_code
def yJ2_indexOfCharUnsafe_4cfef : MethodName := ⟨RJ2, "indexOfCharUnsafe", "([BIII)I"⟩
abbrev cJ2_indexOfSupplementary_4cfef : ByteArray := prog_28_method_49_code
def yJ2_indexOfSupplementary_4cfef : MethodName := ⟨RJ2, "indexOfSupplementary", "([BIII)I"⟩
abbrev cJ2_charAt_3b067 : ByteArray := prog_28_method_83_code
def yJ2_charAt_3b067 : MethodName := ⟨RJ2, "charAt", "([BI)C"⟩
abbrev cJ2_checkIndex_2214a : ByteArray := prog_28_method_91_code
def yJ2_checkIndex_2214a : MethodName := ⟨RJ2, "checkIndex", "(I[B)V"⟩
abbrev cJ2_checkBoundsBeginEnd_d044e : ByteArray := prog_28_method_93_code
def yJ2_checkBoundsBeginEnd_d044e : MethodName := ⟨RJ2, "checkBoundsBeginEnd", "(II[B)V"⟩
def RJ10 : String := "java/lang/System"
def TJ10 : u_T := fun k => match k with
  | _ => ("", "", "", false)
def tyJ10 : Nat → FieldType := fun k => match k with
  | _ => .int
theorem nmJ10 : ∀ a, a < 0 → ∀ b, b < 0 → a ≠ b → (TJ10 a).2.1 ≠ (TJ10 b).2.1 := by decide +kernel
theorem tyJ10_ok : ∀ k, k < 0 → parseFieldDescriptor (TJ10 k).2.2.1 = some (tyJ10 k) := by decide +kernel
def RJxfd54e : String := "java/lang/constant/Constable"
def TJxfd54e : u_T := fun k => match k with
  | _ => ("", "", "", false)
def tyJxfd54e : Nat → FieldType := fun k => match k with
  | _ => .int
theorem nmJxfd54e : ∀ a, a < 0 → ∀ b, b < 0 → a ≠ b → (TJxfd54e a).2.1 ≠ (TJxfd54e b).2.1 := by decide +kernel
theorem tyJxfd54e_ok : ∀ k, k < 0 → parseFieldDescriptor (TJxfd54e k).2.2.1 = some (tyJxfd54e k) := by decide +kernel
def RJx3cf43 : String := "java/lang/constant/ConstantDesc"
def TJx3cf43 : u_T := fun k => match k with
  | _ => ("", "", "", false)
def tyJx3cf43 : Nat → FieldType := fun k => match k with
  | _ => .int
theorem nmJx3cf43 : ∀ a, a < 0 → ∀ b, b < 0 → a ≠ b → (TJx3cf43 a).2.1 ≠ (TJx3cf43 b).2.1 := by decide +kernel
theorem tyJx3cf43_ok : ∀ k, k < 0 → parseFieldDescriptor (TJx3cf43 k).2.2.1 = some (tyJx3cf43 k) := by decide +kernel
def RJ7 : String := "java/util/Arrays"
def TJ7 : u_T := fun k => match k with
  | _ => ("", "", "", false)
def tyJ7 : Nat → FieldType := fun k => match k with
  | _ => .int
theorem nmJ7 : ∀ a, a < 0 → ∀ b, b < 0 → a ≠ b → (TJ7 a).2.1 ≠ (TJ7 b).2.1 := by decide +kernel
theorem tyJ7_ok : ∀ k, k < 0 → parseFieldDescriptor (TJ7 k).2.2.1 = some (tyJ7 k) := by decide +kernel
abbrev cJ7_fill_d0a16 : ByteArray := prog_33_method_101_code
def yJ7_fill_d0a16 : MethodName := ⟨RJ7, "fill", "([JJ)V"⟩
abbrev cJ7_fill_53178 : ByteArray := prog_33_method_103_code
def yJ7_fill_53178 : MethodName := ⟨RJ7, "fill", "([II)V"⟩
def RJ3 : String := "jdk/internal/util/Preconditions"
def TJ3 : u_T := fun k => match k with
  | _ => ("", "", "", false)
def tyJ3 : Nat → FieldType := fun k => match k with
  | _ => .int
theorem nmJ3 : ∀ a, a < 0 → ∀ b, b < 0 → a ≠ b → (TJ3 a).2.1 ≠ (TJ3 b).2.1 := by decide +kernel
theorem tyJ3_ok : ∀ k, k < 0 → parseFieldDescriptor (TJ3 k).2.2.1 = some (tyJ3 k) := by decide +kernel
abbrev cJ3_checkIndex_8e157 : ByteArray := prog_35_method_11_code
def yJ3_checkIndex_8e157 : MethodName := ⟨RJ3, "checkIndex", "(IILjava/util/function/BiFunction;)I"⟩
abbrev cJ3_checkFromToIndex_8c36e : ByteArray := prog_35_method_12_code
def yJ3_checkFromToIndex_8c36e : MethodName := ⟨RJ3, "checkFromToIndex", "(IIILjava/util/function/BiFunction;)I"⟩
def RL : String := "RainWishesLaw"
abbrev cL_sky : ByteArray := method_3_code
def yL_sky : MethodName := ⟨RL, "sky", "(LRainWishes;I[J)I"⟩
abbrev cL_wish : ByteArray := method_4_code
def yL_wish : MethodName := ⟨RL, "wish", "(LRainWishes;II[J)I"⟩
abbrev cL_weather : ByteArray := method_5_code
def yL_weather : MethodName := ⟨RL, "weather", "(LRainWishes;I[J)I"⟩
abbrev cL_holds : ByteArray := method_6_code
def yL_holds : MethodName := ⟨RL, "holds", "(LRainWishes;II[J)I"⟩
abbrev cL_granted : ByteArray := method_7_code
def yL_granted : MethodName := ⟨RL, "granted", "(LRainWishes;I[J)I"⟩
abbrev cL_together : ByteArray := method_8_code
def yL_together : MethodName := ⟨RL, "together", "(LRainWishes;I[J)I"⟩
abbrev cL_quarrel : ByteArray := method_9_code
def yL_quarrel : MethodName := ⟨RL, "quarrel", "(LRainWishes;I[J)I"⟩
abbrev cL_foes : ByteArray := method_10_code
def yL_foes : MethodName := ⟨RL, "foes", "(LRainWishes;I[J)I"⟩
abbrev cL_most : ByteArray := method_11_code
def yL_most : MethodName := ⟨RL, "most", "(LRainWishes;I[J)I"⟩
abbrev cL_hearts : ByteArray := method_12_code
def yL_hearts : MethodName := ⟨RL, "hearts", "(LRainWishes;II[J)I"⟩
abbrev cL_follows : ByteArray := method_13_code
def yL_follows : MethodName := ⟨RL, "follows", "(LRainWishes;I[J)I"⟩
abbrev cL_sure : ByteArray := method_14_code
def yL_sure : MethodName := ⟨RL, "sure", "(LRainWishes;IZ[J)I"⟩
abbrev cL_expected : ByteArray := method_15_code
def yL_expected : MethodName := ⟨RL, "expected", "(LRainWishes;II[J)I"⟩
abbrev cL_bestChance : ByteArray := method_16_code
def yL_bestChance : MethodName := ⟨RL, "bestChance", "(LRainWishes;I[J)I"⟩
abbrev cL_served : ByteArray := method_17_code
def yL_served : MethodName := ⟨RL, "served", "(LRainWishes;I[J)I"⟩
abbrev cL_share : ByteArray := method_18_code
def yL_share : MethodName := ⟨RL, "share", "(LRainWishes;II[J)I"⟩
abbrev cL_gains : ByteArray := method_19_code
def yL_gains : MethodName := ⟨RL, "gains", "(LRainWishes;III[J)I"⟩
abbrev cL_wants : ByteArray := method_20_code
def yL_wants : MethodName := ⟨RL, "wants", "(LRainWishes;II[J)I"⟩
abbrev cL_readings : ByteArray := method_21_code
def yL_readings : MethodName := ⟨RL, "readings", "(LRainWishes;II[J)I"⟩
abbrev cL_thank : ByteArray := method_22_code
def yL_thank : MethodName := ⟨RL, "thank", "(LRainWishes;II[J)I"⟩
abbrev cL_owes : ByteArray := method_23_code
def yL_owes : MethodName := ⟨RL, "owes", "(LRainWishes;I[J)I"⟩
abbrev cL_withdraw : ByteArray := method_24_code
def yL_withdraw : MethodName := ⟨RL, "withdraw", "(LRainWishes;I[J)I"⟩
abbrev cL_again : ByteArray := method_25_code
def yL_again : MethodName := ⟨RL, "again", "(LRainWishes;I[J)I"⟩
abbrev cL_undo : ByteArray := method_26_code
def yL_undo : MethodName := ⟨RL, "undo", "(LRainWishes;I[J)I"⟩
abbrev cL_judge : ByteArray := method_27_code
def yL_judge : MethodName := ⟨RL, "judge", "(LRainWishes;II[J)I"⟩
abbrev cL_perform : ByteArray := method_28_code
def yL_perform : MethodName := ⟨RL, "perform", "(LRainWishes;I[J)I"⟩
abbrev cL_season : ByteArray := method_29_code
def yL_season : MethodName := ⟨RL, "season", "(LRainWishes;II[J)I"⟩
abbrev cL_holding : ByteArray := method_30_code
def yL_holding : MethodName := ⟨RL, "holding", "(LRainWishes;III[J)I"⟩
abbrev cL_grants : ByteArray := method_31_code
def yL_grants : MethodName := ⟨RL, "grants", "(LRainWishes;III[J)I"⟩
abbrev cL_tray : ByteArray := method_32_code
def yL_tray : MethodName := ⟨RL, "tray", "(LRainWishes;III)I"⟩
abbrev cL_write : ByteArray := method_33_code
def yL_write : MethodName := ⟨RL, "write", "(LRainWishes;IIJ[J)I"⟩
abbrev cL_pour : ByteArray := method_34_code
def yL_pour : MethodName := ⟨RL, "pour", "(LRainWishes;I[J)I"⟩
abbrev cL_image : ByteArray := method_35_code
def yL_image : MethodName := ⟨RL, "image", "(LRainWishes;I)I"⟩
abbrev cL_restore : ByteArray := method_36_code
def yL_restore : MethodName := ⟨RL, "restore", "(LRainWishes;I)I"⟩
abbrev cL_law : ByteArray := code
def yL_law : MethodName := ⟨RL, "law", "([I)Z"⟩
abbrev vwCl : List vw_C := [(RX0, TX0, 6), (RX1, TX1, 9), (RX2, TX2, 9), (RX3, TX3, 3), (RX4, TX4, 4), (RX5, TX5, 7), (RX6, TX6, 12), (RX7, TX7, 8), (RX8, TX8, 16), (RX9, TX9, 5), (RX10, TX10, 3), (RX11, TX11, 16), (RX12, TX12, 39)]
end
section
def WSG : List Cond := lw_tbl.filter goodWord
theorem wsg {w : Cond} (h : w ∈ lw_tbl) (hg : goodWord w = true) : w ∈ WSG := List.mem_filter.mpr ⟨h, hg⟩
theorem wsg_good {w : Cond} (h : w ∈ WSG) : goodWord w = true := (List.mem_filter.mp h).2
theorem lk {w : Cond} (i : Nat) (h : lw_tbl[i]? = some w) (hg : goodWord w = true) : w ∈ WSG := wsg (List.mem_of_getElem? h) hg
theorem lkS {w : Cond} (i : Nat) (h : (k2_sels lw_privs)[i]? = some w) (hg : goodWord w = true) : w ∈ WSG := wsg (List.mem_append_left _ (List.mem_of_getElem? h)) hg
theorem lkT1 {w : Cond} (i : Nat) (h : tables_1_1[i]? = some w) (hg : goodWord w = true) : w ∈ WSG := wsg (List.mem_append_right _ (by unfold tables_1; exact List.mem_append_left _ (List.mem_of_getElem? h))) hg
theorem lkT2 {w : Cond} (i : Nat) (h : tables_1_2[i]? = some w) (hg : goodWord w = true) : w ∈ WSG := wsg (List.mem_append_right _ (by unfold tables_1; exact List.mem_append_right _ (List.mem_append_left _ (List.mem_of_getElem? h)))) hg
theorem lkT3 {w : Cond} (i : Nat) (h : tables_1_3[i]? = some w) (hg : goodWord w = true) : w ∈ WSG := wsg (List.mem_append_right _ (by unfold tables_1; exact List.mem_append_right _ (List.mem_append_right _ (List.mem_append_left _ (List.mem_of_getElem? h))))) hg
theorem lkT4 {w : Cond} (i : Nat) (h : tables_1_4[i]? = some w) (hg : goodWord w = true) : w ∈ WSG := wsg (List.mem_append_right _ (by unfold tables_1; exact List.mem_append_right _ (List.mem_append_right _ (List.mem_append_right _ (List.mem_append_left _ (List.mem_of_getElem? h)))))) hg
theorem lkT5 {w : Cond} (i : Nat) (h : tables_1_5[i]? = some w) (hg : goodWord w = true) : w ∈ WSG := wsg (List.mem_append_right _ (by unfold tables_1; exact List.mem_append_right _ (List.mem_append_right _ (List.mem_append_right _ (List.mem_append_right _ (List.mem_append_left _ (List.mem_of_getElem? h))))))) hg
theorem lkT6 {w : Cond} (i : Nat) (h : tables_1_6[i]? = some w) (hg : goodWord w = true) : w ∈ WSG := wsg (List.mem_append_right _ (by unfold tables_1; exact List.mem_append_right _ (List.mem_append_right _ (List.mem_append_right _ (List.mem_append_right _ (List.mem_append_right _ (List.mem_append_left _ (List.mem_of_getElem? h)))))))) hg
theorem lkT7 {w : Cond} (i : Nat) (h : tables_1_7[i]? = some w) (hg : goodWord w = true) : w ∈ WSG := wsg (List.mem_append_right _ (by unfold tables_1; exact List.mem_append_right _ (List.mem_append_right _ (List.mem_append_right _ (List.mem_append_right _ (List.mem_append_right _ (List.mem_append_right _ (List.mem_append_left _ (List.mem_of_getElem? h))))))))) hg
theorem lkT8 {w : Cond} (i : Nat) (h : tables_1_8[i]? = some w) (hg : goodWord w = true) : w ∈ WSG := wsg (List.mem_append_right _ (by unfold tables_1; exact List.mem_append_right _ (List.mem_append_right _ (List.mem_append_right _ (List.mem_append_right _ (List.mem_append_right _ (List.mem_append_right _ (List.mem_append_right _ (List.mem_append_left _ (List.mem_of_getElem? h)))))))))) hg
theorem lkT9 {w : Cond} (i : Nat) (h : tables_1_9[i]? = some w) (hg : goodWord w = true) : w ∈ WSG := wsg (List.mem_append_right _ (by unfold tables_1; exact List.mem_append_right _ (List.mem_append_right _ (List.mem_append_right _ (List.mem_append_right _ (List.mem_append_right _ (List.mem_append_right _ (List.mem_append_right _ (List.mem_append_right _ (List.mem_append_left _ (List.mem_of_getElem? h))))))))))) hg
theorem lkT10 {w : Cond} (i : Nat) (h : tables_1_10[i]? = some w) (hg : goodWord w = true) : w ∈ WSG := wsg (List.mem_append_right _ (by unfold tables_1; exact List.mem_append_right _ (List.mem_append_right _ (List.mem_append_right _ (List.mem_append_right _ (List.mem_append_right _ (List.mem_append_right _ (List.mem_append_right _ (List.mem_append_right _ (List.mem_append_right _ (List.mem_of_getElem? h))))))))))) hg
set_option maxRecDepth 20000 in
theorem lk_0 : Cond.selects RX11 yX11_lay yX11_lay ∈ WSG := lkS 0 rfl rfl
set_option maxRecDepth 20000 in
theorem lk_1 : Cond.selects RX3 yX3_truthOf yX3_truthOf ∈ WSG := lkS 1 rfl rfl
set_option maxRecDepth 20000 in
theorem lk_2 : Cond.selects RX2 yX2_settle yX2_settle ∈ WSG := lkS 2 rfl rfl
set_option maxRecDepth 20000 in
theorem lk_3 : Cond.selects RX2 yX2_spread yX2_spread ∈ WSG := lkS 3 rfl rfl
set_option maxRecDepth 20000 in
theorem lk_4 : Cond.selects RX2 yX2_nightsFor yX2_nightsFor ∈ WSG := lkS 4 rfl rfl
set_option maxRecDepth 20000 in
theorem lk_5 : Cond.selects RX2 yX2_areTogether yX2_areTogether ∈ WSG := lkS 5 rfl rfl
set_option maxRecDepth 20000 in
theorem lk_6 : Cond.selects RX7 yX7_sayAsItIs yX7_sayAsItIs ∈ WSG := lkS 6 rfl rfl
set_option maxRecDepth 20000 in
theorem lk_7 : Cond.selects RX7 yX7_serve yX7_serve ∈ WSG := lkS 7 rfl rfl
set_option maxRecDepth 20000 in
theorem lk_8 : Cond.selects RX7 yX7_firstOf yX7_firstOf ∈ WSG := lkS 8 rfl rfl
set_option maxRecDepth 20000 in
theorem lk_9 : Cond.selects RX7 yX7_turnOf yX7_turnOf ∈ WSG := lkS 9 rfl rfl
set_option maxRecDepth 20000 in
theorem lk_10 : Cond.selects RX7 yX7_openOf yX7_openOf ∈ WSG := lkS 10 rfl rfl
set_option maxRecDepth 20000 in
theorem lk_11 : Cond.selects RX11 yX11_makeNight yX11_makeNight ∈ WSG := lkS 11 rfl rfl
set_option maxRecDepth 20000 in
theorem lk_13 : Cond.selects RX9 yX9_runEnd yX9_runEnd ∈ WSG := lkS 13 rfl rfl
set_option maxRecDepth 20000 in
theorem lk_14 : Cond.selects RX6 yX6_readSky yX6_readSky ∈ WSG := lkS 14 rfl rfl
set_option maxRecDepth 20000 in
theorem lk_15 : Cond.selects RX6 yX6_take yX6_take ∈ WSG := lkS 15 rfl rfl
set_option maxRecDepth 20000 in
theorem lk_16 : Cond.selects RX6 yX6_refuse yX6_refuse ∈ WSG := lkS 16 rfl rfl
set_option maxRecDepth 20000 in
theorem lk_17 : Cond.selects RX6 yX6_takeNumber yX6_takeNumber ∈ WSG := lkS 17 rfl rfl
set_option maxRecDepth 20000 in
theorem lk_18 : Cond.selects RX6 yX6_endLine yX6_endLine ∈ WSG := lkS 18 rfl rfl
set_option maxRecDepth 20000 in
theorem lk_19 : Cond.selects RX6 yX6_readLine yX6_readLine ∈ WSG := lkS 19 rfl rfl
set_option maxRecDepth 20000 in
theorem lk_20 : Cond.selects RX6 yX6_readWish yX6_readWish ∈ WSG := lkS 20 rfl rfl
set_option maxRecDepth 20000 in
theorem lk_21 : Cond.selects RX6 yX6_readOperand yX6_readOperand ∈ WSG := lkS 21 rfl rfl
set_option maxRecDepth 20000 in
theorem lk_22 : Cond.selects RX6 yX6_open yX6_open ∈ WSG := lkS 22 rfl rfl
set_option maxRecDepth 20000 in
theorem lk_23 : Cond.selects RX6 yX6_await yX6_await ∈ WSG := lkS 23 rfl rfl
set_option maxRecDepth 20000 in
theorem lk_24 : Cond.selects RX6 yX6_readAtom yX6_readAtom ∈ WSG := lkS 24 rfl rfl
set_option maxRecDepth 20000 in
theorem lk_25 : Cond.selects RX6 yX6_readOperator yX6_readOperator ∈ WSG := lkS 25 rfl rfl
set_option maxRecDepth 20000 in
theorem lk_26 : Cond.selects RX6 yX6_arithmeticSign yX6_arithmeticSign ∈ WSG := lkS 26 rfl rfl
set_option maxRecDepth 20000 in
theorem lk_27 : Cond.selects RX6 yX6_join yX6_join ∈ WSG := lkS 27 rfl rfl
set_option maxRecDepth 20000 in
theorem lk_28 : Cond.selects RX6 yX6_settleDownTo yX6_settleDownTo ∈ WSG := lkS 28 rfl rfl
set_option maxRecDepth 20000 in
theorem lk_29 : Cond.selects RX6 yX6_close yX6_close ∈ WSG := lkS 29 rfl rfl
set_option maxRecDepth 20000 in
theorem lk_30 : Cond.selects RX6 yX6_comparingSign yX6_comparingSign ∈ WSG := lkS 30 rfl rfl
set_option maxRecDepth 20000 in
theorem lk_31 : Cond.selects RX6 yX6_endWish yX6_endWish ∈ WSG := lkS 31 rfl rfl
set_option maxRecDepth 20000 in
theorem lk_32 : Cond.selects RX11 yX11_forgetWhatWasFound yX11_forgetWhatWasFound ∈ WSG := lkS 32 rfl rfl
set_option maxRecDepth 20000 in
theorem lk_33 : Cond.selects RX11 yX11_checkWish yX11_checkWish ∈ WSG := lkS 33 rfl rfl
set_option maxRecDepth 20000 in
theorem lk_34 : Cond.selects RX11 yX11_checkCells yX11_checkCells ∈ WSG := lkS 34 rfl rfl
set_option maxRecDepth 20000 in
theorem lk_35 : Cond.selects RX11 yX11_checkSet yX11_checkSet ∈ WSG := lkS 35 rfl rfl
set_option maxRecDepth 20000 in
theorem lk_36 : Cond.selects RX11 yX11_checkOpen yX11_checkOpen ∈ WSG := lkS 36 rfl rfl
set_option maxRecDepth 20000 in
theorem lk_37 : Cond.selects RX11 yX11_checkWhat yX11_checkWhat ∈ WSG := lkS 37 rfl rfl
set_option maxRecDepth 20000 in
theorem lk_38 : Cond.selects RX11 yX11_checkHundredths yX11_checkHundredths ∈ WSG := lkS 38 rfl rfl
set_option maxRecDepth 20000 in
theorem lk_39 : Cond.selects RX11 yX11_checkRule yX11_checkRule ∈ WSG := lkS 39 rfl rfl
set_option maxRecDepth 20000 in
theorem lk_40 : Cond.selects RX11 yX11_checkPerson yX11_checkPerson ∈ WSG := lkS 40 rfl rfl
set_option maxRecDepth 20000 in
theorem lk_41 : Cond.selects RX7 yX7_sayOtherwise yX7_sayOtherwise ∈ WSG := lkS 41 rfl rfl
set_option maxRecDepth 20000 in
theorem lk_42 : Cond.selects RX11 yX11_trayThere yX11_trayThere ∈ WSG := lkS 42 rfl rfl
set_option maxRecDepth 20000 in
theorem lk_43 : Cond.selects RX5 yX5_search yX5_search ∈ WSG := lkS 43 rfl rfl
set_option maxRecDepth 20000 in
theorem lk_44 : Cond.selects RX5 yX5_fits yX5_fits ∈ WSG := lkS 44 rfl rfl
set_option maxRecDepth 20000 in
theorem lk_45 : Cond.selects RX5 yX5_keep yX5_keep ∈ WSG := lkS 45 rfl rfl
set_option maxRecDepth 20000 in
theorem lk_46 : Cond.selects RX1 yX1_takePart yX1_takePart ∈ WSG := lkS 46 rfl rfl
set_option maxRecDepth 20000 in
theorem lk_47 : Cond.selects RX1 yX1_placeOfCell yX1_placeOfCell ∈ WSG := lkS 47 rfl rfl
set_option maxRecDepth 20000 in
theorem lk_48 : Cond.selects RX1 yX1_joinAt yX1_joinAt ∈ WSG := lkS 48 rfl rfl
set_option maxRecDepth 20000 in
theorem lk_49 : Cond.selects RX1 yX1_isNew yX1_isNew ∈ WSG := lkS 49 rfl rfl
set_option maxRecDepth 20000 in
theorem lk_50 : Cond.selects RX1 yX1_sortPlans yX1_sortPlans ∈ WSG := lkS 50 rfl rfl
set_option maxRecDepth 20000 in
theorem lk_51 : Cond.selects RX1 yX1_plansOf yX1_plansOf ∈ WSG := lkS 51 rfl rfl
set_option maxRecDepth 20000 in
theorem lk_52 : Cond.selects RX11 yX11_takeReserve yX11_takeReserve ∈ WSG := lkS 52 rfl rfl
set_option maxRecDepth 20000 in
theorem lk_53 : Cond.selects RX4 yX4_byGranting yX4_byGranting ∈ WSG := lkS 53 rfl rfl
set_option maxRecDepth 20000 in
theorem lk_54 : Cond.selects RX11 yX11_checkImage yX11_checkImage ∈ WSG := lkS 54 rfl rfl
set_option maxRecDepth 20000 in
theorem lk_55 : Cond.selects RX12 yX12_laysTruths yX12_laysTruths ∈ WSG := lkS 55 rfl rfl
set_option maxRecDepth 20000 in
theorem lk_56 : Cond.selects RX12 yX12_everywhere yX12_everywhere ∈ WSG := lkS 56 rfl rfl
set_option maxRecDepth 20000 in
theorem lk_57 : Cond.selects RX12 yX12_cells yX12_cells ∈ WSG := lkS 57 rfl rfl
set_option maxRecDepth 20000 in
theorem lk_58 : Cond.selects RX12 yX12_blown yX12_blown ∈ WSG := lkS 58 rfl rfl
set_option maxRecDepth 20000 in
theorem lk_59 : Cond.selects RX12 yX12_worksOut yX12_worksOut ∈ WSG := lkS 59 rfl rfl
set_option maxRecDepth 20000 in
theorem lk_60 : Cond.selects RX12 yX12_plain yX12_plain ∈ WSG := lkS 60 rfl rfl
set_option maxRecDepth 20000 in
theorem lk_61 : Cond.selects RX12 yX12_fails yX12_fails ∈ WSG := lkS 61 rfl rfl
set_option maxRecDepth 20000 in
theorem lk_62 : Cond.selects RX12 yX12_readsOn yX12_readsOn ∈ WSG := lkS 62 rfl rfl
set_option maxRecDepth 20000 in
theorem lk_63 : Cond.selects RX12 yX12_see yX12_see ∈ WSG := lkS 63 rfl rfl
set_option maxRecDepth 20000 in
theorem lk_64 : Cond.selects RX12 yX12_mustWord yX12_mustWord ∈ WSG := lkS 64 rfl rfl
set_option maxRecDepth 20000 in
theorem lk_65 : Cond.selects RX12 yX12_took yX12_took ∈ WSG := lkS 65 rfl rfl
set_option maxRecDepth 20000 in
theorem lk_66 : Cond.selects RX12 yX12_isWord yX12_isWord ∈ WSG := lkS 66 rfl rfl
set_option maxRecDepth 20000 in
theorem lk_67 : Cond.selects RX12 yX12_blames yX12_blames ∈ WSG := lkS 67 rfl rfl
set_option maxRecDepth 20000 in
theorem lk_68 : Cond.selects RX12 yX12_number yX12_number ∈ WSG := lkS 68 rfl rfl
set_option maxRecDepth 20000 in
theorem lk_69 : Cond.selects RX12 yX12_readStop yX12_readStop ∈ WSG := lkS 69 rfl rfl
set_option maxRecDepth 20000 in
theorem lk_70 : Cond.selects RX12 yX12_mustSign yX12_mustSign ∈ WSG := lkS 70 rfl rfl
set_option maxRecDepth 20000 in
theorem lk_71 : Cond.selects RX12 yX12_readLine yX12_readLine ∈ WSG := lkS 71 rfl rfl
set_option maxRecDepth 20000 in
theorem lk_72 : Cond.selects RX12 yX12_readWish yX12_readWish ∈ WSG := lkS 72 rfl rfl
set_option maxRecDepth 20000 in
theorem lk_73 : Cond.selects RX12 yX12_readTruth yX12_readTruth ∈ WSG := lkS 73 rfl rfl
set_option maxRecDepth 20000 in
theorem lk_74 : Cond.selects RX12 yX12_readBoth yX12_readBoth ∈ WSG := lkS 74 rfl rfl
set_option maxRecDepth 20000 in
theorem lk_75 : Cond.selects RX12 yX12_readUnit yX12_readUnit ∈ WSG := lkS 75 rfl rfl
set_option maxRecDepth 20000 in
theorem lk_76 : Cond.selects RX12 yX12_goesIn yX12_goesIn ∈ WSG := lkS 76 rfl rfl
set_option maxRecDepth 20000 in
theorem lk_77 : Cond.selects RX12 yX12_laysStep yX12_laysStep ∈ WSG := lkS 77 rfl rfl
set_option maxRecDepth 20000 in
theorem lk_78 : Cond.selects RX12 yX12_isSign yX12_isSign ∈ WSG := lkS 78 rfl rfl
set_option maxRecDepth 20000 in
theorem lk_79 : Cond.selects RX12 yX12_readSum yX12_readSum ∈ WSG := lkS 79 rfl rfl
set_option maxRecDepth 20000 in
theorem lk_80 : Cond.selects RX12 yX12_readTerm yX12_readTerm ∈ WSG := lkS 80 rfl rfl
set_option maxRecDepth 20000 in
theorem lk_81 : Cond.selects RX12 yX12_readAtom yX12_readAtom ∈ WSG := lkS 81 rfl rfl
set_option maxRecDepth 20000 in
theorem lk_82 : Cond.selects RX12 yX12_isWish yX12_isWish ∈ WSG := lkS 82 rfl rfl
set_option maxRecDepth 20000 in
theorem lk_83 : Cond.selects RX12 yX12_doesHold yX12_doesHold ∈ WSG := lkS 83 rfl rfl
set_option maxRecDepth 20000 in
theorem lk_84 : Cond.selects RX12 yX12_isOpen yX12_isOpen ∈ WSG := lkS 84 rfl rfl
set_option maxRecDepth 20000 in
theorem lk_85 : Cond.selects RX12 yX12_isSky yX12_isSky ∈ WSG := lkS 85 rfl rfl
set_option maxRecDepth 20000 in
theorem lk_86 : Cond.selects RX12 yX12_whyNot yX12_whyNot ∈ WSG := lkS 86 rfl rfl
set_option maxRecDepth 20000 in
theorem lk_87 : Cond.selects RX12 yX12_musts yX12_musts ∈ WSG := lkS 87 rfl rfl
set_option maxRecDepth 20000 in
theorem lk_88 : Cond.selects RX12 yX12_grantedIn yX12_grantedIn ∈ WSG := lkS 88 rfl rfl
set_option maxRecDepth 20000 in
theorem lk_89 : Cond.selects RX12 yX12_isAsked yX12_isAsked ∈ WSG := lkS 89 rfl rfl
set_option maxRecDepth 20000 in
theorem lk_90 : Cond.selects RX12 yX12_laysPlans yX12_laysPlans ∈ WSG := lkS 90 rfl rfl
set_option maxRecDepth 20000 in
theorem lk_91 : Cond.selects RX12 yX12_planFor yX12_planFor ∈ WSG := lkS 91 rfl rfl
set_option maxRecDepth 20000 in
theorem lk_92 : Cond.selects RX12 yX12_openFault yX12_openFault ∈ WSG := lkS 92 rfl rfl
set_option maxRecDepth 20000 in
theorem lk_93 : Cond.selects RX12 yX12_weight yX12_weight ∈ WSG := lkS 93 rfl rfl
set_option maxRecDepth 20000 in
theorem lk_94 : Cond.selects RX12 yX12_heartsOf yX12_heartsOf ∈ WSG := lkS 94 rfl rfl
set_option maxRecDepth 20000 in
theorem lk_95 : Cond.selects RX12 yX12_expects yX12_expects ∈ WSG := lkS 95 rfl rfl
set_option maxRecDepth 20000 in
theorem lk_96 : Cond.selects RX12 yX12_asksAsItIs yX12_asksAsItIs ∈ WSG := lkS 96 rfl rfl
set_option maxRecDepth 20000 in
theorem lk_97 : Cond.selects RX12 yX12_serves yX12_serves ∈ WSG := lkS 97 rfl rfl
set_option maxRecDepth 20000 in
theorem lk_98 : Cond.selects RX12 yX12_key yX12_key ∈ WSG := lkS 98 rfl rfl
set_option maxRecDepth 20000 in
theorem lk_99 : Cond.selects RX12 yX12_manyOf yX12_manyOf ∈ WSG := lkS 99 rfl rfl
set_option maxRecDepth 20000 in
theorem lk_100 : Cond.selects RX12 yX12_shareOf yX12_shareOf ∈ WSG := lkS 100 rfl rfl
set_option maxRecDepth 20000 in
theorem lk_101 : Cond.selects RX12 yX12_shareBy yX12_shareBy ∈ WSG := lkS 101 rfl rfl
set_option maxRecDepth 20000 in
theorem lk_102 : Cond.selects RX12 yX12_wantsFault yX12_wantsFault ∈ WSG := lkS 102 rfl rfl
set_option maxRecDepth 20000 in
theorem lk_103 : Cond.selects RX12 yX12_trayFault yX12_trayFault ∈ WSG := lkS 103 rfl rfl
set_option maxRecDepth 20000 in
theorem lk_104 : Cond.selects RX12 yX12_goesWants yX12_goesWants ∈ WSG := lkS 104 rfl rfl
set_option maxRecDepth 20000 in
theorem lk_105 : Cond.selects RX12 yX12_doPart yX12_doPart ∈ WSG := lkS 105 rfl rfl
set_option maxRecDepth 20000 in
theorem lk_106 : Cond.selects RX12 yX12_sayFault yX12_sayFault ∈ WSG := lkS 106 rfl rfl
set_option maxRecDepth 20000 in
theorem lk_107 : Cond.selects RX12 yX12_reads yX12_reads ∈ WSG := lkS 107 rfl rfl
set_option maxRecDepth 20000 in
theorem lk_108 : Cond.selects RX12 yX12_laysReading yX12_laysReading ∈ WSG := lkS 108 rfl rfl
set_option maxRecDepth 20000 in
theorem lk_109 : Cond.selects RX12 yX12_laysPair yX12_laysPair ∈ WSG := lkS 109 rfl rfl
set_option maxRecDepth 20000 in
theorem lk_110 : Cond.selects RX12 yX12_unlike yX12_unlike ∈ WSG := lkS 110 rfl rfl
set_option maxRecDepth 20000 in
theorem lk_111 : Cond.selects RX12 yX12_areLike yX12_areLike ∈ WSG := lkS 111 rfl rfl
set_option maxRecDepth 20000 in
theorem lk_112 : Cond.selects RX12 yX12_holdsIn yX12_holdsIn ∈ WSG := lkS 112 rfl rfl
set_option maxRecDepth 20000 in
theorem lk_113 : Cond.selects RX12 yX12_keeps yX12_keeps ∈ WSG := lkS 113 rfl rfl
set_option maxRecDepth 20000 in
theorem lk_114 : Cond.selects RX12 yX12_goesBy yX12_goesBy ∈ WSG := lkS 114 rfl rfl
set_option maxRecDepth 20000 in
theorem lk_115 : Cond.selects RX12 yX12_draw yX12_draw ∈ WSG := lkS 115 rfl rfl
set_option maxRecDepth 20000 in
theorem lk_116 : Cond.selects RX12 yX12_holdFault yX12_holdFault ∈ WSG := lkS 116 rfl rfl
set_option maxRecDepth 20000 in
theorem lk_117 : Cond.selects RX12 yX12_laysWorth yX12_laysWorth ∈ WSG := lkS 117 rfl rfl
set_option maxRecDepth 20000 in
theorem lk_118 : Cond.selects RX12 yX12_grantsNow yX12_grantsNow ∈ WSG := lkS 118 rfl rfl
set_option maxRecDepth 20000 in
theorem lk_119 : Cond.selects RX12 yX12_cut yX12_cut ∈ WSG := lkS 119 rfl rfl
set_option maxRecDepth 20000 in
theorem lk_121 : Cond.initialized RX11 ∈ WSG := lkT1 1 rfl rfl
set_option maxRecDepth 20000 in
theorem lk_122 : Cond.initialized RX8 ∈ WSG := lkT1 2 rfl rfl
set_option maxRecDepth 20000 in
theorem lk_123 : Cond.initialized RX6 ∈ WSG := lkT1 3 rfl rfl
set_option maxRecDepth 20000 in
theorem lk_124 : Cond.initialized RX9 ∈ WSG := lkT1 4 rfl rfl
set_option maxRecDepth 20000 in
theorem lk_125 : Cond.initialized RX0 ∈ WSG := lkT1 5 rfl rfl
set_option maxRecDepth 20000 in
theorem lk_126 : Cond.initialized RX3 ∈ WSG := lkT1 6 rfl rfl
set_option maxRecDepth 20000 in
theorem lk_127 : Cond.initialized RJ7 ∈ WSG := lkT1 7 rfl rfl
set_option maxRecDepth 20000 in
theorem lk_128 : Cond.initialized RX2 ∈ WSG := lkT1 8 rfl rfl
set_option maxRecDepth 20000 in
theorem lk_129 : Cond.initialized RX7 ∈ WSG := lkT1 9 rfl rfl
set_option maxRecDepth 20000 in
theorem lk_130 : Cond.initialized RX5 ∈ WSG := lkT1 10 rfl rfl
set_option maxRecDepth 20000 in
theorem lk_131 : Cond.initialized RX1 ∈ WSG := lkT1 11 rfl rfl
set_option maxRecDepth 20000 in
theorem lk_132 : Cond.initialized RX4 ∈ WSG := lkT1 12 rfl rfl
set_option maxRecDepth 20000 in
theorem lk_133 : Cond.initialized RX10 ∈ WSG := lkT1 13 rfl rfl
set_option maxRecDepth 20000 in
theorem lk_134 : Cond.initialized RX12 ∈ WSG := lkT1 14 rfl rfl
set_option maxRecDepth 20000 in
theorem lk_135 : Cond.initialized "java/lang/Math" ∈ WSG := lkT1 15 rfl rfl
set_option maxRecDepth 20000 in
theorem lk_139 : Cond.initialized "java/lang/IllegalArgumentException" ∈ WSG := lkT1 19 rfl rfl
set_option maxRecDepth 20000 in
theorem lk_140 : Cond.initialized "java/lang/String" ∈ WSG := lkT1 20 rfl rfl
set_option maxRecDepth 20000 in
theorem lk_141 : Cond.initialized RJ1 ∈ WSG := lkT1 21 rfl rfl
set_option maxRecDepth 20000 in
theorem lk_143 : Cond.initialized RJ3 ∈ WSG := lkT1 23 rfl rfl
set_option maxRecDepth 20000 in
theorem lk_145 : Cond.initialized "java/lang/System" ∈ WSG := lkT1 25 rfl rfl
set_option maxRecDepth 20000 in
theorem lk_146 : Cond.initialized "java/util/NoSuchElementException" ∈ WSG := lkT1 26 rfl rfl
set_option maxRecDepth 20000 in
theorem lk_147 : Cond.initialized RJ6 ∈ WSG := lkT1 27 rfl rfl
set_option maxRecDepth 20000 in
theorem lk_148 : Cond.initialized "java/lang/IllegalStateException" ∈ WSG := lkT1 28 rfl rfl
set_option maxRecDepth 20000 in
theorem lk_149 : Cond.initialized "java/lang/IndexOutOfBoundsException" ∈ WSG := lkT1 29 rfl rfl
set_option maxRecDepth 20000 in
theorem lk_164 : Cond.fieldLink RX8 28 "RainWishes$Sky" "lines" "I" ∈ WSG := lkT1 44 rfl rfl
set_option maxRecDepth 20000 in
theorem lk_165 : Cond.fieldLink RX11 142 "RainWishes$Sky" "lines" "I" ∈ WSG := lkT1 45 rfl rfl
set_option maxRecDepth 20000 in
theorem lk_166 : Cond.fieldLink RX6 110 "RainWishes$Sky" "lines" "I" ∈ WSG := lkT1 46 rfl rfl
set_option maxRecDepth 20000 in
theorem lk_167 : Cond.fieldLink RX8 31 "RainWishes$Sky" "parishes" "I" ∈ WSG := lkT1 47 rfl rfl
set_option maxRecDepth 20000 in
theorem lk_168 : Cond.fieldLink RX6 95 "RainWishes$Sky" "parishes" "I" ∈ WSG := lkT1 48 rfl rfl
set_option maxRecDepth 20000 in
theorem lk_169 : Cond.fieldLink RX11 312 "RainWishes$Sky" "parishes" "I" ∈ WSG := lkT1 49 rfl rfl
set_option maxRecDepth 20000 in
theorem lk_170 : Cond.fieldLink RX8 34 "RainWishes$Sky" "days" "I" ∈ WSG := lkT1 50 rfl rfl
set_option maxRecDepth 20000 in
theorem lk_171 : Cond.fieldLink RX6 104 "RainWishes$Sky" "days" "I" ∈ WSG := lkT1 51 rfl rfl
set_option maxRecDepth 20000 in
theorem lk_172 : Cond.fieldLink RX11 439 "RainWishes$Sky" "days" "I" ∈ WSG := lkT1 52 rfl rfl
set_option maxRecDepth 20000 in
theorem lk_173 : Cond.fieldLink RX8 9 "RainWishes$Sky" "clouds" "I" ∈ WSG := lkT1 53 rfl rfl
set_option maxRecDepth 20000 in
theorem lk_174 : Cond.fieldLink RX6 124 "RainWishes$Sky" "clouds" "I" ∈ WSG := lkT1 54 rfl rfl
set_option maxRecDepth 20000 in
theorem lk_175 : Cond.fieldLink RX3 73 "RainWishes$Sky" "clouds" "I" ∈ WSG := lkT1 55 rfl rfl
set_option maxRecDepth 20000 in
theorem lk_176 : Cond.fieldLink RX11 386 "RainWishes$Sky" "clouds" "I" ∈ WSG := lkT1 56 rfl rfl
set_option maxRecDepth 20000 in
theorem lk_177 : Cond.fieldLink RX8 37 "RainWishes$Sky" "wind" "I" ∈ WSG := lkT1 57 rfl rfl
set_option maxRecDepth 20000 in
theorem lk_178 : Cond.fieldLink RX6 126 "RainWishes$Sky" "wind" "I" ∈ WSG := lkT1 58 rfl rfl
set_option maxRecDepth 20000 in
theorem lk_179 : Cond.fieldLink RX11 442 "RainWishes$Sky" "wind" "I" ∈ WSG := lkT1 59 rfl rfl
set_option maxRecDepth 20000 in
theorem lk_180 : Cond.fieldLink RX8 40 "RainWishes$Sky" "wishes" "I" ∈ WSG := lkT1 60 rfl rfl
set_option maxRecDepth 20000 in
theorem lk_181 : Cond.fieldLink RX3 28 "RainWishes$Sky" "wishes" "I" ∈ WSG := lkT1 61 rfl rfl
set_option maxRecDepth 20000 in
theorem lk_182 : Cond.fieldLink RX7 60 "RainWishes$Sky" "wishes" "I" ∈ WSG := lkT1 62 rfl rfl
set_option maxRecDepth 20000 in
theorem lk_183 : Cond.fieldLink RX11 133 "RainWishes$Sky" "wishes" "I" ∈ WSG := lkT1 63 rfl rfl
set_option maxRecDepth 20000 in
theorem lk_184 : Cond.fieldLink RX2 77 "RainWishes$Sky" "wishes" "I" ∈ WSG := lkT1 64 rfl rfl
set_option maxRecDepth 20000 in
theorem lk_185 : Cond.fieldLink RX0 45 "RainWishes$Sky" "wishes" "I" ∈ WSG := lkT1 65 rfl rfl
set_option maxRecDepth 20000 in
theorem lk_186 : Cond.fieldLink RX6 128 "RainWishes$Sky" "wishes" "I" ∈ WSG := lkT1 66 rfl rfl
set_option maxRecDepth 20000 in
theorem lk_187 : Cond.fieldLink RX8 43 "RainWishes$Sky" "musts" "I" ∈ WSG := lkT1 67 rfl rfl
set_option maxRecDepth 20000 in
theorem lk_188 : Cond.fieldLink RX11 162 "RainWishes$Sky" "musts" "I" ∈ WSG := lkT1 68 rfl rfl
set_option maxRecDepth 20000 in
theorem lk_189 : Cond.fieldLink RX3 76 "RainWishes$Sky" "musts" "I" ∈ WSG := lkT1 69 rfl rfl
set_option maxRecDepth 20000 in
theorem lk_190 : Cond.fieldLink RX6 141 "RainWishes$Sky" "musts" "I" ∈ WSG := lkT1 70 rfl rfl
set_option maxRecDepth 20000 in
theorem lk_191 : Cond.fieldLink RX7 102 "RainWishes$Sky" "musts" "I" ∈ WSG := lkT1 71 rfl rfl
set_option maxRecDepth 20000 in
theorem lk_192 : Cond.fieldLink RX2 96 "RainWishes$Sky" "musts" "I" ∈ WSG := lkT1 72 rfl rfl
set_option maxRecDepth 20000 in
theorem lk_193 : Cond.fieldLink RX1 51 "RainWishes$Sky" "cells" "I" ∈ WSG := lkT1 73 rfl rfl
set_option maxRecDepth 20000 in
theorem lk_194 : Cond.fieldLink RX8 52 "RainWishes$Sky" "cells" "I" ∈ WSG := lkT1 74 rfl rfl
set_option maxRecDepth 20000 in
theorem lk_195 : Cond.fieldLink RX5 53 "RainWishes$Sky" "cells" "I" ∈ WSG := lkT1 75 rfl rfl
set_option maxRecDepth 20000 in
theorem lk_196 : Cond.fieldLink RX11 382 "RainWishes$Sky" "cells" "I" ∈ WSG := lkT1 76 rfl rfl
set_option maxRecDepth 20000 in
theorem lk_197 : Cond.fieldLink RX5 30 "RainWishes$Sky" "allCells" "I" ∈ WSG := lkT1 77 rfl rfl
set_option maxRecDepth 20000 in
theorem lk_198 : Cond.fieldLink RX8 55 "RainWishes$Sky" "allCells" "I" ∈ WSG := lkT1 78 rfl rfl
set_option maxRecDepth 20000 in
theorem lk_199 : Cond.fieldLink RX2 56 "RainWishes$Sky" "allCells" "I" ∈ WSG := lkT1 79 rfl rfl
set_option maxRecDepth 20000 in
theorem lk_200 : Cond.fieldLink RX3 64 "RainWishes$Sky" "allCells" "I" ∈ WSG := lkT1 80 rfl rfl
set_option maxRecDepth 20000 in
theorem lk_201 : Cond.fieldLink RX6 189 "RainWishes$Sky" "allCells" "I" ∈ WSG := lkT1 81 rfl rfl
set_option maxRecDepth 20000 in
theorem lk_202 : Cond.fieldLink RX11 208 "RainWishes$Sky" "allCells" "I" ∈ WSG := lkT1 82 rfl rfl
set_option maxRecDepth 20000 in
theorem lk_203 : Cond.fieldLink RX8 46 "RainWishes$Sky" "codes" "I" ∈ WSG := lkT1 83 rfl rfl
set_option maxRecDepth 20000 in
theorem lk_204 : Cond.fieldLink RX6 147 "RainWishes$Sky" "codes" "I" ∈ WSG := lkT1 84 rfl rfl
set_option maxRecDepth 20000 in
theorem lk_205 : Cond.fieldLink RX8 58 "RainWishes$Sky" "blown" "I" ∈ WSG := lkT1 85 rfl rfl
set_option maxRecDepth 20000 in
theorem lk_206 : Cond.fieldLink RX8 61 "RainWishes$Sky" "blownBy" "I" ∈ WSG := lkT1 86 rfl rfl
set_option maxRecDepth 20000 in
theorem lk_207 : Cond.fieldLink RX8 15 "RainWishes$Sky" "by" "[I" ∈ WSG := lkT1 87 rfl rfl
set_option maxRecDepth 20000 in
theorem lk_208 : Cond.fieldLink RX7 75 "RainWishes$Sky" "by" "[I" ∈ WSG := lkT1 88 rfl rfl
set_option maxRecDepth 20000 in
theorem lk_209 : Cond.fieldLink RX0 50 "RainWishes$Sky" "by" "[I" ∈ WSG := lkT1 89 rfl rfl
set_option maxRecDepth 20000 in
theorem lk_210 : Cond.fieldLink RX11 155 "RainWishes$Sky" "by" "[I" ∈ WSG := lkT1 90 rfl rfl
set_option maxRecDepth 20000 in
theorem lk_211 : Cond.fieldLink RX6 133 "RainWishes$Sky" "by" "[I" ∈ WSG := lkT1 91 rfl rfl
set_option maxRecDepth 20000 in
theorem lk_212 : Cond.fieldLink RX8 19 "RainWishes$Sky" "weight" "[I" ∈ WSG := lkT1 92 rfl rfl
set_option maxRecDepth 20000 in
theorem lk_213 : Cond.fieldLink RX7 37 "RainWishes$Sky" "weight" "[I" ∈ WSG := lkT1 93 rfl rfl
set_option maxRecDepth 20000 in
theorem lk_214 : Cond.fieldLink RX0 53 "RainWishes$Sky" "weight" "[I" ∈ WSG := lkT1 94 rfl rfl
set_option maxRecDepth 20000 in
theorem lk_215 : Cond.fieldLink RX11 159 "RainWishes$Sky" "weight" "[I" ∈ WSG := lkT1 95 rfl rfl
set_option maxRecDepth 20000 in
theorem lk_216 : Cond.fieldLink RX6 135 "RainWishes$Sky" "weight" "[I" ∈ WSG := lkT1 96 rfl rfl
set_option maxRecDepth 20000 in
theorem lk_217 : Cond.fieldLink RX8 22 "RainWishes$Sky" "from" "[I" ∈ WSG := lkT1 97 rfl rfl
set_option maxRecDepth 20000 in
theorem lk_218 : Cond.fieldLink RX3 38 "RainWishes$Sky" "from" "[I" ∈ WSG := lkT1 98 rfl rfl
set_option maxRecDepth 20000 in
theorem lk_219 : Cond.fieldLink RX6 144 "RainWishes$Sky" "from" "[I" ∈ WSG := lkT1 99 rfl rfl
set_option maxRecDepth 20000 in
theorem lk_220 : Cond.fieldLink RX8 25 "RainWishes$Sky" "code" "[I" ∈ WSG := lkT1 100 rfl rfl
set_option maxRecDepth 20000 in
theorem lk_221 : Cond.fieldLink RX3 41 "RainWishes$Sky" "code" "[I" ∈ WSG := lkT1 101 rfl rfl
set_option maxRecDepth 20000 in
theorem lk_270 : Cond.fieldLink RX9 7 "RainWishes$Tokens" "text" "[B" ∈ WSG := lkT1 150 rfl rfl
set_option maxRecDepth 20000 in
theorem lk_271 : Cond.fieldLink RX9 13 "RainWishes$Tokens" "length" "I" ∈ WSG := lkT1 151 rfl rfl
set_option maxRecDepth 20000 in
theorem lk_272 : Cond.fieldLink RX9 17 "RainWishes$Tokens" "end" "I" ∈ WSG := lkT1 152 rfl rfl
set_option maxRecDepth 20000 in
theorem lk_273 : Cond.fieldLink RX9 23 "RainWishes$Tokens" "start" "I" ∈ WSG := lkT1 153 rfl rfl
set_option maxRecDepth 20000 in
theorem lk_274 : Cond.fieldLink RX6 66 "RainWishes$Tokens" "start" "I" ∈ WSG := lkT1 154 rfl rfl
set_option maxRecDepth 20000 in
theorem lk_275 : Cond.fieldLink RX6 51 "RainWishes$Tokens" "kind" "I" ∈ WSG := lkT1 155 rfl rfl
set_option maxRecDepth 20000 in
theorem lk_276 : Cond.fieldLink RX9 26 "RainWishes$Tokens" "kind" "I" ∈ WSG := lkT1 156 rfl rfl
set_option maxRecDepth 20000 in
theorem lk_288 : Cond.fieldLink RX6 24 "RainWishes$Parser" "tokens" "LRainWishes$Tokens;" ∈ WSG := lkT1 168 rfl rfl
set_option maxRecDepth 20000 in
theorem lk_289 : Cond.fieldLink RX6 28 "RainWishes$Parser" "sky" "LRainWishes$Sky;" ∈ WSG := lkT1 169 rfl rfl
set_option maxRecDepth 20000 in
theorem lk_290 : Cond.fieldLink RX6 9 "RainWishes$Parser" "waiting" "[I" ∈ WSG := lkT1 170 rfl rfl
set_option maxRecDepth 20000 in
theorem lk_291 : Cond.fieldLink RX6 150 "RainWishes$Parser" "top" "I" ∈ WSG := lkT1 171 rfl rfl
set_option maxRecDepth 20000 in
theorem lk_292 : Cond.fieldLink RX6 153 "RainWishes$Parser" "nested" "I" ∈ WSG := lkT1 172 rfl rfl
set_option maxRecDepth 20000 in
theorem lk_293 : Cond.fieldLink RX6 156 "RainWishes$Parser" "parens" "I" ∈ WSG := lkT1 173 rfl rfl
set_option maxRecDepth 20000 in
theorem lk_294 : Cond.fieldLink RX6 159 "RainWishes$Parser" "squares" "I" ∈ WSG := lkT1 174 rfl rfl
set_option maxRecDepth 20000 in
theorem lk_295 : Cond.fieldLink RX6 164 "RainWishes$Parser" "compared" "Z" ∈ WSG := lkT1 175 rfl rfl
set_option maxRecDepth 20000 in
theorem lk_296 : Cond.fieldLink RX6 40 "RainWishes$Parser" "state" "I" ∈ WSG := lkT1 176 rfl rfl
set_option maxRecDepth 20000 in
theorem lk_297 : Cond.fieldLink RX6 84 "RainWishes$Parser" "number" "I" ∈ WSG := lkT1 177 rfl rfl
set_option maxRecDepth 20000 in
theorem lk_298 : Cond.fieldLink RX6 37 "RainWishes$Parser" "fault" "I" ∈ WSG := lkT1 178 rfl rfl
set_option maxRecDepth 20000 in
theorem lk_299 : Cond.fieldLink RX11 127 "RainWishes$Parser" "fault" "I" ∈ WSG := lkT1 179 rfl rfl
set_option maxRecDepth 20000 in
theorem lk_300 : Cond.fieldLink RX6 15 "RainWishes$Parser" "place" "I" ∈ WSG := lkT1 180 rfl rfl
set_option maxRecDepth 20000 in
theorem lk_301 : Cond.fieldLink RX11 149 "RainWishes$Parser" "place" "I" ∈ WSG := lkT1 181 rfl rfl
set_option maxRecDepth 20000 in
theorem lk_335 : Cond.fieldLink RX0 23 "RainWishes$Book" "open" "I" ∈ WSG := lkT1 215 rfl rfl
set_option maxRecDepth 20000 in
theorem lk_336 : Cond.fieldLink RX2 41 "RainWishes$Book" "open" "I" ∈ WSG := lkT1 216 rfl rfl
set_option maxRecDepth 20000 in
theorem lk_337 : Cond.fieldLink RX7 53 "RainWishes$Book" "open" "I" ∈ WSG := lkT1 217 rfl rfl
set_option maxRecDepth 20000 in
theorem lk_338 : Cond.fieldLink RX11 165 "RainWishes$Book" "open" "I" ∈ WSG := lkT1 218 rfl rfl
set_option maxRecDepth 20000 in
theorem lk_339 : Cond.fieldLink RX0 9 "RainWishes$Book" "ages" "[I" ∈ WSG := lkT1 219 rfl rfl
set_option maxRecDepth 20000 in
theorem lk_340 : Cond.fieldLink RX7 48 "RainWishes$Book" "ages" "[I" ∈ WSG := lkT1 220 rfl rfl
set_option maxRecDepth 20000 in
theorem lk_341 : Cond.fieldLink RX11 168 "RainWishes$Book" "ages" "[I" ∈ WSG := lkT1 221 rfl rfl
set_option maxRecDepth 20000 in
theorem lk_342 : Cond.fieldLink RX0 15 "RainWishes$Book" "dues" "[I" ∈ WSG := lkT1 222 rfl rfl
set_option maxRecDepth 20000 in
theorem lk_343 : Cond.fieldLink RX11 363 "RainWishes$Book" "dues" "[I" ∈ WSG := lkT1 223 rfl rfl
set_option maxRecDepth 20000 in
theorem lk_344 : Cond.fieldLink RX0 33 "RainWishes$Book" "deeds" "I" ∈ WSG := lkT1 224 rfl rfl
set_option maxRecDepth 20000 in
theorem lk_345 : Cond.fieldLink RX11 368 "RainWishes$Book" "deeds" "I" ∈ WSG := lkT1 225 rfl rfl
set_option maxRecDepth 20000 in
theorem lk_346 : Cond.fieldLink RX0 36 "RainWishes$Book" "eldest" "I" ∈ WSG := lkT1 226 rfl rfl
set_option maxRecDepth 20000 in
theorem lk_347 : Cond.fieldLink RX0 20 "RainWishes$Book" "past" "[[I" ∈ WSG := lkT1 227 rfl rfl
set_option maxRecDepth 20000 in
theorem lk_367 : Cond.methodLink RX3 22 yJ7_fill_53178 ∈ WSG := lkT2 7 rfl rfl
set_option maxRecDepth 20000 in
theorem lk_368 : Cond.static yJ7_fill_53178 ∈ WSG := lkT2 8 rfl rfl
set_option maxRecDepth 20000 in
theorem lk_369 : Cond.code yJ7_fill_53178 cJ7_fill_53178 4 none ∈ WSG := lkT2 9 rfl rfl
set_option maxRecDepth 20000 in
theorem lk_370 : Cond.fieldLink RX3 18 "RainWishes$Field" "sky" "LRainWishes$Sky;" ∈ WSG := lkT2 10 rfl rfl
set_option maxRecDepth 20000 in
theorem lk_371 : Cond.fieldLink RX3 9 "RainWishes$Field" "held" "[I" ∈ WSG := lkT2 11 rfl rfl
set_option maxRecDepth 20000 in
theorem lk_372 : Cond.fieldLink RX3 15 "RainWishes$Field" "stack" "[I" ∈ WSG := lkT2 12 rfl rfl
set_option maxRecDepth 20000 in
theorem lk_386 : Cond.fieldLink RX2 21 "RainWishes$Choices" "sky" "LRainWishes$Sky;" ∈ WSG := lkT2 26 rfl rfl
set_option maxRecDepth 20000 in
theorem lk_387 : Cond.fieldLink RX2 25 "RainWishes$Choices" "book" "LRainWishes$Book;" ∈ WSG := lkT2 27 rfl rfl
set_option maxRecDepth 20000 in
theorem lk_388 : Cond.fieldLink RX2 29 "RainWishes$Choices" "field" "LRainWishes$Field;" ∈ WSG := lkT2 28 rfl rfl
set_option maxRecDepth 20000 in
theorem lk_389 : Cond.fieldLink RX2 9 "RainWishes$Choices" "able" "[I" ∈ WSG := lkT2 29 rfl rfl
set_option maxRecDepth 20000 in
theorem lk_390 : Cond.fieldLink RX1 102 "RainWishes$Choices" "able" "[I" ∈ WSG := lkT2 30 rfl rfl
set_option maxRecDepth 20000 in
theorem lk_391 : Cond.fieldLink RX11 426 "RainWishes$Choices" "able" "[I" ∈ WSG := lkT2 31 rfl rfl
set_option maxRecDepth 20000 in
theorem lk_392 : Cond.fieldLink RX2 47 "RainWishes$Choices" "ables" "I" ∈ WSG := lkT2 32 rfl rfl
set_option maxRecDepth 20000 in
theorem lk_393 : Cond.fieldLink RX1 97 "RainWishes$Choices" "ables" "I" ∈ WSG := lkT2 33 rfl rfl
set_option maxRecDepth 20000 in
theorem lk_394 : Cond.fieldLink RX11 198 "RainWishes$Choices" "ables" "I" ∈ WSG := lkT2 34 rfl rfl
set_option maxRecDepth 20000 in
theorem lk_395 : Cond.fieldLink RX2 15 "RainWishes$Choices" "least" "[I" ∈ WSG := lkT2 35 rfl rfl
set_option maxRecDepth 20000 in
theorem lk_396 : Cond.fieldLink RX2 18 "RainWishes$Choices" "fewest" "[I" ∈ WSG := lkT2 36 rfl rfl
set_option maxRecDepth 20000 in
theorem lk_397 : Cond.fieldLink RX2 37 "RainWishes$Choices" "open" "I" ∈ WSG := lkT2 37 rfl rfl
set_option maxRecDepth 20000 in
theorem lk_398 : Cond.fieldLink RX2 33 "RainWishes$Choices" "fresh" "Z" ∈ WSG := lkT2 38 rfl rfl
set_option maxRecDepth 20000 in
theorem lk_424 : Cond.fieldLink RX7 18 "RainWishes$Rules" "sky" "LRainWishes$Sky;" ∈ WSG := lkT2 64 rfl rfl
set_option maxRecDepth 20000 in
theorem lk_425 : Cond.fieldLink RX7 22 "RainWishes$Rules" "book" "LRainWishes$Book;" ∈ WSG := lkT2 65 rfl rfl
set_option maxRecDepth 20000 in
theorem lk_426 : Cond.fieldLink RX7 26 "RainWishes$Rules" "choices" "LRainWishes$Choices;" ∈ WSG := lkT2 66 rfl rfl
set_option maxRecDepth 20000 in
theorem lk_427 : Cond.fieldLink RX7 9 "RainWishes$Rules" "saidWeight" "[I" ∈ WSG := lkT2 67 rfl rfl
set_option maxRecDepth 20000 in
theorem lk_428 : Cond.fieldLink RX7 15 "RainWishes$Rules" "saidAge" "[I" ∈ WSG := lkT2 68 rfl rfl
set_option maxRecDepth 20000 in
theorem lk_429 : Cond.fieldLink RX7 57 "RainWishes$Rules" "saidOpen" "I" ∈ WSG := lkT2 69 rfl rfl
set_option maxRecDepth 20000 in
theorem lk_430 : Cond.fieldLink RX7 92 "RainWishes$Rules" "gain" "I" ∈ WSG := lkT2 70 rfl rfl
set_option maxRecDepth 20000 in
theorem lk_431 : Cond.fieldLink RX11 302 "RainWishes$Rules" "gain" "I" ∈ WSG := lkT2 71 rfl rfl
set_option maxRecDepth 20000 in
theorem lk_432 : Cond.fieldLink RX7 95 "RainWishes$Rules" "form" "I" ∈ WSG := lkT2 72 rfl rfl
set_option maxRecDepth 20000 in
theorem lk_433 : Cond.fieldLink RX11 305 "RainWishes$Rules" "form" "I" ∈ WSG := lkT2 73 rfl rfl
set_option maxRecDepth 20000 in
theorem lk_457 : Cond.fieldLink RX5 15 "RainWishes$Meant" "sky" "LRainWishes$Sky;" ∈ WSG := lkT2 97 rfl rfl
set_option maxRecDepth 20000 in
theorem lk_458 : Cond.fieldLink RX5 11 "RainWishes$Meant" "told" "[I" ∈ WSG := lkT2 98 rfl rfl
set_option maxRecDepth 20000 in
theorem lk_459 : Cond.fieldLink RX5 25 "RainWishes$Meant" "many" "I" ∈ WSG := lkT2 99 rfl rfl
set_option maxRecDepth 20000 in
theorem lk_460 : Cond.fieldLink RX5 54 "RainWishes$Meant" "care" "I" ∈ WSG := lkT2 100 rfl rfl
set_option maxRecDepth 20000 in
theorem lk_461 : Cond.fieldLink RX5 57 "RainWishes$Meant" "wet" "I" ∈ WSG := lkT2 101 rfl rfl
set_option maxRecDepth 20000 in
theorem lk_462 : Cond.fieldLink RX5 38 "RainWishes$Meant" "cells" "I" ∈ WSG := lkT2 102 rfl rfl
set_option maxRecDepth 20000 in
theorem lk_463 : Cond.fieldLink RX11 326 "RainWishes$Meant" "cells" "I" ∈ WSG := lkT2 103 rfl rfl
set_option maxRecDepth 20000 in
theorem lk_464 : Cond.fieldLink RX5 35 "RainWishes$Meant" "ways" "I" ∈ WSG := lkT2 104 rfl rfl
set_option maxRecDepth 20000 in
theorem lk_465 : Cond.fieldLink RX11 329 "RainWishes$Meant" "ways" "I" ∈ WSG := lkT2 105 rfl rfl
set_option maxRecDepth 20000 in
theorem lk_488 : Cond.fieldLink RX1 27 "RainWishes$Brackets" "sky" "LRainWishes$Sky;" ∈ WSG := lkT2 128 rfl rfl
set_option maxRecDepth 20000 in
theorem lk_489 : Cond.fieldLink RX1 31 "RainWishes$Brackets" "choices" "LRainWishes$Choices;" ∈ WSG := lkT2 129 rfl rfl
set_option maxRecDepth 20000 in
theorem lk_490 : Cond.fieldLink RX1 9 "RainWishes$Brackets" "joint" "[I" ∈ WSG := lkT2 130 rfl rfl
set_option maxRecDepth 20000 in
theorem lk_491 : Cond.fieldLink RX1 13 "RainWishes$Brackets" "cellOf" "[I" ∈ WSG := lkT2 131 rfl rfl
set_option maxRecDepth 20000 in
theorem lk_492 : Cond.fieldLink RX1 16 "RainWishes$Brackets" "plansIn" "[I" ∈ WSG := lkT2 132 rfl rfl
set_option maxRecDepth 20000 in
theorem lk_493 : Cond.fieldLink RX1 21 "RainWishes$Brackets" "found" "[[I" ∈ WSG := lkT2 133 rfl rfl
set_option maxRecDepth 20000 in
theorem lk_494 : Cond.fieldLink RX1 24 "RainWishes$Brackets" "ways" "[I" ∈ WSG := lkT2 134 rfl rfl
set_option maxRecDepth 20000 in
theorem lk_495 : Cond.fieldLink RX1 41 "RainWishes$Brackets" "parts" "I" ∈ WSG := lkT2 135 rfl rfl
set_option maxRecDepth 20000 in
theorem lk_496 : Cond.fieldLink RX1 44 "RainWishes$Brackets" "spokenOf" "I" ∈ WSG := lkT2 136 rfl rfl
set_option maxRecDepth 20000 in
theorem lk_524 : Cond.fieldLink RX4 11 "RainWishes$Holding" "weights" "[I" ∈ WSG := lkT2 164 rfl rfl
set_option maxRecDepth 20000 in
theorem lk_525 : Cond.fieldLink RX4 30 "RainWishes$Holding" "many" "I" ∈ WSG := lkT2 165 rfl rfl
set_option maxRecDepth 20000 in
theorem lk_526 : Cond.fieldLink RX4 17 "RainWishes$Holding" "worth" "[[J" ∈ WSG := lkT2 166 rfl rfl
set_option maxRecDepth 20000 in
theorem lk_527 : Cond.fieldLink RX4 20 "RainWishes$Holding" "scale" "[J" ∈ WSG := lkT2 167 rfl rfl
set_option maxRecDepth 20000 in
theorem lk_545 : Cond.fieldLink RX10 19 "RainWishes$Tray" "sort" "I" ∈ WSG := lkT2 185 rfl rfl
set_option maxRecDepth 20000 in
theorem lk_546 : Cond.fieldLink RX10 9 "RainWishes$Tray" "many" "I" ∈ WSG := lkT2 186 rfl rfl
set_option maxRecDepth 20000 in
theorem lk_547 : Cond.fieldLink RX1 35 "RainWishes$Tray" "many" "I" ∈ WSG := lkT2 187 rfl rfl
set_option maxRecDepth 20000 in
theorem lk_548 : Cond.fieldLink RX5 19 "RainWishes$Tray" "many" "I" ∈ WSG := lkT2 188 rfl rfl
set_option maxRecDepth 20000 in
theorem lk_549 : Cond.fieldLink RX4 24 "RainWishes$Tray" "many" "I" ∈ WSG := lkT2 189 rfl rfl
set_option maxRecDepth 20000 in
theorem lk_550 : Cond.fieldLink RX11 223 "RainWishes$Tray" "many" "I" ∈ WSG := lkT2 190 rfl rfl
set_option maxRecDepth 20000 in
theorem lk_551 : Cond.fieldLink RX10 15 "RainWishes$Tray" "row" "[J" ∈ WSG := lkT2 191 rfl rfl
set_option maxRecDepth 20000 in
theorem lk_552 : Cond.fieldLink RX5 26 "RainWishes$Tray" "row" "[J" ∈ WSG := lkT2 192 rfl rfl
set_option maxRecDepth 20000 in
theorem lk_553 : Cond.fieldLink RX4 31 "RainWishes$Tray" "row" "[J" ∈ WSG := lkT2 193 rfl rfl
set_option maxRecDepth 20000 in
theorem lk_554 : Cond.fieldLink RX1 47 "RainWishes$Tray" "row" "[J" ∈ WSG := lkT2 194 rfl rfl
set_option maxRecDepth 20000 in
theorem lk_555 : Cond.fieldLink RX11 376 "RainWishes$Tray" "row" "[J" ∈ WSG := lkT2 195 rfl rfl
set_option maxRecDepth 20000 in
theorem lk_565 : Cond.fieldLink RX11 9 "RainWishes" "tape" "[B" ∈ WSG := lkT2 205 rfl rfl
set_option maxRecDepth 20000 in
theorem lk_566 : Cond.fieldLink RX11 108 "RainWishes" "onTape" "I" ∈ WSG := lkT2 206 rfl rfl
set_option maxRecDepth 20000 in
theorem lk_567 : Cond.fieldLink RX11 20 "RainWishes" "sky" "LRainWishes$Sky;" ∈ WSG := lkT2 207 rfl rfl
set_option maxRecDepth 20000 in
theorem lk_568 : Cond.fieldLink RX11 24 "RainWishes" "draft" "LRainWishes$Sky;" ∈ WSG := lkT2 208 rfl rfl
set_option maxRecDepth 20000 in
theorem lk_569 : Cond.fieldLink RX11 32 "RainWishes" "parser" "LRainWishes$Parser;" ∈ WSG := lkT2 209 rfl rfl
set_option maxRecDepth 20000 in
theorem lk_570 : Cond.fieldLink RX11 39 "RainWishes" "book" "LRainWishes$Book;" ∈ WSG := lkT2 210 rfl rfl
set_option maxRecDepth 20000 in
theorem lk_571 : Cond.fieldLink RX11 48 "RainWishes" "field" "LRainWishes$Field;" ∈ WSG := lkT2 211 rfl rfl
set_option maxRecDepth 20000 in
theorem lk_572 : Cond.fieldLink RX11 57 "RainWishes" "choices" "LRainWishes$Choices;" ∈ WSG := lkT2 212 rfl rfl
set_option maxRecDepth 20000 in
theorem lk_573 : Cond.fieldLink RX11 66 "RainWishes" "rules" "LRainWishes$Rules;" ∈ WSG := lkT2 213 rfl rfl
set_option maxRecDepth 20000 in
theorem lk_574 : Cond.fieldLink RX11 73 "RainWishes" "meant" "LRainWishes$Meant;" ∈ WSG := lkT2 214 rfl rfl
set_option maxRecDepth 20000 in
theorem lk_575 : Cond.fieldLink RX11 82 "RainWishes" "brackets" "LRainWishes$Brackets;" ∈ WSG := lkT2 215 rfl rfl
set_option maxRecDepth 20000 in
theorem lk_576 : Cond.fieldLink RX11 89 "RainWishes" "reserve" "LRainWishes$Holding;" ∈ WSG := lkT2 216 rfl rfl
set_option maxRecDepth 20000 in
theorem lk_577 : Cond.fieldLink RX11 95 "RainWishes" "trays" "[LRainWishes$Tray;" ∈ WSG := lkT2 217 rfl rfl
set_option maxRecDepth 20000 in
theorem lk_578 : Cond.fieldLink RX11 100 "RainWishes" "imageSkies" "[LRainWishes$Sky;" ∈ WSG := lkT2 218 rfl rfl
set_option maxRecDepth 20000 in
theorem lk_579 : Cond.fieldLink RX11 104 "RainWishes" "imageBooks" "[LRainWishes$Book;" ∈ WSG := lkT2 219 rfl rfl
set_option maxRecDepth 20000 in
theorem lk_580 : Cond.fieldLink RX11 13 "RainWishes" "imaged" "[Z" ∈ WSG := lkT2 220 rfl rfl
set_option maxRecDepth 20000 in
theorem lk_618 : Cond.methodLink RX11 112 yX11_lay ∈ WSG := lkT3 18 rfl rfl
set_option maxRecDepth 20000 in
theorem lk_620 : Cond.instanceMethod yX11_lay ∈ WSG := lkT3 20 rfl rfl
set_option maxRecDepth 20000 in
theorem lk_621 : Cond.code yX11_lay cX11_lay 3 none ∈ WSG := lkT3 21 rfl rfl
set_option maxRecDepth 20000 in
theorem lk_630 : Cond.methodLink RX11 186 yX3_whyNot ∈ WSG := lkT3 30 rfl rfl
set_option maxRecDepth 20000 in
theorem lk_631 : Cond.instanceMethod yX3_whyNot ∈ WSG := lkT3 31 rfl rfl
set_option maxRecDepth 20000 in
theorem lk_632 : Cond.selects RX3 yX3_whyNot yX3_whyNot ∈ WSG := lkT3 32 rfl rfl
set_option maxRecDepth 20000 in
theorem lk_633 : Cond.code yX3_whyNot cX3_whyNot 5 (some .int) ∈ WSG := lkT3 33 rfl rfl
set_option maxRecDepth 20000 in
theorem lk_634 : Cond.methodLink RX3 44 yJ6_bitCount_0f7a4 ∈ WSG := lkT3 34 rfl rfl
set_option maxRecDepth 20000 in
theorem lk_635 : Cond.static yJ6_bitCount_0f7a4 ∈ WSG := lkT3 35 rfl rfl
set_option maxRecDepth 20000 in
theorem lk_636 : Cond.code yJ6_bitCount_0f7a4 cJ6_bitCount_0f7a4 1 (some .int) ∈ WSG := lkT3 36 rfl rfl
set_option maxRecDepth 20000 in
theorem lk_637 : Cond.constant RJ6 265 (1431655765 : Int32) ∈ WSG := lkT3 37 rfl rfl
set_option maxRecDepth 20000 in
theorem lk_638 : Cond.constant RJ6 266 (858993459 : Int32) ∈ WSG := lkT3 38 rfl rfl
set_option maxRecDepth 20000 in
theorem lk_639 : Cond.constant RJ6 267 (252645135 : Int32) ∈ WSG := lkT3 39 rfl rfl
set_option maxRecDepth 20000 in
theorem lk_640 : Cond.methodLink RX3 70 yX8_weatherOf ∈ WSG := lkT3 40 rfl rfl
set_option maxRecDepth 20000 in
theorem lk_641 : Cond.instanceMethod yX8_weatherOf ∈ WSG := lkT3 41 rfl rfl
set_option maxRecDepth 20000 in
theorem lk_642 : Cond.selects RX8 yX8_weatherOf yX8_weatherOf ∈ WSG := lkT3 42 rfl rfl
set_option maxRecDepth 20000 in
theorem lk_643 : Cond.code yX8_weatherOf cX8_weatherOf 2 (some .int) ∈ WSG := lkT3 43 rfl rfl
set_option maxRecDepth 20000 in
theorem lk_644 : Cond.methodLink RX3 67 yX3_at ∈ WSG := lkT3 44 rfl rfl
set_option maxRecDepth 20000 in
theorem lk_645 : Cond.instanceMethod yX3_at ∈ WSG := lkT3 45 rfl rfl
set_option maxRecDepth 20000 in
theorem lk_646 : Cond.selects RX3 yX3_at yX3_at ∈ WSG := lkT3 46 rfl rfl
set_option maxRecDepth 20000 in
theorem lk_647 : Cond.code yX3_at cX3_at 4 (some .int) ∈ WSG := lkT3 47 rfl rfl
set_option maxRecDepth 20000 in
theorem lk_648 : Cond.methodLink RX3 34 yX3_truthOf ∈ WSG := lkT3 48 rfl rfl
set_option maxRecDepth 20000 in
theorem lk_650 : Cond.instanceMethod yX3_truthOf ∈ WSG := lkT3 50 rfl rfl
set_option maxRecDepth 20000 in
theorem lk_651 : Cond.code yX3_truthOf cX3_truthOf 7 (some .int) ∈ WSG := lkT3 51 rfl rfl
set_option maxRecDepth 20000 in
theorem lk_652 : Cond.methodLink RX3 50 yX3_reckon ∈ WSG := lkT3 52 rfl rfl
set_option maxRecDepth 20000 in
theorem lk_653 : Cond.static yX3_reckon ∈ WSG := lkT3 53 rfl rfl
set_option maxRecDepth 20000 in
theorem lk_654 : Cond.code yX3_reckon cX3_reckon 5 (some .long) ∈ WSG := lkT3 54 rfl rfl
set_option maxRecDepth 20000 in
theorem lk_655 : Cond.methodLink RX3 54 yX3_kept ∈ WSG := lkT3 55 rfl rfl
set_option maxRecDepth 20000 in
theorem lk_656 : Cond.static yX3_kept ∈ WSG := lkT3 56 rfl rfl
set_option maxRecDepth 20000 in
theorem lk_657 : Cond.code yX3_kept cX3_kept 2 (some .int) ∈ WSG := lkT3 57 rfl rfl
set_option maxRecDepth 20000 in
theorem lk_658 : Cond.constantLong RX3 58 (1000000 : Int64) ∈ WSG := lkT3 58 rfl rfl
set_option maxRecDepth 20000 in
theorem lk_659 : Cond.constant RX3 60 (1000000 : Int32) ∈ WSG := lkT3 59 rfl rfl
set_option maxRecDepth 20000 in
theorem lk_660 : Cond.constantLong RX3 61 (-1000000 : Int64) ∈ WSG := lkT3 60 rfl rfl
set_option maxRecDepth 20000 in
theorem lk_661 : Cond.constant RX3 63 (-1000000 : Int32) ∈ WSG := lkT3 61 rfl rfl
set_option maxRecDepth 20000 in
theorem lk_666 : Cond.methodLink RX11 194 yX2_settled ∈ WSG := lkT3 66 rfl rfl
set_option maxRecDepth 20000 in
theorem lk_667 : Cond.instanceMethod yX2_settled ∈ WSG := lkT3 67 rfl rfl
set_option maxRecDepth 20000 in
theorem lk_668 : Cond.selects RX2 yX2_settled yX2_settled ∈ WSG := lkT3 68 rfl rfl
set_option maxRecDepth 20000 in
theorem lk_669 : Cond.code yX2_settled cX2_settled 1 (some (.object "RainWishes$Choices")) ∈ WSG := lkT3 69 rfl rfl
set_option maxRecDepth 20000 in
theorem lk_670 : Cond.methodLink RX2 44 yX2_settle ∈ WSG := lkT3 70 rfl rfl
set_option maxRecDepth 20000 in
theorem lk_672 : Cond.instanceMethod yX2_settle ∈ WSG := lkT3 72 rfl rfl
set_option maxRecDepth 20000 in
theorem lk_673 : Cond.code yX2_settle cX2_settle 3 none ∈ WSG := lkT3 73 rfl rfl
set_option maxRecDepth 20000 in
theorem lk_674 : Cond.methodLink RX2 50 yJ7_fill_53178 ∈ WSG := lkT3 74 rfl rfl
set_option maxRecDepth 20000 in
theorem lk_675 : Cond.methodLink RX2 61 yX3_whyNot ∈ WSG := lkT3 75 rfl rfl
set_option maxRecDepth 20000 in
theorem lk_676 : Cond.methodLink RX2 67 yX3_grantedBy ∈ WSG := lkT3 76 rfl rfl
set_option maxRecDepth 20000 in
theorem lk_677 : Cond.instanceMethod yX3_grantedBy ∈ WSG := lkT3 77 rfl rfl
set_option maxRecDepth 20000 in
theorem lk_678 : Cond.selects RX3 yX3_grantedBy yX3_grantedBy ∈ WSG := lkT3 78 rfl rfl
set_option maxRecDepth 20000 in
theorem lk_679 : Cond.code yX3_grantedBy cX3_grantedBy 3 (some .int) ∈ WSG := lkT3 79 rfl rfl
set_option maxRecDepth 20000 in
theorem lk_680 : Cond.methodLink RX2 71 yX2_lesser ∈ WSG := lkT3 80 rfl rfl
set_option maxRecDepth 20000 in
theorem lk_681 : Cond.static yX2_lesser ∈ WSG := lkT3 81 rfl rfl
set_option maxRecDepth 20000 in
theorem lk_682 : Cond.code yX2_lesser cX2_lesser 3 (some .int) ∈ WSG := lkT3 82 rfl rfl
set_option maxRecDepth 20000 in
theorem lk_683 : Cond.methodLink RX2 80 yJ6_bitCount_0f7a4 ∈ WSG := lkT3 83 rfl rfl
set_option maxRecDepth 20000 in
theorem lk_684 : Cond.methodLink RX2 74 yX2_spread ∈ WSG := lkT3 84 rfl rfl
set_option maxRecDepth 20000 in
theorem lk_686 : Cond.instanceMethod yX2_spread ∈ WSG := lkT3 86 rfl rfl
set_option maxRecDepth 20000 in
theorem lk_687 : Cond.code yX2_spread cX2_spread 3 none ∈ WSG := lkT3 87 rfl rfl
set_option maxRecDepth 20000 in
theorem lk_692 : Cond.methodLink RX11 257 yX2_nightsForAll ∈ WSG := lkT3 92 rfl rfl
set_option maxRecDepth 20000 in
theorem lk_693 : Cond.instanceMethod yX2_nightsForAll ∈ WSG := lkT3 93 rfl rfl
set_option maxRecDepth 20000 in
theorem lk_694 : Cond.selects RX2 yX2_nightsForAll yX2_nightsForAll ∈ WSG := lkT3 94 rfl rfl
set_option maxRecDepth 20000 in
theorem lk_695 : Cond.code yX2_nightsForAll cX2_nightsForAll 2 (some .int) ∈ WSG := lkT3 95 rfl rfl
set_option maxRecDepth 20000 in
theorem lk_696 : Cond.methodLink RX2 93 yX2_nightsFor ∈ WSG := lkT3 96 rfl rfl
set_option maxRecDepth 20000 in
theorem lk_698 : Cond.instanceMethod yX2_nightsFor ∈ WSG := lkT3 98 rfl rfl
set_option maxRecDepth 20000 in
theorem lk_699 : Cond.code yX2_nightsFor cX2_nightsFor 5 (some .int) ∈ WSG := lkT3 99 rfl rfl
set_option maxRecDepth 20000 in
theorem lk_700 : Cond.methodLink RX2 86 yX2_areTogether ∈ WSG := lkT3 100 rfl rfl
set_option maxRecDepth 20000 in
theorem lk_702 : Cond.instanceMethod yX2_areTogether ∈ WSG := lkT3 102 rfl rfl
set_option maxRecDepth 20000 in
theorem lk_703 : Cond.code yX2_areTogether cX2_areTogether 2 (some .boolean) ∈ WSG := lkT3 103 rfl rfl
set_option maxRecDepth 20000 in
theorem lk_708 : Cond.methodLink RX11 290 yX7_servedAsAsked ∈ WSG := lkT3 108 rfl rfl
set_option maxRecDepth 20000 in
theorem lk_709 : Cond.instanceMethod yX7_servedAsAsked ∈ WSG := lkT3 109 rfl rfl
set_option maxRecDepth 20000 in
theorem lk_710 : Cond.selects RX7 yX7_servedAsAsked yX7_servedAsAsked ∈ WSG := lkT3 110 rfl rfl
set_option maxRecDepth 20000 in
theorem lk_711 : Cond.code yX7_servedAsAsked cX7_servedAsAsked 2 (some .int) ∈ WSG := lkT3 111 rfl rfl
set_option maxRecDepth 20000 in
theorem lk_712 : Cond.methodLink RX7 30 yX7_sayAsItIs ∈ WSG := lkT3 112 rfl rfl
set_option maxRecDepth 20000 in
theorem lk_714 : Cond.instanceMethod yX7_sayAsItIs ∈ WSG := lkT3 114 rfl rfl
set_option maxRecDepth 20000 in
theorem lk_715 : Cond.code yX7_sayAsItIs cX7_sayAsItIs 1 none ∈ WSG := lkT3 115 rfl rfl
set_option maxRecDepth 20000 in
theorem lk_716 : Cond.methodLink RX7 42 arraycopyName ∈ WSG := lkT3 116 rfl rfl
set_option maxRecDepth 20000 in
theorem lk_717 : Cond.static arraycopyName ∈ WSG := lkT3 117 rfl rfl
set_option maxRecDepth 20000 in
theorem lk_718 : Cond.native arraycopyName ∈ WSG := lkT3 118 rfl rfl
set_option maxRecDepth 20000 in
theorem lk_719 : Cond.methodLink RX7 33 yX7_serve ∈ WSG := lkT3 119 rfl rfl
set_option maxRecDepth 20000 in
theorem lk_721 : Cond.instanceMethod yX7_serve ∈ WSG := lkT3 121 rfl rfl
set_option maxRecDepth 20000 in
theorem lk_722 : Cond.code yX7_serve cX7_serve 6 (some .int) ∈ WSG := lkT3 122 rfl rfl
set_option maxRecDepth 20000 in
theorem lk_723 : Cond.methodLink RX7 63 yX7_firstOf ∈ WSG := lkT3 123 rfl rfl
set_option maxRecDepth 20000 in
theorem lk_725 : Cond.instanceMethod yX7_firstOf ∈ WSG := lkT3 125 rfl rfl
set_option maxRecDepth 20000 in
theorem lk_726 : Cond.code yX7_firstOf cX7_firstOf 7 (some .int) ∈ WSG := lkT3 126 rfl rfl
set_option maxRecDepth 20000 in
theorem lk_727 : Cond.methodLink RX7 72 yX7_turnOf ∈ WSG := lkT3 127 rfl rfl
set_option maxRecDepth 20000 in
theorem lk_729 : Cond.instanceMethod yX7_turnOf ∈ WSG := lkT3 129 rfl rfl
set_option maxRecDepth 20000 in
theorem lk_730 : Cond.code yX7_turnOf cX7_turnOf 4 (some .int) ∈ WSG := lkT3 130 rfl rfl
set_option maxRecDepth 20000 in
theorem lk_731 : Cond.methodLink RX7 78 yX7_openOf ∈ WSG := lkT3 131 rfl rfl
set_option maxRecDepth 20000 in
theorem lk_733 : Cond.instanceMethod yX7_openOf ∈ WSG := lkT3 133 rfl rfl
set_option maxRecDepth 20000 in
theorem lk_734 : Cond.code yX7_openOf cX7_openOf 4 (some .int) ∈ WSG := lkT3 134 rfl rfl
set_option maxRecDepth 20000 in
theorem lk_735 : Cond.methodLink RX7 67 yX2_leastPlan ∈ WSG := lkT3 135 rfl rfl
set_option maxRecDepth 20000 in
theorem lk_736 : Cond.instanceMethod yX2_leastPlan ∈ WSG := lkT3 136 rfl rfl
set_option maxRecDepth 20000 in
theorem lk_737 : Cond.selects RX2 yX2_leastPlan yX2_leastPlan ∈ WSG := lkT3 137 rfl rfl
set_option maxRecDepth 20000 in
theorem lk_738 : Cond.code yX2_leastPlan cX2_leastPlan 2 (some .int) ∈ WSG := lkT3 138 rfl rfl
set_option maxRecDepth 20000 in
theorem lk_739 : Cond.methodLink RX7 81 yJ6_bitCount_0f7a4 ∈ WSG := lkT3 139 rfl rfl
set_option maxRecDepth 20000 in
theorem lk_740 : Cond.methodLink RX11 254 yX8_weightOf ∈ WSG := lkT3 140 rfl rfl
set_option maxRecDepth 20000 in
theorem lk_741 : Cond.instanceMethod yX8_weightOf ∈ WSG := lkT3 141 rfl rfl
set_option maxRecDepth 20000 in
theorem lk_742 : Cond.selects RX8 yX8_weightOf yX8_weightOf ∈ WSG := lkT3 142 rfl rfl
set_option maxRecDepth 20000 in
theorem lk_743 : Cond.code yX8_weightOf cX8_weightOf 4 (some .int) ∈ WSG := lkT3 143 rfl rfl
set_option maxRecDepth 20000 in
theorem lk_748 : Cond.methodLink RX11 351 yX11_makeNight ∈ WSG := lkT3 148 rfl rfl
set_option maxRecDepth 20000 in
theorem lk_750 : Cond.instanceMethod yX11_makeNight ∈ WSG := lkT3 150 rfl rfl
set_option maxRecDepth 20000 in
theorem lk_751 : Cond.code yX11_makeNight cX11_makeNight 3 (some .int) ∈ WSG := lkT3 151 rfl rfl
set_option maxRecDepth 20000 in
theorem lk_752 : Cond.methodLink RX11 190 yX3_grantedBy ∈ WSG := lkT3 152 rfl rfl
set_option maxRecDepth 20000 in
theorem lk_753 : Cond.methodLink RX11 354 yX0_remember ∈ WSG := lkT3 153 rfl rfl
set_option maxRecDepth 20000 in
theorem lk_754 : Cond.instanceMethod yX0_remember ∈ WSG := lkT3 154 rfl rfl
set_option maxRecDepth 20000 in
theorem lk_755 : Cond.selects RX0 yX0_remember yX0_remember ∈ WSG := lkT3 155 rfl rfl
set_option maxRecDepth 20000 in
theorem lk_756 : Cond.code yX0_remember cX0_remember 2 none ∈ WSG := lkT3 156 rfl rfl
set_option maxRecDepth 20000 in
theorem lk_757 : Cond.methodLink RX0 39 arraycopyName ∈ WSG := lkT3 157 rfl rfl
set_option maxRecDepth 20000 in
theorem lk_758 : Cond.methodLink RX11 357 yX0_pass ∈ WSG := lkT3 158 rfl rfl
set_option maxRecDepth 20000 in
theorem lk_759 : Cond.instanceMethod yX0_pass ∈ WSG := lkT3 159 rfl rfl
set_option maxRecDepth 20000 in
theorem lk_760 : Cond.selects RX0 yX0_pass yX0_pass ∈ WSG := lkT3 160 rfl rfl
set_option maxRecDepth 20000 in
theorem lk_761 : Cond.code yX0_pass cX0_pass 4 none ∈ WSG := lkT3 161 rfl rfl
set_option maxRecDepth 20000 in
theorem lk_766 : Cond.methodLink RX11 263 yJ6_bitCount_0f7a4 ∈ WSG := lkT3 166 rfl rfl
set_option maxRecDepth 20000 in
theorem lk_767 : Cond.methodLink RX11 445 yX0_allDues ∈ WSG := lkT3 167 rfl rfl
set_option maxRecDepth 20000 in
theorem lk_768 : Cond.instanceMethod yX0_allDues ∈ WSG := lkT3 168 rfl rfl
set_option maxRecDepth 20000 in
theorem lk_769 : Cond.selects RX0 yX0_allDues yX0_allDues ∈ WSG := lkT3 169 rfl rfl
set_option maxRecDepth 20000 in
theorem lk_770 : Cond.code yX0_allDues cX0_allDues 3 (some .int) ∈ WSG := lkT3 170 rfl rfl
set_option maxRecDepth 20000 in
theorem lk_779 : Cond.classLink RX11 116 "java/lang/IllegalArgumentException" ∈ WSG := lkT3 179 rfl rfl
set_option maxRecDepth 20000 in
theorem lk_847 : Cond.methodLink RX11 123 yX6_parse ∈ WSG := lkT4 7 rfl rfl
set_option maxRecDepth 20000 in
theorem lk_848 : Cond.instanceMethod yX6_parse ∈ WSG := lkT4 8 rfl rfl
set_option maxRecDepth 20000 in
theorem lk_849 : Cond.selects RX6 yX6_parse yX6_parse ∈ WSG := lkT4 9 rfl rfl
set_option maxRecDepth 20000 in
theorem lk_850 : Cond.code yX6_parse cX6_parse 4 (some .boolean) ∈ WSG := lkT4 10 rfl rfl
set_option maxRecDepth 20000 in
theorem lk_851 : Cond.methodLink RX6 32 yX8_clear ∈ WSG := lkT4 11 rfl rfl
set_option maxRecDepth 20000 in
theorem lk_852 : Cond.instanceMethod yX8_clear ∈ WSG := lkT4 12 rfl rfl
set_option maxRecDepth 20000 in
theorem lk_853 : Cond.selects RX8 yX8_clear yX8_clear ∈ WSG := lkT4 13 rfl rfl
set_option maxRecDepth 20000 in
theorem lk_854 : Cond.code yX8_clear cX8_clear 1 none ∈ WSG := lkT4 14 rfl rfl
set_option maxRecDepth 20000 in
theorem lk_855 : Cond.methodLink RX8 49 yX8_measure ∈ WSG := lkT4 15 rfl rfl
set_option maxRecDepth 20000 in
theorem lk_856 : Cond.instanceMethod yX8_measure ∈ WSG := lkT4 16 rfl rfl
set_option maxRecDepth 20000 in
theorem lk_857 : Cond.selects RX8 yX8_measure yX8_measure ∈ WSG := lkT4 17 rfl rfl
set_option maxRecDepth 20000 in
theorem lk_858 : Cond.code yX8_measure cX8_measure 3 none ∈ WSG := lkT4 18 rfl rfl
set_option maxRecDepth 20000 in
theorem lk_859 : Cond.methodLink RX6 43 yX9_begin ∈ WSG := lkT4 19 rfl rfl
set_option maxRecDepth 20000 in
theorem lk_860 : Cond.instanceMethod yX9_begin ∈ WSG := lkT4 20 rfl rfl
set_option maxRecDepth 20000 in
theorem lk_861 : Cond.selects RX9 yX9_begin yX9_begin ∈ WSG := lkT4 21 rfl rfl
set_option maxRecDepth 20000 in
theorem lk_862 : Cond.code yX9_begin cX9_begin 2 none ∈ WSG := lkT4 22 rfl rfl
set_option maxRecDepth 20000 in
theorem lk_863 : Cond.methodLink RX9 20 yX9_advance ∈ WSG := lkT4 23 rfl rfl
set_option maxRecDepth 20000 in
theorem lk_864 : Cond.instanceMethod yX9_advance ∈ WSG := lkT4 24 rfl rfl
set_option maxRecDepth 20000 in
theorem lk_865 : Cond.selects RX9 yX9_advance yX9_advance ∈ WSG := lkT4 25 rfl rfl
set_option maxRecDepth 20000 in
theorem lk_866 : Cond.code yX9_advance cX9_advance 1 none ∈ WSG := lkT4 26 rfl rfl
set_option maxRecDepth 20000 in
theorem lk_867 : Cond.methodLink RX9 29 yX9_runEnd ∈ WSG := lkT4 27 rfl rfl
set_option maxRecDepth 20000 in
theorem lk_869 : Cond.instanceMethod yX9_runEnd ∈ WSG := lkT4 29 rfl rfl
set_option maxRecDepth 20000 in
theorem lk_870 : Cond.code yX9_runEnd cX9_runEnd 4 (some .int) ∈ WSG := lkT4 30 rfl rfl
set_option maxRecDepth 20000 in
theorem lk_872 : Cond.methodLink RX9 35 yJ0_indexOf_0f7a4 ∈ WSG := lkT4 32 rfl rfl
set_option maxRecDepth 20000 in
theorem lk_873 : Cond.instanceMethod yJ0_indexOf_0f7a4 ∈ WSG := lkT4 33 rfl rfl
set_option maxRecDepth 20000 in
theorem lk_874 : Cond.selects "java/lang/String" yJ0_indexOf_0f7a4 yJ0_indexOf_0f7a4 ∈ WSG := lkT4 34 rfl rfl
set_option maxRecDepth 20000 in
theorem lk_875 : Cond.code yJ0_indexOf_0f7a4 cJ0_indexOf_0f7a4 2 (some .int) ∈ WSG := lkT4 35 rfl rfl
set_option maxRecDepth 20000 in
theorem lk_876 : Cond.methodLink RJ0 633 yJ0_indexOf_7cf53 ∈ WSG := lkT4 36 rfl rfl
set_option maxRecDepth 20000 in
theorem lk_877 : Cond.instanceMethod yJ0_indexOf_7cf53 ∈ WSG := lkT4 37 rfl rfl
set_option maxRecDepth 20000 in
theorem lk_878 : Cond.selects "java/lang/String" yJ0_indexOf_7cf53 yJ0_indexOf_7cf53 ∈ WSG := lkT4 38 rfl rfl
set_option maxRecDepth 20000 in
theorem lk_879 : Cond.code yJ0_indexOf_7cf53 cJ0_indexOf_7cf53 3 (some .int) ∈ WSG := lkT4 39 rfl rfl
set_option maxRecDepth 20000 in
theorem lk_880 : Cond.methodLink RJ0 492 yJ0_isLatin1_aae02 ∈ WSG := lkT4 40 rfl rfl
set_option maxRecDepth 20000 in
theorem lk_881 : Cond.instanceMethod yJ0_isLatin1_aae02 ∈ WSG := lkT4 41 rfl rfl
set_option maxRecDepth 20000 in
theorem lk_882 : Cond.selects "java/lang/String" yJ0_isLatin1_aae02 yJ0_isLatin1_aae02 ∈ WSG := lkT4 42 rfl rfl
set_option maxRecDepth 20000 in
theorem lk_883 : Cond.code yJ0_isLatin1_aae02 cJ0_isLatin1_aae02 1 (some .boolean) ∈ WSG := lkT4 43 rfl rfl
set_option maxRecDepth 20000 in
theorem lk_884 : Cond.fieldLink RJ0 38 "java/lang/String" "COMPACT_STRINGS" "Z" ∈ WSG := lkT4 44 rfl rfl
set_option maxRecDepth 20000 in
theorem lk_886 : Cond.methodLink RJ0 505 yJ0_length_8abf5 ∈ WSG := lkT4 46 rfl rfl
set_option maxRecDepth 20000 in
theorem lk_887 : Cond.instanceMethod yJ0_length_8abf5 ∈ WSG := lkT4 47 rfl rfl
set_option maxRecDepth 20000 in
theorem lk_888 : Cond.selects "java/lang/String" yJ0_length_8abf5 yJ0_length_8abf5 ∈ WSG := lkT4 48 rfl rfl
set_option maxRecDepth 20000 in
theorem lk_889 : Cond.code yJ0_length_8abf5 cJ0_length_8abf5 1 (some .int) ∈ WSG := lkT4 49 rfl rfl
set_option maxRecDepth 20000 in
theorem lk_890 : Cond.methodLink RJ0 335 yJ0_coder_7d493 ∈ WSG := lkT4 50 rfl rfl
set_option maxRecDepth 20000 in
theorem lk_891 : Cond.instanceMethod yJ0_coder_7d493 ∈ WSG := lkT4 51 rfl rfl
set_option maxRecDepth 20000 in
theorem lk_892 : Cond.selects "java/lang/String" yJ0_coder_7d493 yJ0_coder_7d493 ∈ WSG := lkT4 52 rfl rfl
set_option maxRecDepth 20000 in
theorem lk_893 : Cond.code yJ0_coder_7d493 cJ0_coder_7d493 1 (some .byte) ∈ WSG := lkT4 53 rfl rfl
set_option maxRecDepth 20000 in
theorem lk_894 : Cond.methodLink RJ0 637 yJ1_indexOf_4cfef ∈ WSG := lkT4 54 rfl rfl
set_option maxRecDepth 20000 in
theorem lk_895 : Cond.static yJ1_indexOf_4cfef ∈ WSG := lkT4 55 rfl rfl
set_option maxRecDepth 20000 in
theorem lk_896 : Cond.code yJ1_indexOf_4cfef cJ1_indexOf_4cfef 4 (some .int) ∈ WSG := lkT4 56 rfl rfl
set_option maxRecDepth 20000 in
theorem lk_897 : Cond.methodLink RJ1 88 yJ1_canEncode_9a6ad ∈ WSG := lkT4 57 rfl rfl
set_option maxRecDepth 20000 in
theorem lk_898 : Cond.static yJ1_canEncode_9a6ad ∈ WSG := lkT4 58 rfl rfl
set_option maxRecDepth 20000 in
theorem lk_899 : Cond.code yJ1_canEncode_9a6ad cJ1_canEncode_9a6ad 1 (some .boolean) ∈ WSG := lkT4 59 rfl rfl
set_option maxRecDepth 20000 in
theorem lk_900 : Cond.methodLink RJ1 92 Lib.Math.max.name ∈ WSG := lkT4 60 rfl rfl
set_option maxRecDepth 20000 in
theorem lk_901 : Cond.static Lib.Math.max.name ∈ WSG := lkT4 61 rfl rfl
set_option maxRecDepth 20000 in
theorem lk_902 : Cond.code Lib.Math.max.name Lib.Math.max.code 2 (some .int) ∈ WSG := lkT4 62 rfl rfl
set_option maxRecDepth 20000 in
theorem lk_903 : Cond.methodLink RJ1 38 Lib.Math.min.name ∈ WSG := lkT4 63 rfl rfl
set_option maxRecDepth 20000 in
theorem lk_904 : Cond.static Lib.Math.min.name ∈ WSG := lkT4 64 rfl rfl
set_option maxRecDepth 20000 in
theorem lk_905 : Cond.code Lib.Math.min.name Lib.Math.min.code 2 (some .int) ∈ WSG := lkT4 65 rfl rfl
set_option maxRecDepth 20000 in
theorem lk_906 : Cond.methodLink RJ1 95 yJ1_indexOfChar_4cfef ∈ WSG := lkT4 66 rfl rfl
set_option maxRecDepth 20000 in
theorem lk_907 : Cond.static yJ1_indexOfChar_4cfef ∈ WSG := lkT4 67 rfl rfl
set_option maxRecDepth 20000 in
theorem lk_908 : Cond.code yJ1_indexOfChar_4cfef cJ1_indexOfChar_4cfef 6 (some .int) ∈ WSG := lkT4 68 rfl rfl
set_option maxRecDepth 20000 in
theorem lk_927 : Cond.fieldLink RJ0 1053 "jdk/internal/util/Preconditions" "SIOOBE_FORMATTER" "Ljava/util/function/BiFunction;" ∈ WSG := lkT4 87 rfl rfl
set_option maxRecDepth 20000 in
theorem lk_958 : Cond.methodLink RX6 47 yX6_readSky ∈ WSG := lkT4 118 rfl rfl
set_option maxRecDepth 20000 in
theorem lk_960 : Cond.instanceMethod yX6_readSky ∈ WSG := lkT4 120 rfl rfl
set_option maxRecDepth 20000 in
theorem lk_961 : Cond.code yX6_readSky cX6_readSky 2 (some .boolean) ∈ WSG := lkT4 121 rfl rfl
set_option maxRecDepth 20000 in
theorem lk_963 : Cond.methodLink RX6 88 yX6_take ∈ WSG := lkT4 123 rfl rfl
set_option maxRecDepth 20000 in
theorem lk_965 : Cond.instanceMethod yX6_take ∈ WSG := lkT4 125 rfl rfl
set_option maxRecDepth 20000 in
theorem lk_966 : Cond.code yX6_take cX6_take 2 (some .boolean) ∈ WSG := lkT4 126 rfl rfl
set_option maxRecDepth 20000 in
theorem lk_967 : Cond.methodLink RX6 69 yX9_at ∈ WSG := lkT4 127 rfl rfl
set_option maxRecDepth 20000 in
theorem lk_968 : Cond.instanceMethod yX9_at ∈ WSG := lkT4 128 rfl rfl
set_option maxRecDepth 20000 in
theorem lk_969 : Cond.selects RX9 yX9_at yX9_at ∈ WSG := lkT4 129 rfl rfl
set_option maxRecDepth 20000 in
theorem lk_970 : Cond.code yX9_at cX9_at 3 (some .boolean) ∈ WSG := lkT4 130 rfl rfl
set_option maxRecDepth 20000 in
theorem lk_971 : Cond.methodLink RX9 41 yJ0_length_8abf5 ∈ WSG := lkT4 131 rfl rfl
set_option maxRecDepth 20000 in
theorem lk_972 : Cond.methodLink RX9 44 yJ0_charAt_5068e ∈ WSG := lkT4 132 rfl rfl
set_option maxRecDepth 20000 in
theorem lk_973 : Cond.instanceMethod yJ0_charAt_5068e ∈ WSG := lkT4 133 rfl rfl
set_option maxRecDepth 20000 in
theorem lk_974 : Cond.selects "java/lang/String" yJ0_charAt_5068e yJ0_charAt_5068e ∈ WSG := lkT4 134 rfl rfl
set_option maxRecDepth 20000 in
theorem lk_975 : Cond.code yJ0_charAt_5068e cJ0_charAt_5068e 2 (some .char) ∈ WSG := lkT4 135 rfl rfl
set_option maxRecDepth 20000 in
theorem lk_976 : Cond.methodLink RJ0 495 yJ1_charAt_3b067 ∈ WSG := lkT4 136 rfl rfl
set_option maxRecDepth 20000 in
theorem lk_977 : Cond.static yJ1_charAt_3b067 ∈ WSG := lkT4 137 rfl rfl
set_option maxRecDepth 20000 in
theorem lk_978 : Cond.code yJ1_charAt_3b067 cJ1_charAt_3b067 2 (some .char) ∈ WSG := lkT4 138 rfl rfl
set_option maxRecDepth 20000 in
theorem lk_979 : Cond.methodLink RJ1 9 yJ0_checkIndex_df160 ∈ WSG := lkT4 139 rfl rfl
set_option maxRecDepth 20000 in
theorem lk_980 : Cond.static yJ0_checkIndex_df160 ∈ WSG := lkT4 140 rfl rfl
set_option maxRecDepth 20000 in
theorem lk_981 : Cond.code yJ0_checkIndex_df160 cJ0_checkIndex_df160 2 none ∈ WSG := lkT4 141 rfl rfl
set_option maxRecDepth 20000 in
theorem lk_982 : Cond.methodLink RJ0 1059 yJ3_checkIndex_8e157 ∈ WSG := lkT4 142 rfl rfl
set_option maxRecDepth 20000 in
theorem lk_983 : Cond.static yJ3_checkIndex_8e157 ∈ WSG := lkT4 143 rfl rfl
set_option maxRecDepth 20000 in
theorem lk_984 : Cond.code yJ3_checkIndex_8e157 cJ3_checkIndex_8e157 3 (some .int) ∈ WSG := lkT4 144 rfl rfl
set_option maxRecDepth 20000 in
theorem lk_992 : Cond.methodLink RX6 73 yX6_refuse ∈ WSG := lkT4 152 rfl rfl
set_option maxRecDepth 20000 in
theorem lk_994 : Cond.instanceMethod yX6_refuse ∈ WSG := lkT4 154 rfl rfl
set_option maxRecDepth 20000 in
theorem lk_995 : Cond.code yX6_refuse cX6_refuse 2 (some .boolean) ∈ WSG := lkT4 155 rfl rfl
set_option maxRecDepth 20000 in
theorem lk_996 : Cond.methodLink RX6 77 yX9_advance ∈ WSG := lkT4 156 rfl rfl
set_option maxRecDepth 20000 in
theorem lk_997 : Cond.methodLink RX6 91 yX6_takeNumber ∈ WSG := lkT4 157 rfl rfl
set_option maxRecDepth 20000 in
theorem lk_999 : Cond.instanceMethod yX6_takeNumber ∈ WSG := lkT4 159 rfl rfl
set_option maxRecDepth 20000 in
theorem lk_1000 : Cond.code yX6_takeNumber cX6_takeNumber 3 (some .boolean) ∈ WSG := lkT4 160 rfl rfl
set_option maxRecDepth 20000 in
theorem lk_1001 : Cond.methodLink RX6 80 yX9_value ∈ WSG := lkT4 161 rfl rfl
set_option maxRecDepth 20000 in
theorem lk_1002 : Cond.instanceMethod yX9_value ∈ WSG := lkT4 162 rfl rfl
set_option maxRecDepth 20000 in
theorem lk_1003 : Cond.selects RX9 yX9_value yX9_value ∈ WSG := lkT4 163 rfl rfl
set_option maxRecDepth 20000 in
theorem lk_1004 : Cond.code yX9_value cX9_value 3 (some .int) ∈ WSG := lkT4 164 rfl rfl
set_option maxRecDepth 20000 in
theorem lk_1005 : Cond.methodLink RX6 98 Lib.Math.min.name ∈ WSG := lkT4 165 rfl rfl
set_option maxRecDepth 20000 in
theorem lk_1006 : Cond.methodLink RX6 63 yX8_measure ∈ WSG := lkT4 166 rfl rfl
set_option maxRecDepth 20000 in
theorem lk_1007 : Cond.methodLink RX6 107 yX6_endLine ∈ WSG := lkT4 167 rfl rfl
set_option maxRecDepth 20000 in
theorem lk_1009 : Cond.instanceMethod yX6_endLine ∈ WSG := lkT4 169 rfl rfl
set_option maxRecDepth 20000 in
theorem lk_1010 : Cond.code yX6_endLine cX6_endLine 1 (some .boolean) ∈ WSG := lkT4 170 rfl rfl
set_option maxRecDepth 20000 in
theorem lk_1012 : Cond.methodLink RX6 54 yX6_readLine ∈ WSG := lkT4 172 rfl rfl
set_option maxRecDepth 20000 in
theorem lk_1014 : Cond.instanceMethod yX6_readLine ∈ WSG := lkT4 174 rfl rfl
set_option maxRecDepth 20000 in
theorem lk_1015 : Cond.code yX6_readLine cX6_readLine 2 (some .boolean) ∈ WSG := lkT4 175 rfl rfl
set_option maxRecDepth 20000 in
theorem lk_1017 : Cond.methodLink RX6 117 yX6_readWish ∈ WSG := lkT4 177 rfl rfl
set_option maxRecDepth 20000 in
theorem lk_1019 : Cond.instanceMethod yX6_readWish ∈ WSG := lkT4 179 rfl rfl
set_option maxRecDepth 20000 in
theorem lk_1020 : Cond.code yX6_readWish cX6_readWish 2 (some .boolean) ∈ WSG := lkT4 180 rfl rfl
set_option maxRecDepth 20000 in
theorem lk_1027 : Cond.methodLink RX6 57 yX6_readOperand ∈ WSG := lkT4 187 rfl rfl
set_option maxRecDepth 20000 in
theorem lk_1029 : Cond.instanceMethod yX6_readOperand ∈ WSG := lkT4 189 rfl rfl
set_option maxRecDepth 20000 in
theorem lk_1030 : Cond.code yX6_readOperand cX6_readOperand 1 (some .boolean) ∈ WSG := lkT4 190 rfl rfl
set_option maxRecDepth 20000 in
theorem lk_1032 : Cond.methodLink RX6 170 yX6_open ∈ WSG := lkT4 192 rfl rfl
set_option maxRecDepth 20000 in
theorem lk_1034 : Cond.instanceMethod yX6_open ∈ WSG := lkT4 194 rfl rfl
set_option maxRecDepth 20000 in
theorem lk_1035 : Cond.code yX6_open cX6_open 3 (some .boolean) ∈ WSG := lkT4 195 rfl rfl
set_option maxRecDepth 20000 in
theorem lk_1036 : Cond.methodLink RX6 180 yX6_await ∈ WSG := lkT4 196 rfl rfl
set_option maxRecDepth 20000 in
theorem lk_1038 : Cond.instanceMethod yX6_await ∈ WSG := lkT4 198 rfl rfl
set_option maxRecDepth 20000 in
theorem lk_1039 : Cond.code yX6_await cX6_await 3 (some .boolean) ∈ WSG := lkT4 199 rfl rfl
set_option maxRecDepth 20000 in
theorem lk_1042 : Cond.methodLink RX6 177 yX6_readAtom ∈ WSG := lkT4 202 rfl rfl
set_option maxRecDepth 20000 in
theorem lk_1044 : Cond.instanceMethod yX6_readAtom ∈ WSG := lkT4 204 rfl rfl
set_option maxRecDepth 20000 in
theorem lk_1045 : Cond.code yX6_readAtom cX6_readAtom 4 (some .boolean) ∈ WSG := lkT4 205 rfl rfl
set_option maxRecDepth 20000 in
theorem lk_1046 : Cond.methodLink RX6 183 yX8_emit ∈ WSG := lkT4 206 rfl rfl
set_option maxRecDepth 20000 in
theorem lk_1047 : Cond.instanceMethod yX8_emit ∈ WSG := lkT4 207 rfl rfl
set_option maxRecDepth 20000 in
theorem lk_1048 : Cond.selects RX8 yX8_emit yX8_emit ∈ WSG := lkT4 208 rfl rfl
set_option maxRecDepth 20000 in
theorem lk_1049 : Cond.code yX8_emit cX8_emit 3 none ∈ WSG := lkT4 209 rfl rfl
set_option maxRecDepth 20000 in
theorem lk_1054 : Cond.methodLink RX6 198 yX8_cellsOnDay ∈ WSG := lkT4 214 rfl rfl
set_option maxRecDepth 20000 in
theorem lk_1055 : Cond.instanceMethod yX8_cellsOnDay ∈ WSG := lkT4 215 rfl rfl
set_option maxRecDepth 20000 in
theorem lk_1056 : Cond.selects RX8 yX8_cellsOnDay yX8_cellsOnDay ∈ WSG := lkT4 216 rfl rfl
set_option maxRecDepth 20000 in
theorem lk_1057 : Cond.code yX8_cellsOnDay cX8_cellsOnDay 4 (some .int) ∈ WSG := lkT4 217 rfl rfl
set_option maxRecDepth 20000 in
theorem lk_1058 : Cond.methodLink RX6 202 yX8_cellsOfParish ∈ WSG := lkT4 218 rfl rfl
set_option maxRecDepth 20000 in
theorem lk_1059 : Cond.instanceMethod yX8_cellsOfParish ∈ WSG := lkT4 219 rfl rfl
set_option maxRecDepth 20000 in
theorem lk_1060 : Cond.selects RX8 yX8_cellsOfParish yX8_cellsOfParish ∈ WSG := lkT4 220 rfl rfl
set_option maxRecDepth 20000 in
theorem lk_1061 : Cond.code yX8_cellsOfParish cX8_cellsOfParish 2 (some .int) ∈ WSG := lkT4 221 rfl rfl
set_option maxRecDepth 20000 in
theorem lk_1062 : Cond.methodLink RX6 60 yX6_readOperator ∈ WSG := lkT4 222 rfl rfl
set_option maxRecDepth 20000 in
theorem lk_1064 : Cond.instanceMethod yX6_readOperator ∈ WSG := lkT4 224 rfl rfl
set_option maxRecDepth 20000 in
theorem lk_1065 : Cond.code yX6_readOperator cX6_readOperator 2 (some .boolean) ∈ WSG := lkT4 225 rfl rfl
set_option maxRecDepth 20000 in
theorem lk_1066 : Cond.methodLink RX6 205 yX6_arithmeticSign ∈ WSG := lkT4 226 rfl rfl
set_option maxRecDepth 20000 in
theorem lk_1068 : Cond.instanceMethod yX6_arithmeticSign ∈ WSG := lkT4 228 rfl rfl
set_option maxRecDepth 20000 in
theorem lk_1069 : Cond.code yX6_arithmeticSign cX6_arithmeticSign 1 (some .int) ∈ WSG := lkT4 229 rfl rfl
set_option maxRecDepth 20000 in
theorem lk_1073 : Cond.methodLink RX6 208 yX6_join ∈ WSG := lkT4 233 rfl rfl
set_option maxRecDepth 20000 in
theorem lk_1075 : Cond.instanceMethod yX6_join ∈ WSG := lkT4 235 rfl rfl
set_option maxRecDepth 20000 in
theorem lk_1076 : Cond.code yX6_join cX6_join 3 (some .boolean) ∈ WSG := lkT4 236 rfl rfl
set_option maxRecDepth 20000 in
theorem lk_1077 : Cond.fieldLink RX6 240 "RainWishes$Parser" "TIGHT" "[I" ∈ WSG := lkT4 237 rfl rfl
set_option maxRecDepth 20000 in
theorem lk_1079 : Cond.methodLink RX6 243 yX6_settleDownTo ∈ WSG := lkT4 239 rfl rfl
set_option maxRecDepth 20000 in
theorem lk_1081 : Cond.instanceMethod yX6_settleDownTo ∈ WSG := lkT5 1 rfl rfl
set_option maxRecDepth 20000 in
theorem lk_1082 : Cond.code yX6_settleDownTo cX6_settleDownTo 2 none ∈ WSG := lkT5 2 rfl rfl
set_option maxRecDepth 20000 in
theorem lk_1084 : Cond.methodLink RX6 213 yX6_close ∈ WSG := lkT5 4 rfl rfl
set_option maxRecDepth 20000 in
theorem lk_1086 : Cond.instanceMethod yX6_close ∈ WSG := lkT5 6 rfl rfl
set_option maxRecDepth 20000 in
theorem lk_1087 : Cond.code yX6_close cX6_close 2 (some .boolean) ∈ WSG := lkT5 7 rfl rfl
set_option maxRecDepth 20000 in
theorem lk_1088 : Cond.methodLink RX6 216 yX6_comparingSign ∈ WSG := lkT5 8 rfl rfl
set_option maxRecDepth 20000 in
theorem lk_1090 : Cond.instanceMethod yX6_comparingSign ∈ WSG := lkT5 10 rfl rfl
set_option maxRecDepth 20000 in
theorem lk_1091 : Cond.code yX6_comparingSign cX6_comparingSign 1 (some .int) ∈ WSG := lkT5 11 rfl rfl
set_option maxRecDepth 20000 in
theorem lk_1098 : Cond.methodLink RX6 225 yX6_endWish ∈ WSG := lkT5 18 rfl rfl
set_option maxRecDepth 20000 in
theorem lk_1100 : Cond.instanceMethod yX6_endWish ∈ WSG := lkT5 20 rfl rfl
set_option maxRecDepth 20000 in
theorem lk_1101 : Cond.code yX6_endWish cX6_endWish 1 none ∈ WSG := lkT5 21 rfl rfl
set_option maxRecDepth 20000 in
theorem lk_1102 : Cond.methodLink RX11 130 yX8_copyFrom ∈ WSG := lkT5 22 rfl rfl
set_option maxRecDepth 20000 in
theorem lk_1103 : Cond.instanceMethod yX8_copyFrom ∈ WSG := lkT5 23 rfl rfl
set_option maxRecDepth 20000 in
theorem lk_1104 : Cond.selects RX8 yX8_copyFrom yX8_copyFrom ∈ WSG := lkT5 24 rfl rfl
set_option maxRecDepth 20000 in
theorem lk_1105 : Cond.code yX8_copyFrom cX8_copyFrom 2 none ∈ WSG := lkT5 25 rfl rfl
set_option maxRecDepth 20000 in
theorem lk_1106 : Cond.methodLink RX8 64 arraycopyName ∈ WSG := lkT5 26 rfl rfl
set_option maxRecDepth 20000 in
theorem lk_1107 : Cond.methodLink RX11 136 yX0_begin ∈ WSG := lkT5 27 rfl rfl
set_option maxRecDepth 20000 in
theorem lk_1108 : Cond.instanceMethod yX0_begin ∈ WSG := lkT5 28 rfl rfl
set_option maxRecDepth 20000 in
theorem lk_1109 : Cond.selects RX0 yX0_begin yX0_begin ∈ WSG := lkT5 29 rfl rfl
set_option maxRecDepth 20000 in
theorem lk_1110 : Cond.code yX0_begin cX0_begin 2 none ∈ WSG := lkT5 30 rfl rfl
set_option maxRecDepth 20000 in
theorem lk_1111 : Cond.methodLink RX0 27 yJ7_fill_53178 ∈ WSG := lkT5 31 rfl rfl
set_option maxRecDepth 20000 in
theorem lk_1112 : Cond.methodLink RX11 139 yX11_forgetWhatWasFound ∈ WSG := lkT5 32 rfl rfl
set_option maxRecDepth 20000 in
theorem lk_1114 : Cond.instanceMethod yX11_forgetWhatWasFound ∈ WSG := lkT5 34 rfl rfl
set_option maxRecDepth 20000 in
theorem lk_1115 : Cond.code yX11_forgetWhatWasFound cX11_forgetWhatWasFound 1 none ∈ WSG := lkT5 35 rfl rfl
set_option maxRecDepth 20000 in
theorem lk_1116 : Cond.methodLink RX11 145 yX3_forget ∈ WSG := lkT5 36 rfl rfl
set_option maxRecDepth 20000 in
theorem lk_1117 : Cond.instanceMethod yX3_forget ∈ WSG := lkT5 37 rfl rfl
set_option maxRecDepth 20000 in
theorem lk_1118 : Cond.selects RX3 yX3_forget yX3_forget ∈ WSG := lkT5 38 rfl rfl
set_option maxRecDepth 20000 in
theorem lk_1119 : Cond.code yX3_forget cX3_forget 1 none ∈ WSG := lkT5 39 rfl rfl
set_option maxRecDepth 20000 in
theorem lk_1120 : Cond.methodLink RX11 148 yX2_forget ∈ WSG := lkT5 40 rfl rfl
set_option maxRecDepth 20000 in
theorem lk_1121 : Cond.instanceMethod yX2_forget ∈ WSG := lkT5 41 rfl rfl
set_option maxRecDepth 20000 in
theorem lk_1122 : Cond.selects RX2 yX2_forget yX2_forget ∈ WSG := lkT5 42 rfl rfl
set_option maxRecDepth 20000 in
theorem lk_1123 : Cond.code yX2_forget cX2_forget 1 none ∈ WSG := lkT5 43 rfl rfl
set_option maxRecDepth 20000 in
theorem lk_1132 : Cond.methodLink RX11 152 yX11_checkWish ∈ WSG := lkT5 52 rfl rfl
set_option maxRecDepth 20000 in
theorem lk_1134 : Cond.instanceMethod yX11_checkWish ∈ WSG := lkT5 54 rfl rfl
set_option maxRecDepth 20000 in
theorem lk_1135 : Cond.code yX11_checkWish cX11_checkWish 2 none ∈ WSG := lkT5 55 rfl rfl
set_option maxRecDepth 20000 in
theorem lk_1136 : Cond.classLink RX11 201 "java/util/NoSuchElementException" ∈ WSG := lkT5 56 rfl rfl
set_option maxRecDepth 20000 in
theorem lk_1152 : Cond.methodLink RX11 171 yX3_weathersOf ∈ WSG := lkT5 72 rfl rfl
set_option maxRecDepth 20000 in
theorem lk_1153 : Cond.instanceMethod yX3_weathersOf ∈ WSG := lkT5 73 rfl rfl
set_option maxRecDepth 20000 in
theorem lk_1154 : Cond.selects RX3 yX3_weathersOf yX3_weathersOf ∈ WSG := lkT5 74 rfl rfl
set_option maxRecDepth 20000 in
theorem lk_1155 : Cond.code yX3_weathersOf cX3_weathersOf 4 (some .int) ∈ WSG := lkT5 75 rfl rfl
set_option maxRecDepth 20000 in
theorem lk_1164 : Cond.methodLink RX11 177 yX11_checkCells ∈ WSG := lkT5 84 rfl rfl
set_option maxRecDepth 20000 in
theorem lk_1166 : Cond.instanceMethod yX11_checkCells ∈ WSG := lkT5 86 rfl rfl
set_option maxRecDepth 20000 in
theorem lk_1167 : Cond.code yX11_checkCells cX11_checkCells 2 none ∈ WSG := lkT5 87 rfl rfl
set_option maxRecDepth 20000 in
theorem lk_1169 : Cond.methodLink RX11 180 yX8_weatherOf ∈ WSG := lkT5 89 rfl rfl
set_option maxRecDepth 20000 in
theorem lk_1177 : Cond.methodLink RX11 183 yX3_at ∈ WSG := lkT5 97 rfl rfl
set_option maxRecDepth 20000 in
theorem lk_1192 : Cond.methodLink RX11 231 yX11_checkSet ∈ WSG := lkT5 112 rfl rfl
set_option maxRecDepth 20000 in
theorem lk_1194 : Cond.instanceMethod yX11_checkSet ∈ WSG := lkT5 114 rfl rfl
set_option maxRecDepth 20000 in
theorem lk_1195 : Cond.code yX11_checkSet cX11_checkSet 2 none ∈ WSG := lkT5 115 rfl rfl
set_option maxRecDepth 20000 in
theorem lk_1197 : Cond.methodLink RX11 234 yX2_leastPlan ∈ WSG := lkT5 117 rfl rfl
set_option maxRecDepth 20000 in
theorem lk_1205 : Cond.methodLink RX11 237 yX2_smallestQuarrel ∈ WSG := lkT5 125 rfl rfl
set_option maxRecDepth 20000 in
theorem lk_1206 : Cond.instanceMethod yX2_smallestQuarrel ∈ WSG := lkT5 126 rfl rfl
set_option maxRecDepth 20000 in
theorem lk_1207 : Cond.selects RX2 yX2_smallestQuarrel yX2_smallestQuarrel ∈ WSG := lkT5 127 rfl rfl
set_option maxRecDepth 20000 in
theorem lk_1208 : Cond.code yX2_smallestQuarrel cX2_smallestQuarrel 4 (some .int) ∈ WSG := lkT5 128 rfl rfl
set_option maxRecDepth 20000 in
theorem lk_1216 : Cond.methodLink RX11 240 yX11_checkOpen ∈ WSG := lkT5 136 rfl rfl
set_option maxRecDepth 20000 in
theorem lk_1218 : Cond.instanceMethod yX11_checkOpen ∈ WSG := lkT5 138 rfl rfl
set_option maxRecDepth 20000 in
theorem lk_1219 : Cond.code yX11_checkOpen cX11_checkOpen 2 none ∈ WSG := lkT5 139 rfl rfl
set_option maxRecDepth 20000 in
theorem lk_1221 : Cond.methodLink RX11 243 yX2_foesOf ∈ WSG := lkT5 141 rfl rfl
set_option maxRecDepth 20000 in
theorem lk_1222 : Cond.instanceMethod yX2_foesOf ∈ WSG := lkT5 142 rfl rfl
set_option maxRecDepth 20000 in
theorem lk_1223 : Cond.selects RX2 yX2_foesOf yX2_foesOf ∈ WSG := lkT5 143 rfl rfl
set_option maxRecDepth 20000 in
theorem lk_1224 : Cond.code yX2_foesOf cX2_foesOf 4 (some .int) ∈ WSG := lkT5 144 rfl rfl
set_option maxRecDepth 20000 in
theorem lk_1232 : Cond.methodLink RX11 246 yX11_checkWhat ∈ WSG := lkT5 152 rfl rfl
set_option maxRecDepth 20000 in
theorem lk_1234 : Cond.instanceMethod yX11_checkWhat ∈ WSG := lkT5 154 rfl rfl
set_option maxRecDepth 20000 in
theorem lk_1235 : Cond.code yX11_checkWhat cX11_checkWhat 3 none ∈ WSG := lkT5 155 rfl rfl
set_option maxRecDepth 20000 in
theorem lk_1236 : Cond.methodLink RX11 250 yX2_mostPlan ∈ WSG := lkT5 156 rfl rfl
set_option maxRecDepth 20000 in
theorem lk_1237 : Cond.instanceMethod yX2_mostPlan ∈ WSG := lkT5 157 rfl rfl
set_option maxRecDepth 20000 in
theorem lk_1238 : Cond.selects RX2 yX2_mostPlan yX2_mostPlan ∈ WSG := lkT5 158 rfl rfl
set_option maxRecDepth 20000 in
theorem lk_1239 : Cond.code yX2_mostPlan cX2_mostPlan 5 (some .int) ∈ WSG := lkT5 159 rfl rfl
set_option maxRecDepth 20000 in
theorem lk_1240 : Cond.methodLink RX2 90 yX8_weightOf ∈ WSG := lkT5 160 rfl rfl
set_option maxRecDepth 20000 in
theorem lk_1248 : Cond.methodLink RX11 260 yX2_givenUpFor ∈ WSG := lkT5 168 rfl rfl
set_option maxRecDepth 20000 in
theorem lk_1249 : Cond.instanceMethod yX2_givenUpFor ∈ WSG := lkT5 169 rfl rfl
set_option maxRecDepth 20000 in
theorem lk_1250 : Cond.selects RX2 yX2_givenUpFor yX2_givenUpFor ∈ WSG := lkT5 170 rfl rfl
set_option maxRecDepth 20000 in
theorem lk_1251 : Cond.code yX2_givenUpFor cX2_givenUpFor 5 (some .int) ∈ WSG := lkT5 171 rfl rfl
set_option maxRecDepth 20000 in
theorem lk_1259 : Cond.methodLink RX11 268 yX2_followersOf ∈ WSG := lkT5 179 rfl rfl
set_option maxRecDepth 20000 in
theorem lk_1260 : Cond.instanceMethod yX2_followersOf ∈ WSG := lkT5 180 rfl rfl
set_option maxRecDepth 20000 in
theorem lk_1261 : Cond.selects RX2 yX2_followersOf yX2_followersOf ∈ WSG := lkT5 181 rfl rfl
set_option maxRecDepth 20000 in
theorem lk_1262 : Cond.code yX2_followersOf cX2_followersOf 5 (some .int) ∈ WSG := lkT5 182 rfl rfl
set_option maxRecDepth 20000 in
theorem lk_1270 : Cond.methodLink RX11 271 yX2_sureCells ∈ WSG := lkT5 190 rfl rfl
set_option maxRecDepth 20000 in
theorem lk_1271 : Cond.instanceMethod yX2_sureCells ∈ WSG := lkT5 191 rfl rfl
set_option maxRecDepth 20000 in
theorem lk_1272 : Cond.selects RX2 yX2_sureCells yX2_sureCells ∈ WSG := lkT5 192 rfl rfl
set_option maxRecDepth 20000 in
theorem lk_1273 : Cond.code yX2_sureCells cX2_sureCells 6 (some .int) ∈ WSG := lkT5 193 rfl rfl
set_option maxRecDepth 20000 in
theorem lk_1274 : Cond.methodLink RX2 99 yX8_weatherOf ∈ WSG := lkT5 194 rfl rfl
set_option maxRecDepth 20000 in
theorem lk_1275 : Cond.methodLink RX2 102 yX3_at ∈ WSG := lkT5 195 rfl rfl
set_option maxRecDepth 20000 in
theorem lk_1284 : Cond.methodLink RX11 277 yX11_checkHundredths ∈ WSG := lkT5 204 rfl rfl
set_option maxRecDepth 20000 in
theorem lk_1286 : Cond.instanceMethod yX11_checkHundredths ∈ WSG := lkT5 206 rfl rfl
set_option maxRecDepth 20000 in
theorem lk_1287 : Cond.code yX11_checkHundredths cX11_checkHundredths 2 none ∈ WSG := lkT5 207 rfl rfl
set_option maxRecDepth 20000 in
theorem lk_1289 : Cond.methodLink RX11 280 yX2_weightExpected ∈ WSG := lkT5 209 rfl rfl
set_option maxRecDepth 20000 in
theorem lk_1290 : Cond.instanceMethod yX2_weightExpected ∈ WSG := lkT5 210 rfl rfl
set_option maxRecDepth 20000 in
theorem lk_1291 : Cond.selects RX2 yX2_weightExpected yX2_weightExpected ∈ WSG := lkT5 211 rfl rfl
set_option maxRecDepth 20000 in
theorem lk_1292 : Cond.code yX2_weightExpected cX2_weightExpected 11 (some .long) ∈ WSG := lkT5 212 rfl rfl
set_option maxRecDepth 20000 in
theorem lk_1293 : Cond.methodLink RX2 105 yX2_power ∈ WSG := lkT5 213 rfl rfl
set_option maxRecDepth 20000 in
theorem lk_1294 : Cond.static yX2_power ∈ WSG := lkT5 214 rfl rfl
set_option maxRecDepth 20000 in
theorem lk_1295 : Cond.code yX2_power cX2_power 5 (some .long) ∈ WSG := lkT5 215 rfl rfl
set_option maxRecDepth 20000 in
theorem lk_1303 : Cond.methodLink RX11 284 yX2_bestByChance ∈ WSG := lkT5 223 rfl rfl
set_option maxRecDepth 20000 in
theorem lk_1304 : Cond.instanceMethod yX2_bestByChance ∈ WSG := lkT5 224 rfl rfl
set_option maxRecDepth 20000 in
theorem lk_1305 : Cond.selects RX2 yX2_bestByChance yX2_bestByChance ∈ WSG := lkT5 225 rfl rfl
set_option maxRecDepth 20000 in
theorem lk_1306 : Cond.code yX2_bestByChance cX2_bestByChance 9 (some .int) ∈ WSG := lkT5 226 rfl rfl
set_option maxRecDepth 20000 in
theorem lk_1307 : Cond.constantLong RX2 109 (-1 : Int64) ∈ WSG := lkT5 227 rfl rfl
set_option maxRecDepth 20000 in
theorem lk_1308 : Cond.methodLink RX2 111 yX2_weightExpected ∈ WSG := lkT5 228 rfl rfl
set_option maxRecDepth 20000 in
theorem lk_1316 : Cond.methodLink RX11 287 yX11_checkRule ∈ WSG := lkT5 236 rfl rfl
set_option maxRecDepth 20000 in
theorem lk_1318 : Cond.instanceMethod yX11_checkRule ∈ WSG := lkT5 238 rfl rfl
set_option maxRecDepth 20000 in
theorem lk_1319 : Cond.code yX11_checkRule cX11_checkRule 2 none ∈ WSG := lkT5 239 rfl rfl
set_option maxRecDepth 20000 in
theorem lk_1328 : Cond.methodLink RX11 293 yX11_checkPerson ∈ WSG := lkT6 8 rfl rfl
set_option maxRecDepth 20000 in
theorem lk_1330 : Cond.instanceMethod yX11_checkPerson ∈ WSG := lkT6 10 rfl rfl
set_option maxRecDepth 20000 in
theorem lk_1331 : Cond.code yX11_checkPerson cX11_checkPerson 2 none ∈ WSG := lkT6 11 rfl rfl
set_option maxRecDepth 20000 in
theorem lk_1333 : Cond.methodLink RX11 296 yX7_weightFor ∈ WSG := lkT6 13 rfl rfl
set_option maxRecDepth 20000 in
theorem lk_1334 : Cond.instanceMethod yX7_weightFor ∈ WSG := lkT6 14 rfl rfl
set_option maxRecDepth 20000 in
theorem lk_1335 : Cond.selects RX7 yX7_weightFor yX7_weightFor ∈ WSG := lkT6 15 rfl rfl
set_option maxRecDepth 20000 in
theorem lk_1336 : Cond.code yX7_weightFor cX7_weightFor 5 (some .int) ∈ WSG := lkT6 16 rfl rfl
set_option maxRecDepth 20000 in
theorem lk_1344 : Cond.methodLink RX11 299 yX7_findGain ∈ WSG := lkT6 24 rfl rfl
set_option maxRecDepth 20000 in
theorem lk_1345 : Cond.instanceMethod yX7_findGain ∈ WSG := lkT6 25 rfl rfl
set_option maxRecDepth 20000 in
theorem lk_1346 : Cond.selects RX7 yX7_findGain yX7_findGain ∈ WSG := lkT6 26 rfl rfl
set_option maxRecDepth 20000 in
theorem lk_1347 : Cond.code yX7_findGain cX7_findGain 7 none ∈ WSG := lkT6 27 rfl rfl
set_option maxRecDepth 20000 in
theorem lk_1348 : Cond.methodLink RX7 86 yX7_servedAsAsked ∈ WSG := lkT6 28 rfl rfl
set_option maxRecDepth 20000 in
theorem lk_1349 : Cond.methodLink RX7 89 yX7_weightFor ∈ WSG := lkT6 29 rfl rfl
set_option maxRecDepth 20000 in
theorem lk_1350 : Cond.methodLink RX7 98 yX7_sayOtherwise ∈ WSG := lkT6 30 rfl rfl
set_option maxRecDepth 20000 in
theorem lk_1352 : Cond.instanceMethod yX7_sayOtherwise ∈ WSG := lkT6 32 rfl rfl
set_option maxRecDepth 20000 in
theorem lk_1353 : Cond.code yX7_sayOtherwise cX7_sayOtherwise 3 (some .boolean) ∈ WSG := lkT6 33 rfl rfl
set_option maxRecDepth 20000 in
theorem lk_1362 : Cond.methodLink RX11 308 yX11_trayThere ∈ WSG := lkT6 42 rfl rfl
set_option maxRecDepth 20000 in
theorem lk_1364 : Cond.instanceMethod yX11_trayThere ∈ WSG := lkT6 44 rfl rfl
set_option maxRecDepth 20000 in
theorem lk_1365 : Cond.code yX11_trayThere cX11_trayThere 2 (some (.object "RainWishes$Tray")) ∈ WSG := lkT6 45 rfl rfl
set_option maxRecDepth 20000 in
theorem lk_1367 : Cond.classLink RX11 226 "java/lang/IllegalStateException" ∈ WSG := lkT6 47 rfl rfl
set_option maxRecDepth 20000 in
theorem lk_1384 : Cond.methodLink RX11 317 yX5_take ∈ WSG := lkT6 64 rfl rfl
set_option maxRecDepth 20000 in
theorem lk_1385 : Cond.instanceMethod yX5_take ∈ WSG := lkT6 65 rfl rfl
set_option maxRecDepth 20000 in
theorem lk_1386 : Cond.selects RX5 yX5_take yX5_take ∈ WSG := lkT6 66 rfl rfl
set_option maxRecDepth 20000 in
theorem lk_1387 : Cond.code yX5_take cX5_take 5 (some .boolean) ∈ WSG := lkT6 67 rfl rfl
set_option maxRecDepth 20000 in
theorem lk_1389 : Cond.methodLink RX11 323 yX5_find ∈ WSG := lkT6 69 rfl rfl
set_option maxRecDepth 20000 in
theorem lk_1390 : Cond.instanceMethod yX5_find ∈ WSG := lkT6 70 rfl rfl
set_option maxRecDepth 20000 in
theorem lk_1391 : Cond.selects RX5 yX5_find yX5_find ∈ WSG := lkT6 71 rfl rfl
set_option maxRecDepth 20000 in
theorem lk_1392 : Cond.code yX5_find cX5_find 2 none ∈ WSG := lkT6 72 rfl rfl
set_option maxRecDepth 20000 in
theorem lk_1393 : Cond.methodLink RX5 41 yX5_search ∈ WSG := lkT6 73 rfl rfl
set_option maxRecDepth 20000 in
theorem lk_1395 : Cond.instanceMethod yX5_search ∈ WSG := lkT6 75 rfl rfl
set_option maxRecDepth 20000 in
theorem lk_1396 : Cond.code yX5_search cX5_search 7 none ∈ WSG := lkT6 76 rfl rfl
set_option maxRecDepth 20000 in
theorem lk_1397 : Cond.methodLink RX5 45 yX5_fits ∈ WSG := lkT6 77 rfl rfl
set_option maxRecDepth 20000 in
theorem lk_1399 : Cond.instanceMethod yX5_fits ∈ WSG := lkT6 79 rfl rfl
set_option maxRecDepth 20000 in
theorem lk_1400 : Cond.code yX5_fits cX5_fits 6 (some .boolean) ∈ WSG := lkT6 80 rfl rfl
set_option maxRecDepth 20000 in
theorem lk_1401 : Cond.methodLink RX5 49 yX5_keep ∈ WSG := lkT6 81 rfl rfl
set_option maxRecDepth 20000 in
theorem lk_1403 : Cond.instanceMethod yX5_keep ∈ WSG := lkT6 83 rfl rfl
set_option maxRecDepth 20000 in
theorem lk_1404 : Cond.code yX5_keep cX5_keep 3 none ∈ WSG := lkT6 84 rfl rfl
set_option maxRecDepth 20000 in
theorem lk_1405 : Cond.methodLink RX11 332 yX5_numberAt ∈ WSG := lkT6 85 rfl rfl
set_option maxRecDepth 20000 in
theorem lk_1406 : Cond.instanceMethod yX5_numberAt ∈ WSG := lkT6 86 rfl rfl
set_option maxRecDepth 20000 in
theorem lk_1407 : Cond.selects RX5 yX5_numberAt yX5_numberAt ∈ WSG := lkT6 87 rfl rfl
set_option maxRecDepth 20000 in
theorem lk_1408 : Cond.code yX5_numberAt cX5_numberAt 4 (some .int) ∈ WSG := lkT6 88 rfl rfl
set_option maxRecDepth 20000 in
theorem lk_1416 : Cond.methodLink RX11 335 yX1_take ∈ WSG := lkT6 96 rfl rfl
set_option maxRecDepth 20000 in
theorem lk_1417 : Cond.instanceMethod yX1_take ∈ WSG := lkT6 97 rfl rfl
set_option maxRecDepth 20000 in
theorem lk_1418 : Cond.selects RX1 yX1_take yX1_take ∈ WSG := lkT6 98 rfl rfl
set_option maxRecDepth 20000 in
theorem lk_1419 : Cond.code yX1_take cX1_take 6 (some .boolean) ∈ WSG := lkT6 99 rfl rfl
set_option maxRecDepth 20000 in
theorem lk_1420 : Cond.methodLink RX1 56 yX1_takePart ∈ WSG := lkT6 100 rfl rfl
set_option maxRecDepth 20000 in
theorem lk_1422 : Cond.instanceMethod yX1_takePart ∈ WSG := lkT6 102 rfl rfl
set_option maxRecDepth 20000 in
theorem lk_1423 : Cond.code yX1_takePart cX1_takePart 6 none ∈ WSG := lkT6 103 rfl rfl
set_option maxRecDepth 20000 in
theorem lk_1424 : Cond.methodLink RX1 60 yX1_placeOfCell ∈ WSG := lkT6 104 rfl rfl
set_option maxRecDepth 20000 in
theorem lk_1426 : Cond.instanceMethod yX1_placeOfCell ∈ WSG := lkT6 106 rfl rfl
set_option maxRecDepth 20000 in
theorem lk_1427 : Cond.code yX1_placeOfCell cX1_placeOfCell 3 (some .int) ∈ WSG := lkT6 107 rfl rfl
set_option maxRecDepth 20000 in
theorem lk_1429 : Cond.methodLink RX11 338 yX1_bracket ∈ WSG := lkT6 109 rfl rfl
set_option maxRecDepth 20000 in
theorem lk_1430 : Cond.instanceMethod yX1_bracket ∈ WSG := lkT6 110 rfl rfl
set_option maxRecDepth 20000 in
theorem lk_1431 : Cond.selects RX1 yX1_bracket yX1_bracket ∈ WSG := lkT6 111 rfl rfl
set_option maxRecDepth 20000 in
theorem lk_1432 : Cond.code yX1_bracket cX1_bracket 5 none ∈ WSG := lkT6 112 rfl rfl
set_option maxRecDepth 20000 in
theorem lk_1433 : Cond.methodLink RX1 64 yX1_joinAt ∈ WSG := lkT6 113 rfl rfl
set_option maxRecDepth 20000 in
theorem lk_1435 : Cond.instanceMethod yX1_joinAt ∈ WSG := lkT6 115 rfl rfl
set_option maxRecDepth 20000 in
theorem lk_1436 : Cond.code yX1_joinAt cX1_joinAt 11 none ∈ WSG := lkT6 116 rfl rfl
set_option maxRecDepth 20000 in
theorem lk_1437 : Cond.methodLink RX11 341 yX1_all ∈ WSG := lkT6 117 rfl rfl
set_option maxRecDepth 20000 in
theorem lk_1438 : Cond.instanceMethod yX1_all ∈ WSG := lkT6 118 rfl rfl
set_option maxRecDepth 20000 in
theorem lk_1439 : Cond.selects RX1 yX1_all yX1_all ∈ WSG := lkT6 119 rfl rfl
set_option maxRecDepth 20000 in
theorem lk_1440 : Cond.code yX1_all cX1_all 1 (some .int) ∈ WSG := lkT6 120 rfl rfl
set_option maxRecDepth 20000 in
theorem lk_1441 : Cond.methodLink RX11 344 yX1_unlike ∈ WSG := lkT6 121 rfl rfl
set_option maxRecDepth 20000 in
theorem lk_1442 : Cond.instanceMethod yX1_unlike ∈ WSG := lkT6 122 rfl rfl
set_option maxRecDepth 20000 in
theorem lk_1443 : Cond.selects RX1 yX1_unlike yX1_unlike ∈ WSG := lkT6 123 rfl rfl
set_option maxRecDepth 20000 in
theorem lk_1444 : Cond.code yX1_unlike cX1_unlike 3 (some .int) ∈ WSG := lkT6 124 rfl rfl
set_option maxRecDepth 20000 in
theorem lk_1445 : Cond.methodLink RX1 68 yX1_all ∈ WSG := lkT6 125 rfl rfl
set_option maxRecDepth 20000 in
theorem lk_1446 : Cond.methodLink RX1 72 yX1_isNew ∈ WSG := lkT6 126 rfl rfl
set_option maxRecDepth 20000 in
theorem lk_1448 : Cond.instanceMethod yX1_isNew ∈ WSG := lkT6 128 rfl rfl
set_option maxRecDepth 20000 in
theorem lk_1449 : Cond.code yX1_isNew cX1_isNew 4 (some .boolean) ∈ WSG := lkT6 129 rfl rfl
set_option maxRecDepth 20000 in
theorem lk_1450 : Cond.methodLink RX11 347 yX1_heldIn ∈ WSG := lkT6 130 rfl rfl
set_option maxRecDepth 20000 in
theorem lk_1451 : Cond.instanceMethod yX1_heldIn ∈ WSG := lkT6 131 rfl rfl
set_option maxRecDepth 20000 in
theorem lk_1452 : Cond.selects RX1 yX1_heldIn yX1_heldIn ∈ WSG := lkT6 132 rfl rfl
set_option maxRecDepth 20000 in
theorem lk_1453 : Cond.code yX1_heldIn cX1_heldIn 5 (some .int) ∈ WSG := lkT6 133 rfl rfl
set_option maxRecDepth 20000 in
theorem lk_1454 : Cond.methodLink RX1 76 yX1_sortPlans ∈ WSG := lkT6 134 rfl rfl
set_option maxRecDepth 20000 in
theorem lk_1456 : Cond.instanceMethod yX1_sortPlans ∈ WSG := lkT6 136 rfl rfl
set_option maxRecDepth 20000 in
theorem lk_1457 : Cond.code yX1_sortPlans cX1_sortPlans 5 none ∈ WSG := lkT6 137 rfl rfl
set_option maxRecDepth 20000 in
theorem lk_1458 : Cond.methodLink RX1 91 yJ7_fill_53178 ∈ WSG := lkT6 138 rfl rfl
set_option maxRecDepth 20000 in
theorem lk_1459 : Cond.methodLink RX1 105 yX8_weatherOf ∈ WSG := lkT6 139 rfl rfl
set_option maxRecDepth 20000 in
theorem lk_1460 : Cond.methodLink RX1 79 yX1_plansOf ∈ WSG := lkT6 140 rfl rfl
set_option maxRecDepth 20000 in
theorem lk_1462 : Cond.instanceMethod yX1_plansOf ∈ WSG := lkT6 142 rfl rfl
set_option maxRecDepth 20000 in
theorem lk_1463 : Cond.code yX1_plansOf cX1_plansOf 5 (some .int) ∈ WSG := lkT6 143 rfl rfl
set_option maxRecDepth 20000 in
theorem lk_1464 : Cond.methodLink RX1 82 Lib.Math.max.name ∈ WSG := lkT6 144 rfl rfl
set_option maxRecDepth 20000 in
theorem lk_1465 : Cond.methodLink RX1 88 Lib.Math.min.name ∈ WSG := lkT6 145 rfl rfl
set_option maxRecDepth 20000 in
theorem lk_1504 : Cond.methodLink RX11 373 yX0_takeBack ∈ WSG := lkT6 184 rfl rfl
set_option maxRecDepth 20000 in
theorem lk_1505 : Cond.instanceMethod yX0_takeBack ∈ WSG := lkT6 185 rfl rfl
set_option maxRecDepth 20000 in
theorem lk_1506 : Cond.selects RX0 yX0_takeBack yX0_takeBack ∈ WSG := lkT6 186 rfl rfl
set_option maxRecDepth 20000 in
theorem lk_1507 : Cond.code yX0_takeBack cX0_takeBack 3 none ∈ WSG := lkT6 187 rfl rfl
set_option maxRecDepth 20000 in
theorem lk_1530 : Cond.methodLink RX11 383 yX11_drawn ∈ WSG := lkT6 210 rfl rfl
set_option maxRecDepth 20000 in
theorem lk_1531 : Cond.static yX11_drawn ∈ WSG := lkT6 211 rfl rfl
set_option maxRecDepth 20000 in
theorem lk_1532 : Cond.code yX11_drawn cX11_drawn 1 (some .int) ∈ WSG := lkT6 212 rfl rfl
set_option maxRecDepth 20000 in
theorem lk_1533 : Cond.constant RX11 389 (1103515245 : Int32) ∈ WSG := lkT6 213 rfl rfl
set_option maxRecDepth 20000 in
theorem lk_1541 : Cond.methodLink RX11 390 yX11_takeReserve ∈ WSG := lkT6 221 rfl rfl
set_option maxRecDepth 20000 in
theorem lk_1543 : Cond.instanceMethod yX11_takeReserve ∈ WSG := lkT6 223 rfl rfl
set_option maxRecDepth 20000 in
theorem lk_1544 : Cond.code yX11_takeReserve cX11_takeReserve 5 none ∈ WSG := lkT6 224 rfl rfl
set_option maxRecDepth 20000 in
theorem lk_1546 : Cond.methodLink RX11 402 yX4_take ∈ WSG := lkT6 226 rfl rfl
set_option maxRecDepth 20000 in
theorem lk_1547 : Cond.instanceMethod yX4_take ∈ WSG := lkT6 227 rfl rfl
set_option maxRecDepth 20000 in
theorem lk_1548 : Cond.selects RX4 yX4_take yX4_take ∈ WSG := lkT6 228 rfl rfl
set_option maxRecDepth 20000 in
theorem lk_1549 : Cond.code yX4_take cX4_take 3 (some .boolean) ∈ WSG := lkT6 229 rfl rfl
set_option maxRecDepth 20000 in
theorem lk_1550 : Cond.constantLong RX4 34 (99 : Int64) ∈ WSG := lkT6 230 rfl rfl
set_option maxRecDepth 20000 in
theorem lk_1552 : Cond.methodLink RX11 405 yX4_reckon ∈ WSG := lkT6 232 rfl rfl
set_option maxRecDepth 20000 in
theorem lk_1553 : Cond.instanceMethod yX4_reckon ∈ WSG := lkT6 233 rfl rfl
set_option maxRecDepth 20000 in
theorem lk_1554 : Cond.selects RX4 yX4_reckon yX4_reckon ∈ WSG := lkT6 234 rfl rfl
set_option maxRecDepth 20000 in
theorem lk_1555 : Cond.code yX4_reckon cX4_reckon 7 none ∈ WSG := lkT6 235 rfl rfl
set_option maxRecDepth 20000 in
theorem lk_1556 : Cond.methodLink RX4 36 yX4_byGranting ∈ WSG := lkT6 236 rfl rfl
set_option maxRecDepth 20000 in
theorem lk_1558 : Cond.instanceMethod yX4_byGranting ∈ WSG := lkT6 238 rfl rfl
set_option maxRecDepth 20000 in
theorem lk_1559 : Cond.code yX4_byGranting cX4_byGranting 4 (some .long) ∈ WSG := lkT6 239 rfl rfl
set_option maxRecDepth 20000 in
theorem lk_1560 : Cond.methodLink RX4 40 Lib.MathLoose.max_long.x ∈ WSG := lkT7 0 rfl rfl
set_option maxRecDepth 20000 in
theorem lk_1561 : Cond.static Lib.MathLoose.max_long.x ∈ WSG := lkT7 1 rfl rfl
set_option maxRecDepth 20000 in
theorem lk_1562 : Cond.code Lib.MathLoose.max_long.x Lib.MathLoose.max_long.code 4 (some .long) ∈ WSG := lkT7 2 rfl rfl
set_option maxRecDepth 20000 in
theorem lk_1563 : Cond.methodLink RX11 394 yX4_worthOf ∈ WSG := lkT7 3 rfl rfl
set_option maxRecDepth 20000 in
theorem lk_1564 : Cond.instanceMethod yX4_worthOf ∈ WSG := lkT7 4 rfl rfl
set_option maxRecDepth 20000 in
theorem lk_1565 : Cond.selects RX4 yX4_worthOf yX4_worthOf ∈ WSG := lkT7 5 rfl rfl
set_option maxRecDepth 20000 in
theorem lk_1566 : Cond.code yX4_worthOf cX4_worthOf 3 (some .long) ∈ WSG := lkT7 6 rfl rfl
set_option maxRecDepth 20000 in
theorem lk_1574 : Cond.methodLink RX11 397 yX4_leastNow ∈ WSG := lkT7 14 rfl rfl
set_option maxRecDepth 20000 in
theorem lk_1575 : Cond.instanceMethod yX4_leastNow ∈ WSG := lkT7 15 rfl rfl
set_option maxRecDepth 20000 in
theorem lk_1576 : Cond.selects RX4 yX4_leastNow yX4_leastNow ∈ WSG := lkT7 16 rfl rfl
set_option maxRecDepth 20000 in
theorem lk_1577 : Cond.code yX4_leastNow cX4_leastNow 6 (some .int) ∈ WSG := lkT7 17 rfl rfl
set_option maxRecDepth 20000 in
theorem lk_1586 : Cond.methodLink RX11 410 yX10_lay ∈ WSG := lkT7 26 rfl rfl
set_option maxRecDepth 20000 in
theorem lk_1587 : Cond.instanceMethod yX10_lay ∈ WSG := lkT7 27 rfl rfl
set_option maxRecDepth 20000 in
theorem lk_1588 : Cond.selects RX10 yX10_lay yX10_lay ∈ WSG := lkT7 28 rfl rfl
set_option maxRecDepth 20000 in
theorem lk_1589 : Cond.code yX10_lay cX10_lay 3 none ∈ WSG := lkT7 29 rfl rfl
set_option maxRecDepth 20000 in
theorem lk_1590 : Cond.methodLink RX10 22 yJ7_fill_d0a16 ∈ WSG := lkT7 30 rfl rfl
set_option maxRecDepth 20000 in
theorem lk_1591 : Cond.static yJ7_fill_d0a16 ∈ WSG := lkT7 31 rfl rfl
set_option maxRecDepth 20000 in
theorem lk_1592 : Cond.code yJ7_fill_d0a16 cJ7_fill_d0a16 5 none ∈ WSG := lkT7 32 rfl rfl
set_option maxRecDepth 20000 in
theorem lk_1601 : Cond.classLink RX11 412 "java/lang/IndexOutOfBoundsException" ∈ WSG := lkT7 41 rfl rfl
set_option maxRecDepth 20000 in
theorem lk_1617 : Cond.methodLink RX11 417 yX10_put ∈ WSG := lkT7 57 rfl rfl
set_option maxRecDepth 20000 in
theorem lk_1618 : Cond.instanceMethod yX10_put ∈ WSG := lkT7 58 rfl rfl
set_option maxRecDepth 20000 in
theorem lk_1619 : Cond.selects RX10 yX10_put yX10_put ∈ WSG := lkT7 59 rfl rfl
set_option maxRecDepth 20000 in
theorem lk_1620 : Cond.code yX10_put cX10_put 6 (some .long) ∈ WSG := lkT7 60 rfl rfl
set_option maxRecDepth 20000 in
theorem lk_1628 : Cond.methodLink RX11 421 Lib.Math.min.name ∈ WSG := lkT7 68 rfl rfl
set_option maxRecDepth 20000 in
theorem lk_1636 : Cond.methodLink RX11 429 yX11_checkImage ∈ WSG := lkT7 76 rfl rfl
set_option maxRecDepth 20000 in
theorem lk_1638 : Cond.instanceMethod yX11_checkImage ∈ WSG := lkT7 78 rfl rfl
set_option maxRecDepth 20000 in
theorem lk_1639 : Cond.code yX11_checkImage cX11_checkImage 2 none ∈ WSG := lkT7 79 rfl rfl
set_option maxRecDepth 20000 in
theorem lk_1641 : Cond.methodLink RX11 432 yX0_copyFrom ∈ WSG := lkT7 81 rfl rfl
set_option maxRecDepth 20000 in
theorem lk_1642 : Cond.instanceMethod yX0_copyFrom ∈ WSG := lkT7 82 rfl rfl
set_option maxRecDepth 20000 in
theorem lk_1643 : Cond.selects RX0 yX0_copyFrom yX0_copyFrom ∈ WSG := lkT7 83 rfl rfl
set_option maxRecDepth 20000 in
theorem lk_1644 : Cond.code yX0_copyFrom cX0_copyFrom 3 none ∈ WSG := lkT7 84 rfl rfl
set_option maxRecDepth 20000 in
theorem lk_1660 : Cond.methodLink RX12 89 yX12_laysTruths ∈ WSG := lkT7 100 rfl rfl
set_option maxRecDepth 20000 in
theorem lk_1662 : Cond.instanceMethod yX12_laysTruths ∈ WSG := lkT7 102 rfl rfl
set_option maxRecDepth 20000 in
theorem lk_1663 : Cond.code yX12_laysTruths cX12_laysTruths 3 none ∈ WSG := lkT7 103 rfl rfl
set_option maxRecDepth 20000 in
theorem lk_1664 : Cond.methodLink RX12 252 yX12_everywhere ∈ WSG := lkT7 104 rfl rfl
set_option maxRecDepth 20000 in
theorem lk_1666 : Cond.instanceMethod yX12_everywhere ∈ WSG := lkT7 106 rfl rfl
set_option maxRecDepth 20000 in
theorem lk_1667 : Cond.code yX12_everywhere cX12_everywhere 1 (some .int) ∈ WSG := lkT7 107 rfl rfl
set_option maxRecDepth 20000 in
theorem lk_1668 : Cond.methodLink RX12 249 yX12_cells ∈ WSG := lkT7 108 rfl rfl
set_option maxRecDepth 20000 in
theorem lk_1670 : Cond.instanceMethod yX12_cells ∈ WSG := lkT7 110 rfl rfl
set_option maxRecDepth 20000 in
theorem lk_1671 : Cond.code yX12_cells cX12_cells 1 (some .int) ∈ WSG := lkT7 111 rfl rfl
set_option maxRecDepth 20000 in
theorem lk_1672 : Cond.methodLink RX12 283 yX12_blown ∈ WSG := lkT7 112 rfl rfl
set_option maxRecDepth 20000 in
theorem lk_1674 : Cond.instanceMethod yX12_blown ∈ WSG := lkT7 114 rfl rfl
set_option maxRecDepth 20000 in
theorem lk_1675 : Cond.code yX12_blown cX12_blown 7 (some .int) ∈ WSG := lkT7 115 rfl rfl
set_option maxRecDepth 20000 in
theorem lk_1676 : Cond.methodLink RX12 279 yX12_has ∈ WSG := lkT7 116 rfl rfl
set_option maxRecDepth 20000 in
theorem lk_1677 : Cond.static yX12_has ∈ WSG := lkT7 117 rfl rfl
set_option maxRecDepth 20000 in
theorem lk_1678 : Cond.code yX12_has cX12_has 2 (some .boolean) ∈ WSG := lkT7 118 rfl rfl
set_option maxRecDepth 20000 in
theorem lk_1679 : Cond.methodLink RX12 286 yX12_worksOut ∈ WSG := lkT7 119 rfl rfl
set_option maxRecDepth 20000 in
theorem lk_1681 : Cond.instanceMethod yX12_worksOut ∈ WSG := lkT7 121 rfl rfl
set_option maxRecDepth 20000 in
theorem lk_1682 : Cond.code yX12_worksOut cX12_worksOut 6 (some .boolean) ∈ WSG := lkT7 122 rfl rfl
set_option maxRecDepth 20000 in
theorem lk_1683 : Cond.methodLink RX12 272 yX12_plain ∈ WSG := lkT7 123 rfl rfl
set_option maxRecDepth 20000 in
theorem lk_1685 : Cond.instanceMethod yX12_plain ∈ WSG := lkT7 125 rfl rfl
set_option maxRecDepth 20000 in
theorem lk_1686 : Cond.code yX12_plain cX12_plain 6 (some .int) ∈ WSG := lkT7 126 rfl rfl
set_option maxRecDepth 20000 in
theorem lk_1687 : Cond.methodLink RX12 269 yX12_size ∈ WSG := lkT7 127 rfl rfl
set_option maxRecDepth 20000 in
theorem lk_1688 : Cond.static yX12_size ∈ WSG := lkT7 128 rfl rfl
set_option maxRecDepth 20000 in
theorem lk_1689 : Cond.code yX12_size cX12_size 3 (some .int) ∈ WSG := lkT7 129 rfl rfl
set_option maxRecDepth 20000 in
theorem lk_1690 : Cond.methodLink RX12 275 yX12_done ∈ WSG := lkT7 130 rfl rfl
set_option maxRecDepth 20000 in
theorem lk_1691 : Cond.static yX12_done ∈ WSG := lkT7 131 rfl rfl
set_option maxRecDepth 20000 in
theorem lk_1692 : Cond.code yX12_done cX12_done 5 (some .int) ∈ WSG := lkT7 132 rfl rfl
set_option maxRecDepth 20000 in
theorem lk_1693 : Cond.methodLink RX12 265 yX12_bound ∈ WSG := lkT7 133 rfl rfl
set_option maxRecDepth 20000 in
theorem lk_1694 : Cond.static yX12_bound ∈ WSG := lkT7 134 rfl rfl
set_option maxRecDepth 20000 in
theorem lk_1695 : Cond.code yX12_bound cX12_bound 2 (some .int) ∈ WSG := lkT7 135 rfl rfl
set_option maxRecDepth 20000 in
theorem lk_1696 : Cond.constantLong RX12 255 (-1000000 : Int64) ∈ WSG := lkT7 136 rfl rfl
set_option maxRecDepth 20000 in
theorem lk_1697 : Cond.constantLong RX12 257 (1000000 : Int64) ∈ WSG := lkT7 137 rfl rfl
set_option maxRecDepth 20000 in
theorem lk_1698 : Cond.methodLink RX12 259 Lib.MathLoose.min_long.x ∈ WSG := lkT7 138 rfl rfl
set_option maxRecDepth 20000 in
theorem lk_1699 : Cond.static Lib.MathLoose.min_long.x ∈ WSG := lkT7 139 rfl rfl
set_option maxRecDepth 20000 in
theorem lk_1700 : Cond.code Lib.MathLoose.min_long.x Lib.MathLoose.min_long.code 4 (some .long) ∈ WSG := lkT7 140 rfl rfl
set_option maxRecDepth 20000 in
theorem lk_1701 : Cond.methodLink RX12 262 Lib.MathLoose.max_long.x ∈ WSG := lkT7 141 rfl rfl
set_option maxRecDepth 20000 in
theorem lk_1702 : Cond.fieldLink RX12 9 "RainWishesModel" "known" "[I" ∈ WSG := lkT7 142 rfl rfl
set_option maxRecDepth 20000 in
theorem lk_1703 : Cond.fieldLink RX12 13 "RainWishesModel" "fresh" "[I" ∈ WSG := lkT7 143 rfl rfl
set_option maxRecDepth 20000 in
theorem lk_1704 : Cond.fieldLink RX12 16 "RainWishesModel" "images" "[I" ∈ WSG := lkT7 144 rfl rfl
set_option maxRecDepth 20000 in
theorem lk_1705 : Cond.fieldLink RX12 19 "RainWishesModel" "kept" "[I" ∈ WSG := lkT7 145 rfl rfl
set_option maxRecDepth 20000 in
theorem lk_1706 : Cond.fieldLink RX12 22 "RainWishesModel" "isImage" "[Z" ∈ WSG := lkT7 146 rfl rfl
set_option maxRecDepth 20000 in
theorem lk_1707 : Cond.fieldLink RX12 92 "RainWishesModel" "thrown" "I" ∈ WSG := lkT7 147 rfl rfl
set_option maxRecDepth 20000 in
theorem lk_1708 : Cond.fieldLink RX12 26 "RainWishesModel" "tape" "[I" ∈ WSG := lkT7 148 rfl rfl
set_option maxRecDepth 20000 in
theorem lk_1709 : Cond.fieldLink RX12 95 "RainWishesModel" "taped" "I" ∈ WSG := lkT7 149 rfl rfl
set_option maxRecDepth 20000 in
theorem lk_1710 : Cond.fieldLink RX12 98 "RainWishesModel" "length" "I" ∈ WSG := lkT7 150 rfl rfl
set_option maxRecDepth 20000 in
theorem lk_1711 : Cond.fieldLink RX12 101 "RainWishesModel" "at" "I" ∈ WSG := lkT7 151 rfl rfl
set_option maxRecDepth 20000 in
theorem lk_1712 : Cond.fieldLink RX12 104 "RainWishesModel" "begin" "I" ∈ WSG := lkT7 152 rfl rfl
set_option maxRecDepth 20000 in
theorem lk_1713 : Cond.fieldLink RX12 107 "RainWishesModel" "token" "I" ∈ WSG := lkT7 153 rfl rfl
set_option maxRecDepth 20000 in
theorem lk_1714 : Cond.fieldLink RX12 121 "RainWishesModel" "value" "I" ∈ WSG := lkT7 154 rfl rfl
set_option maxRecDepth 20000 in
theorem lk_1715 : Cond.fieldLink RX12 127 "RainWishesModel" "bad" "I" ∈ WSG := lkT7 155 rfl rfl
set_option maxRecDepth 20000 in
theorem lk_1716 : Cond.fieldLink RX12 130 "RainWishesModel" "badPlace" "I" ∈ WSG := lkT7 156 rfl rfl
set_option maxRecDepth 20000 in
theorem lk_1717 : Cond.fieldLink RX12 246 "RainWishesModel" "faultKind" "I" ∈ WSG := lkT7 157 rfl rfl
set_option maxRecDepth 20000 in
theorem lk_1718 : Cond.fieldLink RX12 29 "RainWishesModel" "faultPlace" "I" ∈ WSG := lkT7 158 rfl rfl
set_option maxRecDepth 20000 in
theorem lk_1719 : Cond.fieldLink RX12 160 "RainWishesModel" "deep" "I" ∈ WSG := lkT7 159 rfl rfl
set_option maxRecDepth 20000 in
theorem lk_1720 : Cond.fieldLink RX12 34 "RainWishesModel" "truth" "[Z" ∈ WSG := lkT7 160 rfl rfl
set_option maxRecDepth 20000 in
theorem lk_1721 : Cond.fieldLink RX12 37 "RainWishesModel" "weatherBy" "[I" ∈ WSG := lkT7 161 rfl rfl
set_option maxRecDepth 20000 in
theorem lk_1722 : Cond.fieldLink RX12 40 "RainWishesModel" "stack" "[I" ∈ WSG := lkT7 162 rfl rfl
set_option maxRecDepth 20000 in
theorem lk_1723 : Cond.fieldLink RX12 43 "RainWishesModel" "grantedBy" "[I" ∈ WSG := lkT7 163 rfl rfl
set_option maxRecDepth 20000 in
theorem lk_1724 : Cond.fieldLink RX12 46 "RainWishesModel" "go" "[Z" ∈ WSG := lkT7 164 rfl rfl
set_option maxRecDepth 20000 in
theorem lk_1725 : Cond.fieldLink RX12 49 "RainWishesModel" "nightsBy" "[I" ∈ WSG := lkT7 165 rfl rfl
set_option maxRecDepth 20000 in
theorem lk_1726 : Cond.fieldLink RX12 52 "RainWishesModel" "keys" "[I" ∈ WSG := lkT7 166 rfl rfl
set_option maxRecDepth 20000 in
theorem lk_1727 : Cond.fieldLink RX12 55 "RainWishesModel" "askedAge" "[I" ∈ WSG := lkT7 167 rfl rfl
set_option maxRecDepth 20000 in
theorem lk_1728 : Cond.fieldLink RX12 58 "RainWishesModel" "askedWeight" "[I" ∈ WSG := lkT7 168 rfl rfl
set_option maxRecDepth 20000 in
theorem lk_1729 : Cond.fieldLink RX12 61 "RainWishesModel" "wanted" "[I" ∈ WSG := lkT7 169 rfl rfl
set_option maxRecDepth 20000 in
theorem lk_1730 : Cond.fieldLink RX12 64 "RainWishesModel" "wantedFirst" "[I" ∈ WSG := lkT7 170 rfl rfl
set_option maxRecDepth 20000 in
theorem lk_1731 : Cond.fieldLink RX12 378 "RainWishesModel" "wantedMany" "I" ∈ WSG := lkT7 171 rfl rfl
set_option maxRecDepth 20000 in
theorem lk_1732 : Cond.fieldLink RX12 67 "RainWishesModel" "reading" "[J" ∈ WSG := lkT7 172 rfl rfl
set_option maxRecDepth 20000 in
theorem lk_1733 : Cond.fieldLink RX12 71 "RainWishesModel" "readFirst" "[I" ∈ WSG := lkT7 173 rfl rfl
set_option maxRecDepth 20000 in
theorem lk_1734 : Cond.fieldLink RX12 74 "RainWishesModel" "readMany" "[I" ∈ WSG := lkT7 174 rfl rfl
set_option maxRecDepth 20000 in
theorem lk_1735 : Cond.fieldLink RX12 395 "RainWishesModel" "readAll" "I" ∈ WSG := lkT7 175 rfl rfl
set_option maxRecDepth 20000 in
theorem lk_1736 : Cond.fieldLink RX12 432 "RainWishesModel" "state" "I" ∈ WSG := lkT7 176 rfl rfl
set_option maxRecDepth 20000 in
theorem lk_1737 : Cond.fieldLink RX12 77 "RainWishesModel" "worth" "[J" ∈ WSG := lkT7 177 rfl rfl
set_option maxRecDepth 20000 in
theorem lk_1738 : Cond.fieldLink RX12 80 "RainWishesModel" "tSort" "[I" ∈ WSG := lkT7 178 rfl rfl
set_option maxRecDepth 20000 in
theorem lk_1739 : Cond.fieldLink RX12 83 "RainWishesModel" "tMany" "[I" ∈ WSG := lkT7 179 rfl rfl
set_option maxRecDepth 20000 in
theorem lk_1740 : Cond.fieldLink RX12 86 "RainWishesModel" "numbers" "[J" ∈ WSG := lkT7 180 rfl rfl
set_option maxRecDepth 20000 in
theorem lk_1832 : Cond.methodLink RX12 156 yX12_within ∈ WSG := lkT8 32 rfl rfl
set_option maxRecDepth 20000 in
theorem lk_1833 : Cond.static yX12_within ∈ WSG := lkT8 33 rfl rfl
set_option maxRecDepth 20000 in
theorem lk_1834 : Cond.code yX12_within cX12_within 6 (some .boolean) ∈ WSG := lkT8 34 rfl rfl
set_option maxRecDepth 20000 in
theorem lk_1835 : Cond.methodLink RX12 233 yX12_fails ∈ WSG := lkT8 35 rfl rfl
set_option maxRecDepth 20000 in
theorem lk_1837 : Cond.instanceMethod yX12_fails ∈ WSG := lkT8 37 rfl rfl
set_option maxRecDepth 20000 in
theorem lk_1838 : Cond.code yX12_fails cX12_fails 2 (some .int) ∈ WSG := lkT8 38 rfl rfl
set_option maxRecDepth 20000 in
theorem lk_1839 : Cond.methodLink RX12 146 yX12_readsOn ∈ WSG := lkT8 39 rfl rfl
set_option maxRecDepth 20000 in
theorem lk_1841 : Cond.instanceMethod yX12_readsOn ∈ WSG := lkT8 41 rfl rfl
set_option maxRecDepth 20000 in
theorem lk_1842 : Cond.code yX12_readsOn cX12_readsOn 2 none ∈ WSG := lkT8 42 rfl rfl
set_option maxRecDepth 20000 in
theorem lk_1843 : Cond.methodLink RX12 110 yX12_isLetter ∈ WSG := lkT8 43 rfl rfl
set_option maxRecDepth 20000 in
theorem lk_1844 : Cond.static yX12_isLetter ∈ WSG := lkT8 44 rfl rfl
set_option maxRecDepth 20000 in
theorem lk_1845 : Cond.code yX12_isLetter cX12_isLetter 1 (some .boolean) ∈ WSG := lkT8 45 rfl rfl
set_option maxRecDepth 20000 in
theorem lk_1846 : Cond.methodLink RX12 114 yX12_see ∈ WSG := lkT8 46 rfl rfl
set_option maxRecDepth 20000 in
theorem lk_1848 : Cond.instanceMethod yX12_see ∈ WSG := lkT8 48 rfl rfl
set_option maxRecDepth 20000 in
theorem lk_1849 : Cond.code yX12_see cX12_see 2 (some .int) ∈ WSG := lkT8 49 rfl rfl
set_option maxRecDepth 20000 in
theorem lk_1850 : Cond.methodLink RX12 118 yX12_isDigit ∈ WSG := lkT8 50 rfl rfl
set_option maxRecDepth 20000 in
theorem lk_1851 : Cond.static yX12_isDigit ∈ WSG := lkT8 51 rfl rfl
set_option maxRecDepth 20000 in
theorem lk_1852 : Cond.code yX12_isDigit cX12_isDigit 1 (some .boolean) ∈ WSG := lkT8 52 rfl rfl
set_option maxRecDepth 20000 in
theorem lk_1853 : Cond.methodLink RX12 124 yX12_isSignByte ∈ WSG := lkT8 53 rfl rfl
set_option maxRecDepth 20000 in
theorem lk_1854 : Cond.static yX12_isSignByte ∈ WSG := lkT8 54 rfl rfl
set_option maxRecDepth 20000 in
theorem lk_1855 : Cond.code yX12_isSignByte cX12_isSignByte 2 (some .boolean) ∈ WSG := lkT8 55 rfl rfl
set_option maxRecDepth 20000 in
theorem lk_1857 : Cond.methodLink RX12 213 yX12_mustWord ∈ WSG := lkT8 57 rfl rfl
set_option maxRecDepth 20000 in
theorem lk_1859 : Cond.instanceMethod yX12_mustWord ∈ WSG := lkT8 59 rfl rfl
set_option maxRecDepth 20000 in
theorem lk_1860 : Cond.code yX12_mustWord cX12_mustWord 2 none ∈ WSG := lkT8 60 rfl rfl
set_option maxRecDepth 20000 in
theorem lk_1861 : Cond.methodLink RX12 149 yX12_took ∈ WSG := lkT8 61 rfl rfl
set_option maxRecDepth 20000 in
theorem lk_1863 : Cond.instanceMethod yX12_took ∈ WSG := lkT8 63 rfl rfl
set_option maxRecDepth 20000 in
theorem lk_1864 : Cond.code yX12_took cX12_took 3 (some .boolean) ∈ WSG := lkT8 64 rfl rfl
set_option maxRecDepth 20000 in
theorem lk_1865 : Cond.methodLink RX12 142 yX12_isWord ∈ WSG := lkT8 65 rfl rfl
set_option maxRecDepth 20000 in
theorem lk_1867 : Cond.instanceMethod yX12_isWord ∈ WSG := lkT8 67 rfl rfl
set_option maxRecDepth 20000 in
theorem lk_1868 : Cond.code yX12_isWord cX12_isWord 4 (some .boolean) ∈ WSG := lkT8 68 rfl rfl
set_option maxRecDepth 20000 in
theorem lk_1869 : Cond.methodLink RX12 133 yJ0_length_8abf5 ∈ WSG := lkT8 69 rfl rfl
set_option maxRecDepth 20000 in
theorem lk_1870 : Cond.methodLink RX12 138 yJ0_charAt_5068e ∈ WSG := lkT8 70 rfl rfl
set_option maxRecDepth 20000 in
theorem lk_1871 : Cond.methodLink RX12 152 yX12_blames ∈ WSG := lkT8 71 rfl rfl
set_option maxRecDepth 20000 in
theorem lk_1873 : Cond.instanceMethod yX12_blames ∈ WSG := lkT8 73 rfl rfl
set_option maxRecDepth 20000 in
theorem lk_1874 : Cond.code yX12_blames cX12_blames 2 none ∈ WSG := lkT8 74 rfl rfl
set_option maxRecDepth 20000 in
theorem lk_1875 : Cond.methodLink RX12 201 yX12_number ∈ WSG := lkT8 75 rfl rfl
set_option maxRecDepth 20000 in
theorem lk_1877 : Cond.instanceMethod yX12_number ∈ WSG := lkT8 77 rfl rfl
set_option maxRecDepth 20000 in
theorem lk_1878 : Cond.code yX12_number cX12_number 4 (some .int) ∈ WSG := lkT8 78 rfl rfl
set_option maxRecDepth 20000 in
theorem lk_1879 : Cond.methodLink RX12 238 Lib.Math.min.name ∈ WSG := lkT8 79 rfl rfl
set_option maxRecDepth 20000 in
theorem lk_1880 : Cond.methodLink RX12 230 yX12_readStop ∈ WSG := lkT8 80 rfl rfl
set_option maxRecDepth 20000 in
theorem lk_1882 : Cond.instanceMethod yX12_readStop ∈ WSG := lkT8 82 rfl rfl
set_option maxRecDepth 20000 in
theorem lk_1883 : Cond.code yX12_readStop cX12_readStop 1 none ∈ WSG := lkT8 83 rfl rfl
set_option maxRecDepth 20000 in
theorem lk_1884 : Cond.methodLink RX12 187 yX12_mustSign ∈ WSG := lkT8 84 rfl rfl
set_option maxRecDepth 20000 in
theorem lk_1886 : Cond.instanceMethod yX12_mustSign ∈ WSG := lkT8 86 rfl rfl
set_option maxRecDepth 20000 in
theorem lk_1887 : Cond.code yX12_mustSign cX12_mustSign 2 none ∈ WSG := lkT8 87 rfl rfl
set_option maxRecDepth 20000 in
theorem lk_1888 : Cond.methodLink RX12 243 yX12_readLine ∈ WSG := lkT8 88 rfl rfl
set_option maxRecDepth 20000 in
theorem lk_1890 : Cond.instanceMethod yX12_readLine ∈ WSG := lkT8 90 rfl rfl
set_option maxRecDepth 20000 in
theorem lk_1891 : Cond.code yX12_readLine cX12_readLine 1 none ∈ WSG := lkT8 91 rfl rfl
set_option maxRecDepth 20000 in
theorem lk_1895 : Cond.methodLink RX12 227 yX12_readWish ∈ WSG := lkT8 95 rfl rfl
set_option maxRecDepth 20000 in
theorem lk_1897 : Cond.instanceMethod yX12_readWish ∈ WSG := lkT8 97 rfl rfl
set_option maxRecDepth 20000 in
theorem lk_1898 : Cond.code yX12_readWish cX12_readWish 5 none ∈ WSG := lkT8 98 rfl rfl
set_option maxRecDepth 20000 in
theorem lk_1902 : Cond.methodLink RX12 184 yX12_readTruth ∈ WSG := lkT8 102 rfl rfl
set_option maxRecDepth 20000 in
theorem lk_1904 : Cond.instanceMethod yX12_readTruth ∈ WSG := lkT8 104 rfl rfl
set_option maxRecDepth 20000 in
theorem lk_1905 : Cond.code yX12_readTruth cX12_readTruth 1 none ∈ WSG := lkT8 105 rfl rfl
set_option maxRecDepth 20000 in
theorem lk_1906 : Cond.methodLink RX12 163 yX12_readBoth ∈ WSG := lkT8 106 rfl rfl
set_option maxRecDepth 20000 in
theorem lk_1908 : Cond.instanceMethod yX12_readBoth ∈ WSG := lkT8 108 rfl rfl
set_option maxRecDepth 20000 in
theorem lk_1909 : Cond.code yX12_readBoth cX12_readBoth 1 none ∈ WSG := lkT8 109 rfl rfl
set_option maxRecDepth 20000 in
theorem lk_1910 : Cond.methodLink RX12 171 yX12_readUnit ∈ WSG := lkT8 110 rfl rfl
set_option maxRecDepth 20000 in
theorem lk_1912 : Cond.instanceMethod yX12_readUnit ∈ WSG := lkT8 112 rfl rfl
set_option maxRecDepth 20000 in
theorem lk_1913 : Cond.code yX12_readUnit cX12_readUnit 2 none ∈ WSG := lkT8 113 rfl rfl
set_option maxRecDepth 20000 in
theorem lk_1915 : Cond.methodLink RX12 178 yX12_goesIn ∈ WSG := lkT8 115 rfl rfl
set_option maxRecDepth 20000 in
theorem lk_1917 : Cond.instanceMethod yX12_goesIn ∈ WSG := lkT8 117 rfl rfl
set_option maxRecDepth 20000 in
theorem lk_1918 : Cond.code yX12_goesIn cX12_goesIn 1 none ∈ WSG := lkT8 118 rfl rfl
set_option maxRecDepth 20000 in
theorem lk_1919 : Cond.methodLink RX12 168 yX12_laysStep ∈ WSG := lkT8 119 rfl rfl
set_option maxRecDepth 20000 in
theorem lk_1921 : Cond.instanceMethod yX12_laysStep ∈ WSG := lkT8 121 rfl rfl
set_option maxRecDepth 20000 in
theorem lk_1922 : Cond.code yX12_laysStep cX12_laysStep 2 none ∈ WSG := lkT8 122 rfl rfl
set_option maxRecDepth 20000 in
theorem lk_1923 : Cond.methodLink RX12 181 yX12_isSign ∈ WSG := lkT8 123 rfl rfl
set_option maxRecDepth 20000 in
theorem lk_1925 : Cond.instanceMethod yX12_isSign ∈ WSG := lkT8 125 rfl rfl
set_option maxRecDepth 20000 in
theorem lk_1926 : Cond.code yX12_isSign cX12_isSign 2 (some .boolean) ∈ WSG := lkT8 126 rfl rfl
set_option maxRecDepth 20000 in
theorem lk_1927 : Cond.methodLink RX12 190 yX12_readSum ∈ WSG := lkT8 127 rfl rfl
set_option maxRecDepth 20000 in
theorem lk_1929 : Cond.instanceMethod yX12_readSum ∈ WSG := lkT8 129 rfl rfl
set_option maxRecDepth 20000 in
theorem lk_1930 : Cond.code yX12_readSum cX12_readSum 2 none ∈ WSG := lkT8 130 rfl rfl
set_option maxRecDepth 20000 in
theorem lk_1931 : Cond.methodLink RX12 193 yX12_readTerm ∈ WSG := lkT8 131 rfl rfl
set_option maxRecDepth 20000 in
theorem lk_1933 : Cond.instanceMethod yX12_readTerm ∈ WSG := lkT8 133 rfl rfl
set_option maxRecDepth 20000 in
theorem lk_1934 : Cond.code yX12_readTerm cX12_readTerm 1 none ∈ WSG := lkT8 134 rfl rfl
set_option maxRecDepth 20000 in
theorem lk_1935 : Cond.methodLink RX12 196 yX12_readAtom ∈ WSG := lkT8 135 rfl rfl
set_option maxRecDepth 20000 in
theorem lk_1937 : Cond.instanceMethod yX12_readAtom ∈ WSG := lkT8 137 rfl rfl
set_option maxRecDepth 20000 in
theorem lk_1938 : Cond.code yX12_readAtom cX12_readAtom 3 none ∈ WSG := lkT8 138 rfl rfl
set_option maxRecDepth 20000 in
theorem lk_1953 : Cond.methodLink RX12 305 yX12_isWish ∈ WSG := lkT8 153 rfl rfl
set_option maxRecDepth 20000 in
theorem lk_1955 : Cond.instanceMethod yX12_isWish ∈ WSG := lkT8 155 rfl rfl
set_option maxRecDepth 20000 in
theorem lk_1956 : Cond.code yX12_isWish cX12_isWish 2 (some .boolean) ∈ WSG := lkT8 156 rfl rfl
set_option maxRecDepth 20000 in
theorem lk_1957 : Cond.constantLong RX12 308 (5 : Int64) ∈ WSG := lkT8 157 rfl rfl
set_option maxRecDepth 20000 in
theorem lk_1958 : Cond.methodLink RX12 292 yX12_doesHold ∈ WSG := lkT8 158 rfl rfl
set_option maxRecDepth 20000 in
theorem lk_1960 : Cond.instanceMethod yX12_doesHold ∈ WSG := lkT8 160 rfl rfl
set_option maxRecDepth 20000 in
theorem lk_1961 : Cond.code yX12_doesHold cX12_doesHold 3 (some .boolean) ∈ WSG := lkT8 161 rfl rfl
set_option maxRecDepth 20000 in
theorem lk_1962 : Cond.methodLink RX12 289 yX12_isOpen ∈ WSG := lkT8 162 rfl rfl
set_option maxRecDepth 20000 in
theorem lk_1964 : Cond.instanceMethod yX12_isOpen ∈ WSG := lkT8 164 rfl rfl
set_option maxRecDepth 20000 in
theorem lk_1965 : Cond.code yX12_isOpen cX12_isOpen 2 (some .boolean) ∈ WSG := lkT8 165 rfl rfl
set_option maxRecDepth 20000 in
theorem lk_1970 : Cond.methodLink RX12 295 yX12_isSky ∈ WSG := lkT8 170 rfl rfl
set_option maxRecDepth 20000 in
theorem lk_1972 : Cond.instanceMethod yX12_isSky ∈ WSG := lkT8 172 rfl rfl
set_option maxRecDepth 20000 in
theorem lk_1973 : Cond.code yX12_isSky cX12_isSky 3 (some .boolean) ∈ WSG := lkT8 173 rfl rfl
set_option maxRecDepth 20000 in
theorem lk_1982 : Cond.methodLink RX12 310 yX12_whyNot ∈ WSG := lkT8 182 rfl rfl
set_option maxRecDepth 20000 in
theorem lk_1984 : Cond.instanceMethod yX12_whyNot ∈ WSG := lkT8 184 rfl rfl
set_option maxRecDepth 20000 in
theorem lk_1985 : Cond.code yX12_whyNot cX12_whyNot 3 (some .int) ∈ WSG := lkT8 185 rfl rfl
set_option maxRecDepth 20000 in
theorem lk_1986 : Cond.methodLink RX12 299 yX12_musts ∈ WSG := lkT8 186 rfl rfl
set_option maxRecDepth 20000 in
theorem lk_1988 : Cond.instanceMethod yX12_musts ∈ WSG := lkT8 188 rfl rfl
set_option maxRecDepth 20000 in
theorem lk_1989 : Cond.code yX12_musts cX12_musts 3 (some .int) ∈ WSG := lkT8 189 rfl rfl
set_option maxRecDepth 20000 in
theorem lk_1990 : Cond.methodLink RX12 302 yX12_grantedIn ∈ WSG := lkT8 190 rfl rfl
set_option maxRecDepth 20000 in
theorem lk_1992 : Cond.instanceMethod yX12_grantedIn ∈ WSG := lkT8 192 rfl rfl
set_option maxRecDepth 20000 in
theorem lk_1993 : Cond.code yX12_grantedIn cX12_grantedIn 4 (some .int) ∈ WSG := lkT8 193 rfl rfl
set_option maxRecDepth 20000 in
theorem lk_2006 : Cond.methodLink RX12 313 yX12_isAsked ∈ WSG := lkT8 206 rfl rfl
set_option maxRecDepth 20000 in
theorem lk_2008 : Cond.instanceMethod yX12_isAsked ∈ WSG := lkT8 208 rfl rfl
set_option maxRecDepth 20000 in
theorem lk_2009 : Cond.code yX12_isAsked cX12_isAsked 2 (some .boolean) ∈ WSG := lkT8 209 rfl rfl
set_option maxRecDepth 20000 in
theorem lk_2010 : Cond.methodLink RX12 316 yX12_laysPlans ∈ WSG := lkT8 210 rfl rfl
set_option maxRecDepth 20000 in
theorem lk_2012 : Cond.instanceMethod yX12_laysPlans ∈ WSG := lkT8 212 rfl rfl
set_option maxRecDepth 20000 in
theorem lk_2013 : Cond.code yX12_laysPlans cX12_laysPlans 3 none ∈ WSG := lkT8 213 rfl rfl
set_option maxRecDepth 20000 in
theorem lk_2014 : Cond.methodLink RX12 319 yX12_planFor ∈ WSG := lkT8 214 rfl rfl
set_option maxRecDepth 20000 in
theorem lk_2016 : Cond.instanceMethod yX12_planFor ∈ WSG := lkT8 216 rfl rfl
set_option maxRecDepth 20000 in
theorem lk_2017 : Cond.code yX12_planFor cX12_planFor 4 (some .int) ∈ WSG := lkT8 217 rfl rfl
set_option maxRecDepth 20000 in
theorem lk_2026 : Cond.methodLink RX12 322 yX12_openFault ∈ WSG := lkT8 226 rfl rfl
set_option maxRecDepth 20000 in
theorem lk_2028 : Cond.instanceMethod yX12_openFault ∈ WSG := lkT8 228 rfl rfl
set_option maxRecDepth 20000 in
theorem lk_2029 : Cond.code yX12_openFault cX12_openFault 2 (some .int) ∈ WSG := lkT8 229 rfl rfl
set_option maxRecDepth 20000 in
theorem lk_2034 : Cond.constantLong RX12 325 (2 : Int64) ∈ WSG := lkT8 234 rfl rfl
set_option maxRecDepth 20000 in
theorem lk_2035 : Cond.methodLink RX12 327 yX12_weight ∈ WSG := lkT8 235 rfl rfl
set_option maxRecDepth 20000 in
theorem lk_2037 : Cond.instanceMethod yX12_weight ∈ WSG := lkT8 237 rfl rfl
set_option maxRecDepth 20000 in
theorem lk_2038 : Cond.code yX12_weight cX12_weight 4 (some .int) ∈ WSG := lkT8 238 rfl rfl
set_option maxRecDepth 20000 in
theorem lk_2047 : Cond.methodLink RX12 329 yX12_heartsOf ∈ WSG := lkT9 7 rfl rfl
set_option maxRecDepth 20000 in
theorem lk_2049 : Cond.instanceMethod yX12_heartsOf ∈ WSG := lkT9 9 rfl rfl
set_option maxRecDepth 20000 in
theorem lk_2050 : Cond.code yX12_heartsOf cX12_heartsOf 5 (some .int) ∈ WSG := lkT9 10 rfl rfl
set_option maxRecDepth 20000 in
theorem lk_2063 : Cond.constantLong RX12 336 (100 : Int64) ∈ WSG := lkT9 23 rfl rfl
set_option maxRecDepth 20000 in
theorem lk_2064 : Cond.methodLink RX12 338 yX12_expects ∈ WSG := lkT9 24 rfl rfl
set_option maxRecDepth 20000 in
theorem lk_2066 : Cond.instanceMethod yX12_expects ∈ WSG := lkT9 26 rfl rfl
set_option maxRecDepth 20000 in
theorem lk_2067 : Cond.code yX12_expects cX12_expects 8 (some .long) ∈ WSG := lkT9 27 rfl rfl
set_option maxRecDepth 20000 in
theorem lk_2068 : Cond.methodLink RX12 332 yX12_power ∈ WSG := lkT9 28 rfl rfl
set_option maxRecDepth 20000 in
theorem lk_2069 : Cond.static yX12_power ∈ WSG := lkT9 29 rfl rfl
set_option maxRecDepth 20000 in
theorem lk_2070 : Cond.code yX12_power cX12_power 6 (some .long) ∈ WSG := lkT9 30 rfl rfl
set_option maxRecDepth 20000 in
theorem lk_2079 : Cond.methodLink RX12 351 yX12_isRule ∈ WSG := lkT9 39 rfl rfl
set_option maxRecDepth 20000 in
theorem lk_2080 : Cond.static yX12_isRule ∈ WSG := lkT9 40 rfl rfl
set_option maxRecDepth 20000 in
theorem lk_2081 : Cond.code yX12_isRule cX12_isRule 1 (some .boolean) ∈ WSG := lkT9 41 rfl rfl
set_option maxRecDepth 20000 in
theorem lk_2082 : Cond.constantLong RX12 349 (3 : Int64) ∈ WSG := lkT9 42 rfl rfl
set_option maxRecDepth 20000 in
theorem lk_2083 : Cond.methodLink RX12 354 yX12_asksAsItIs ∈ WSG := lkT9 43 rfl rfl
set_option maxRecDepth 20000 in
theorem lk_2085 : Cond.instanceMethod yX12_asksAsItIs ∈ WSG := lkT9 45 rfl rfl
set_option maxRecDepth 20000 in
theorem lk_2086 : Cond.code yX12_asksAsItIs cX12_asksAsItIs 2 none ∈ WSG := lkT9 46 rfl rfl
set_option maxRecDepth 20000 in
theorem lk_2087 : Cond.methodLink RX12 357 yX12_serves ∈ WSG := lkT9 47 rfl rfl
set_option maxRecDepth 20000 in
theorem lk_2089 : Cond.instanceMethod yX12_serves ∈ WSG := lkT9 49 rfl rfl
set_option maxRecDepth 20000 in
theorem lk_2090 : Cond.code yX12_serves cX12_serves 7 (some .int) ∈ WSG := lkT9 50 rfl rfl
set_option maxRecDepth 20000 in
theorem lk_2091 : Cond.methodLink RX12 345 yX12_key ∈ WSG := lkT9 51 rfl rfl
set_option maxRecDepth 20000 in
theorem lk_2093 : Cond.instanceMethod yX12_key ∈ WSG := lkT9 53 rfl rfl
set_option maxRecDepth 20000 in
theorem lk_2094 : Cond.code yX12_key cX12_key 5 (some .int) ∈ WSG := lkT9 54 rfl rfl
set_option maxRecDepth 20000 in
theorem lk_2095 : Cond.methodLink RX12 342 yX12_manyOf ∈ WSG := lkT9 55 rfl rfl
set_option maxRecDepth 20000 in
theorem lk_2097 : Cond.instanceMethod yX12_manyOf ∈ WSG := lkT9 57 rfl rfl
set_option maxRecDepth 20000 in
theorem lk_2098 : Cond.code yX12_manyOf cX12_manyOf 5 (some .int) ∈ WSG := lkT9 58 rfl rfl
set_option maxRecDepth 20000 in
theorem lk_2103 : Cond.methodLink RX12 360 yX12_isBody ∈ WSG := lkT9 63 rfl rfl
set_option maxRecDepth 20000 in
theorem lk_2104 : Cond.static yX12_isBody ∈ WSG := lkT9 64 rfl rfl
set_option maxRecDepth 20000 in
theorem lk_2105 : Cond.code yX12_isBody cX12_isBody 1 (some .boolean) ∈ WSG := lkT9 65 rfl rfl
set_option maxRecDepth 20000 in
theorem lk_2106 : Cond.methodLink RX12 363 yX12_shareOf ∈ WSG := lkT9 66 rfl rfl
set_option maxRecDepth 20000 in
theorem lk_2108 : Cond.instanceMethod yX12_shareOf ∈ WSG := lkT9 68 rfl rfl
set_option maxRecDepth 20000 in
theorem lk_2109 : Cond.code yX12_shareOf cX12_shareOf 5 (some .int) ∈ WSG := lkT9 69 rfl rfl
set_option maxRecDepth 20000 in
theorem lk_2114 : Cond.methodLink RX12 366 yX12_shareBy ∈ WSG := lkT9 74 rfl rfl
set_option maxRecDepth 20000 in
theorem lk_2116 : Cond.instanceMethod yX12_shareBy ∈ WSG := lkT9 76 rfl rfl
set_option maxRecDepth 20000 in
theorem lk_2117 : Cond.code yX12_shareBy cX12_shareBy 5 (some .int) ∈ WSG := lkT9 77 rfl rfl
set_option maxRecDepth 20000 in
theorem lk_2126 : Cond.methodLink RX12 392 yX12_wantsFault ∈ WSG := lkT9 86 rfl rfl
set_option maxRecDepth 20000 in
theorem lk_2128 : Cond.instanceMethod yX12_wantsFault ∈ WSG := lkT9 88 rfl rfl
set_option maxRecDepth 20000 in
theorem lk_2129 : Cond.code yX12_wantsFault cX12_wantsFault 5 (some .int) ∈ WSG := lkT9 89 rfl rfl
set_option maxRecDepth 20000 in
theorem lk_2130 : Cond.methodLink RX12 385 yX12_trayFault ∈ WSG := lkT9 90 rfl rfl
set_option maxRecDepth 20000 in
theorem lk_2132 : Cond.instanceMethod yX12_trayFault ∈ WSG := lkT9 92 rfl rfl
set_option maxRecDepth 20000 in
theorem lk_2133 : Cond.code yX12_trayFault cX12_trayFault 2 (some .int) ∈ WSG := lkT9 93 rfl rfl
set_option maxRecDepth 20000 in
theorem lk_2134 : Cond.methodLink RX12 369 yX12_isTray ∈ WSG := lkT9 94 rfl rfl
set_option maxRecDepth 20000 in
theorem lk_2135 : Cond.static yX12_isTray ∈ WSG := lkT9 95 rfl rfl
set_option maxRecDepth 20000 in
theorem lk_2136 : Cond.code yX12_isTray cX12_isTray 1 (some .boolean) ∈ WSG := lkT9 96 rfl rfl
set_option maxRecDepth 20000 in
theorem lk_2137 : Cond.constantLong RX12 388 (10 : Int64) ∈ WSG := lkT9 97 rfl rfl
set_option maxRecDepth 20000 in
theorem lk_2138 : Cond.constantLong RX12 390 (12 : Int64) ∈ WSG := lkT9 98 rfl rfl
set_option maxRecDepth 20000 in
theorem lk_2139 : Cond.methodLink RX12 381 yX12_goesWants ∈ WSG := lkT9 99 rfl rfl
set_option maxRecDepth 20000 in
theorem lk_2141 : Cond.instanceMethod yX12_goesWants ∈ WSG := lkT9 101 rfl rfl
set_option maxRecDepth 20000 in
theorem lk_2142 : Cond.code yX12_goesWants cX12_goesWants 6 none ∈ WSG := lkT9 102 rfl rfl
set_option maxRecDepth 20000 in
theorem lk_2143 : Cond.methodLink RX12 375 yX12_doPart ∈ WSG := lkT9 103 rfl rfl
set_option maxRecDepth 20000 in
theorem lk_2145 : Cond.instanceMethod yX12_doPart ∈ WSG := lkT9 105 rfl rfl
set_option maxRecDepth 20000 in
theorem lk_2146 : Cond.code yX12_doPart cX12_doPart 7 (some .boolean) ∈ WSG := lkT9 106 rfl rfl
set_option maxRecDepth 20000 in
theorem lk_2147 : Cond.methodLink RX12 372 yX12_isSo ∈ WSG := lkT9 107 rfl rfl
set_option maxRecDepth 20000 in
theorem lk_2148 : Cond.static yX12_isSo ∈ WSG := lkT9 108 rfl rfl
set_option maxRecDepth 20000 in
theorem lk_2149 : Cond.code yX12_isSo cX12_isSo 2 (some .boolean) ∈ WSG := lkT9 109 rfl rfl
set_option maxRecDepth 20000 in
theorem lk_2154 : Cond.methodLink RX12 408 yX12_sayFault ∈ WSG := lkT9 114 rfl rfl
set_option maxRecDepth 20000 in
theorem lk_2156 : Cond.instanceMethod yX12_sayFault ∈ WSG := lkT9 116 rfl rfl
set_option maxRecDepth 20000 in
theorem lk_2157 : Cond.code yX12_sayFault cX12_sayFault 6 (some .int) ∈ WSG := lkT9 117 rfl rfl
set_option maxRecDepth 20000 in
theorem lk_2158 : Cond.methodLink RX12 411 yX12_reads ∈ WSG := lkT9 118 rfl rfl
set_option maxRecDepth 20000 in
theorem lk_2160 : Cond.instanceMethod yX12_reads ∈ WSG := lkT9 120 rfl rfl
set_option maxRecDepth 20000 in
theorem lk_2161 : Cond.code yX12_reads cX12_reads 11 none ∈ WSG := lkT9 121 rfl rfl
set_option maxRecDepth 20000 in
theorem lk_2162 : Cond.methodLink RX12 398 yX12_laysReading ∈ WSG := lkT9 122 rfl rfl
set_option maxRecDepth 20000 in
theorem lk_2164 : Cond.instanceMethod yX12_laysReading ∈ WSG := lkT9 124 rfl rfl
set_option maxRecDepth 20000 in
theorem lk_2165 : Cond.code yX12_laysReading cX12_laysReading 3 none ∈ WSG := lkT9 125 rfl rfl
set_option maxRecDepth 20000 in
theorem lk_2166 : Cond.methodLink RX12 401 yX12_laysPair ∈ WSG := lkT9 126 rfl rfl
set_option maxRecDepth 20000 in
theorem lk_2168 : Cond.instanceMethod yX12_laysPair ∈ WSG := lkT9 128 rfl rfl
set_option maxRecDepth 20000 in
theorem lk_2169 : Cond.code yX12_laysPair cX12_laysPair 9 none ∈ WSG := lkT9 129 rfl rfl
set_option maxRecDepth 20000 in
theorem lk_2170 : Cond.methodLink RX12 415 yX12_unlike ∈ WSG := lkT9 130 rfl rfl
set_option maxRecDepth 20000 in
theorem lk_2172 : Cond.instanceMethod yX12_unlike ∈ WSG := lkT9 132 rfl rfl
set_option maxRecDepth 20000 in
theorem lk_2173 : Cond.code yX12_unlike cX12_unlike 7 (some .int) ∈ WSG := lkT9 133 rfl rfl
set_option maxRecDepth 20000 in
theorem lk_2174 : Cond.methodLink RX12 405 yX12_areLike ∈ WSG := lkT9 134 rfl rfl
set_option maxRecDepth 20000 in
theorem lk_2176 : Cond.instanceMethod yX12_areLike ∈ WSG := lkT9 136 rfl rfl
set_option maxRecDepth 20000 in
theorem lk_2177 : Cond.code yX12_areLike cX12_areLike 4 (some .boolean) ∈ WSG := lkT9 137 rfl rfl
set_option maxRecDepth 20000 in
theorem lk_2178 : Cond.methodLink RX12 418 yX12_holdsIn ∈ WSG := lkT9 138 rfl rfl
set_option maxRecDepth 20000 in
theorem lk_2180 : Cond.instanceMethod yX12_holdsIn ∈ WSG := lkT9 140 rfl rfl
set_option maxRecDepth 20000 in
theorem lk_2181 : Cond.code yX12_holdsIn cX12_holdsIn 4 (some .int) ∈ WSG := lkT9 141 rfl rfl
set_option maxRecDepth 20000 in
theorem lk_2182 : Cond.methodLink RX12 421 Lib.Math.max.name ∈ WSG := lkT9 142 rfl rfl
set_option maxRecDepth 20000 in
theorem lk_2187 : Cond.methodLink RX12 423 yX12_keeps ∈ WSG := lkT9 147 rfl rfl
set_option maxRecDepth 20000 in
theorem lk_2189 : Cond.instanceMethod yX12_keeps ∈ WSG := lkT9 149 rfl rfl
set_option maxRecDepth 20000 in
theorem lk_2190 : Cond.code yX12_keeps cX12_keeps 2 none ∈ WSG := lkT9 150 rfl rfl
set_option maxRecDepth 20000 in
theorem lk_2191 : Cond.methodLink RX12 426 yX12_goesBy ∈ WSG := lkT9 151 rfl rfl
set_option maxRecDepth 20000 in
theorem lk_2193 : Cond.instanceMethod yX12_goesBy ∈ WSG := lkT9 153 rfl rfl
set_option maxRecDepth 20000 in
theorem lk_2194 : Cond.code yX12_goesBy cX12_goesBy 4 (some .int) ∈ WSG := lkT9 154 rfl rfl
set_option maxRecDepth 20000 in
theorem lk_2199 : Cond.constantLong RX12 429 (99 : Int64) ∈ WSG := lkT9 159 rfl rfl
set_option maxRecDepth 20000 in
theorem lk_2228 : Cond.constantLong RX12 435 (30 : Int64) ∈ WSG := lkT9 188 rfl rfl
set_option maxRecDepth 20000 in
theorem lk_2229 : Cond.methodLink RX12 437 yX12_draw ∈ WSG := lkT9 189 rfl rfl
set_option maxRecDepth 20000 in
theorem lk_2231 : Cond.instanceMethod yX12_draw ∈ WSG := lkT9 191 rfl rfl
set_option maxRecDepth 20000 in
theorem lk_2232 : Cond.code yX12_draw cX12_draw 2 (some .int) ∈ WSG := lkT9 192 rfl rfl
set_option maxRecDepth 20000 in
theorem lk_2233 : Cond.constant RX12 431 (1103515245 : Int32) ∈ WSG := lkT9 193 rfl rfl
set_option maxRecDepth 20000 in
theorem lk_2238 : Cond.methodLink RX12 446 yX12_holdFault ∈ WSG := lkT9 198 rfl rfl
set_option maxRecDepth 20000 in
theorem lk_2240 : Cond.instanceMethod yX12_holdFault ∈ WSG := lkT9 200 rfl rfl
set_option maxRecDepth 20000 in
theorem lk_2241 : Cond.code yX12_holdFault cX12_holdFault 6 (some .int) ∈ WSG := lkT9 201 rfl rfl
set_option maxRecDepth 20000 in
theorem lk_2242 : Cond.constantLong RX12 440 (6 : Int64) ∈ WSG := lkT9 202 rfl rfl
set_option maxRecDepth 20000 in
theorem lk_2243 : Cond.methodLink RX12 449 yX12_laysWorth ∈ WSG := lkT9 203 rfl rfl
set_option maxRecDepth 20000 in
theorem lk_2245 : Cond.instanceMethod yX12_laysWorth ∈ WSG := lkT9 205 rfl rfl
set_option maxRecDepth 20000 in
theorem lk_2246 : Cond.code yX12_laysWorth cX12_laysWorth 9 none ∈ WSG := lkT9 206 rfl rfl
set_option maxRecDepth 20000 in
theorem lk_2247 : Cond.methodLink RX12 442 yX12_grantsNow ∈ WSG := lkT9 207 rfl rfl
set_option maxRecDepth 20000 in
theorem lk_2249 : Cond.instanceMethod yX12_grantsNow ∈ WSG := lkT9 209 rfl rfl
set_option maxRecDepth 20000 in
theorem lk_2250 : Cond.code yX12_grantsNow cX12_grantsNow 6 (some .long) ∈ WSG := lkT9 210 rfl rfl
set_option maxRecDepth 20000 in
theorem lk_2255 : Cond.constantLong RX12 452 (-1 : Int64) ∈ WSG := lkT9 215 rfl rfl
set_option maxRecDepth 20000 in
theorem lk_2264 : Cond.methodLink RX12 454 yX12_cut ∈ WSG := lkT9 224 rfl rfl
set_option maxRecDepth 20000 in
theorem lk_2266 : Cond.instanceMethod yX12_cut ∈ WSG := lkT9 226 rfl rfl
set_option maxRecDepth 20000 in
theorem lk_2267 : Cond.code yX12_cut cX12_cut 6 (some .long) ∈ WSG := lkT9 227 rfl rfl
set_option maxRecDepth 20000 in
theorem lk_2305 : Cond.fieldLink RJ0 15 "java/lang/String" "coder" "B" ∈ WSG := lkT10 25 rfl rfl
set_option maxRecDepth 20000 in
theorem lk_2306 : Cond.fieldLink RJ0 9 "java/lang/String" "value" "[B" ∈ WSG := lkT10 26 rfl rfl
set_option maxRecDepth 20000 in
theorem ul_0_0 : u_lay RX0 TX0 0 ∈ WSG := lkT1 228 rfl rfl
set_option maxRecDepth 20000 in
theorem ul_0_1 : u_lay RX0 TX0 1 ∈ WSG := lkT1 230 rfl rfl
set_option maxRecDepth 20000 in
theorem ul_0_2 : u_lay RX0 TX0 2 ∈ WSG := lkT1 232 rfl rfl
set_option maxRecDepth 20000 in
theorem ul_0_3 : u_lay RX0 TX0 3 ∈ WSG := lkT1 234 rfl rfl
set_option maxRecDepth 20000 in
theorem ul_0_4 : u_lay RX0 TX0 4 ∈ WSG := lkT1 236 rfl rfl
set_option maxRecDepth 20000 in
theorem ul_0_5 : u_lay RX0 TX0 5 ∈ WSG := lkT1 238 rfl rfl
theorem iw_0 : ∀ w ∈ u_ws RX0 TX0 6, w ∈ WSG := by
  intro w hw
  obtain ⟨k, hk, rfl⟩ := List.mem_map.mp hw
  have hk := List.mem_range.mp hk
  match k, hk with
  | 0, _ => exact ul_0_0
  | 1, _ => exact ul_0_1
  | 2, _ => exact ul_0_2
  | 3, _ => exact ul_0_3
  | 4, _ => exact ul_0_4
  | 5, _ => exact ul_0_5
  | k + 6, hk => exact absurd hk (by omega)
set_option maxRecDepth 20000 in
theorem ul_1_0 : u_lay RX1 TX1 0 ∈ WSG := lkT2 137 rfl rfl
set_option maxRecDepth 20000 in
theorem ul_1_1 : u_lay RX1 TX1 1 ∈ WSG := lkT2 139 rfl rfl
set_option maxRecDepth 20000 in
theorem ul_1_2 : u_lay RX1 TX1 2 ∈ WSG := lkT2 141 rfl rfl
set_option maxRecDepth 20000 in
theorem ul_1_3 : u_lay RX1 TX1 3 ∈ WSG := lkT2 143 rfl rfl
set_option maxRecDepth 20000 in
theorem ul_1_4 : u_lay RX1 TX1 4 ∈ WSG := lkT2 145 rfl rfl
set_option maxRecDepth 20000 in
theorem ul_1_5 : u_lay RX1 TX1 5 ∈ WSG := lkT2 147 rfl rfl
set_option maxRecDepth 20000 in
theorem ul_1_6 : u_lay RX1 TX1 6 ∈ WSG := lkT2 149 rfl rfl
set_option maxRecDepth 20000 in
theorem ul_1_7 : u_lay RX1 TX1 7 ∈ WSG := lkT2 151 rfl rfl
set_option maxRecDepth 20000 in
theorem ul_1_8 : u_lay RX1 TX1 8 ∈ WSG := lkT2 153 rfl rfl
theorem iw_1 : ∀ w ∈ u_ws RX1 TX1 9, w ∈ WSG := by
  intro w hw
  obtain ⟨k, hk, rfl⟩ := List.mem_map.mp hw
  have hk := List.mem_range.mp hk
  match k, hk with
  | 0, _ => exact ul_1_0
  | 1, _ => exact ul_1_1
  | 2, _ => exact ul_1_2
  | 3, _ => exact ul_1_3
  | 4, _ => exact ul_1_4
  | 5, _ => exact ul_1_5
  | 6, _ => exact ul_1_6
  | 7, _ => exact ul_1_7
  | 8, _ => exact ul_1_8
  | k + 9, hk => exact absurd hk (by omega)
set_option maxRecDepth 20000 in
theorem ul_2_0 : u_lay RX2 TX2 0 ∈ WSG := lkT2 39 rfl rfl
set_option maxRecDepth 20000 in
theorem ul_2_1 : u_lay RX2 TX2 1 ∈ WSG := lkT2 41 rfl rfl
set_option maxRecDepth 20000 in
theorem ul_2_2 : u_lay RX2 TX2 2 ∈ WSG := lkT2 43 rfl rfl
set_option maxRecDepth 20000 in
theorem ul_2_3 : u_lay RX2 TX2 3 ∈ WSG := lkT2 45 rfl rfl
set_option maxRecDepth 20000 in
theorem ul_2_4 : u_lay RX2 TX2 4 ∈ WSG := lkT2 47 rfl rfl
set_option maxRecDepth 20000 in
theorem ul_2_5 : u_lay RX2 TX2 5 ∈ WSG := lkT2 49 rfl rfl
set_option maxRecDepth 20000 in
theorem ul_2_6 : u_lay RX2 TX2 6 ∈ WSG := lkT2 51 rfl rfl
set_option maxRecDepth 20000 in
theorem ul_2_7 : u_lay RX2 TX2 7 ∈ WSG := lkT2 53 rfl rfl
set_option maxRecDepth 20000 in
theorem ul_2_8 : u_lay RX2 TX2 8 ∈ WSG := lkT2 55 rfl rfl
theorem iw_2 : ∀ w ∈ u_ws RX2 TX2 9, w ∈ WSG := by
  intro w hw
  obtain ⟨k, hk, rfl⟩ := List.mem_map.mp hw
  have hk := List.mem_range.mp hk
  match k, hk with
  | 0, _ => exact ul_2_0
  | 1, _ => exact ul_2_1
  | 2, _ => exact ul_2_2
  | 3, _ => exact ul_2_3
  | 4, _ => exact ul_2_4
  | 5, _ => exact ul_2_5
  | 6, _ => exact ul_2_6
  | 7, _ => exact ul_2_7
  | 8, _ => exact ul_2_8
  | k + 9, hk => exact absurd hk (by omega)
set_option maxRecDepth 20000 in
theorem ul_3_0 : u_lay RX3 TX3 0 ∈ WSG := lkT2 13 rfl rfl
set_option maxRecDepth 20000 in
theorem ul_3_1 : u_lay RX3 TX3 1 ∈ WSG := lkT2 15 rfl rfl
set_option maxRecDepth 20000 in
theorem ul_3_2 : u_lay RX3 TX3 2 ∈ WSG := lkT2 17 rfl rfl
theorem iw_3 : ∀ w ∈ u_ws RX3 TX3 3, w ∈ WSG := by
  intro w hw
  obtain ⟨k, hk, rfl⟩ := List.mem_map.mp hw
  have hk := List.mem_range.mp hk
  match k, hk with
  | 0, _ => exact ul_3_0
  | 1, _ => exact ul_3_1
  | 2, _ => exact ul_3_2
  | k + 3, hk => exact absurd hk (by omega)
set_option maxRecDepth 20000 in
theorem ul_4_0 : u_lay RX4 TX4 0 ∈ WSG := lkT2 168 rfl rfl
set_option maxRecDepth 20000 in
theorem ul_4_1 : u_lay RX4 TX4 1 ∈ WSG := lkT2 170 rfl rfl
set_option maxRecDepth 20000 in
theorem ul_4_2 : u_lay RX4 TX4 2 ∈ WSG := lkT2 172 rfl rfl
set_option maxRecDepth 20000 in
theorem ul_4_3 : u_lay RX4 TX4 3 ∈ WSG := lkT2 174 rfl rfl
theorem iw_4 : ∀ w ∈ u_ws RX4 TX4 4, w ∈ WSG := by
  intro w hw
  obtain ⟨k, hk, rfl⟩ := List.mem_map.mp hw
  have hk := List.mem_range.mp hk
  match k, hk with
  | 0, _ => exact ul_4_0
  | 1, _ => exact ul_4_1
  | 2, _ => exact ul_4_2
  | 3, _ => exact ul_4_3
  | k + 4, hk => exact absurd hk (by omega)
set_option maxRecDepth 20000 in
theorem ul_5_0 : u_lay RX5 TX5 0 ∈ WSG := lkT2 106 rfl rfl
set_option maxRecDepth 20000 in
theorem ul_5_1 : u_lay RX5 TX5 1 ∈ WSG := lkT2 108 rfl rfl
set_option maxRecDepth 20000 in
theorem ul_5_2 : u_lay RX5 TX5 2 ∈ WSG := lkT2 110 rfl rfl
set_option maxRecDepth 20000 in
theorem ul_5_3 : u_lay RX5 TX5 3 ∈ WSG := lkT2 112 rfl rfl
set_option maxRecDepth 20000 in
theorem ul_5_4 : u_lay RX5 TX5 4 ∈ WSG := lkT2 114 rfl rfl
set_option maxRecDepth 20000 in
theorem ul_5_5 : u_lay RX5 TX5 5 ∈ WSG := lkT2 116 rfl rfl
set_option maxRecDepth 20000 in
theorem ul_5_6 : u_lay RX5 TX5 6 ∈ WSG := lkT2 118 rfl rfl
theorem iw_5 : ∀ w ∈ u_ws RX5 TX5 7, w ∈ WSG := by
  intro w hw
  obtain ⟨k, hk, rfl⟩ := List.mem_map.mp hw
  have hk := List.mem_range.mp hk
  match k, hk with
  | 0, _ => exact ul_5_0
  | 1, _ => exact ul_5_1
  | 2, _ => exact ul_5_2
  | 3, _ => exact ul_5_3
  | 4, _ => exact ul_5_4
  | 5, _ => exact ul_5_5
  | 6, _ => exact ul_5_6
  | k + 7, hk => exact absurd hk (by omega)
set_option maxRecDepth 20000 in
theorem ul_6_0 : u_lay RX6 TX6 0 ∈ WSG := lkT1 182 rfl rfl
set_option maxRecDepth 20000 in
theorem ul_6_1 : u_lay RX6 TX6 1 ∈ WSG := lkT1 184 rfl rfl
set_option maxRecDepth 20000 in
theorem ul_6_2 : u_lay RX6 TX6 2 ∈ WSG := lkT1 186 rfl rfl
set_option maxRecDepth 20000 in
theorem ul_6_3 : u_lay RX6 TX6 3 ∈ WSG := lkT1 188 rfl rfl
set_option maxRecDepth 20000 in
theorem ul_6_4 : u_lay RX6 TX6 4 ∈ WSG := lkT1 190 rfl rfl
set_option maxRecDepth 20000 in
theorem ul_6_5 : u_lay RX6 TX6 5 ∈ WSG := lkT1 192 rfl rfl
set_option maxRecDepth 20000 in
theorem ul_6_6 : u_lay RX6 TX6 6 ∈ WSG := lkT1 194 rfl rfl
set_option maxRecDepth 20000 in
theorem ul_6_7 : u_lay RX6 TX6 7 ∈ WSG := lkT1 196 rfl rfl
set_option maxRecDepth 20000 in
theorem ul_6_8 : u_lay RX6 TX6 8 ∈ WSG := lkT1 198 rfl rfl
set_option maxRecDepth 20000 in
theorem ul_6_9 : u_lay RX6 TX6 9 ∈ WSG := lkT1 200 rfl rfl
set_option maxRecDepth 20000 in
theorem ul_6_10 : u_lay RX6 TX6 10 ∈ WSG := lkT1 202 rfl rfl
set_option maxRecDepth 20000 in
theorem ul_6_11 : u_lay RX6 TX6 11 ∈ WSG := lkT1 204 rfl rfl
theorem iw_6 : ∀ w ∈ u_ws RX6 TX6 12, w ∈ WSG := by
  intro w hw
  obtain ⟨k, hk, rfl⟩ := List.mem_map.mp hw
  have hk := List.mem_range.mp hk
  match k, hk with
  | 0, _ => exact ul_6_0
  | 1, _ => exact ul_6_1
  | 2, _ => exact ul_6_2
  | 3, _ => exact ul_6_3
  | 4, _ => exact ul_6_4
  | 5, _ => exact ul_6_5
  | 6, _ => exact ul_6_6
  | 7, _ => exact ul_6_7
  | 8, _ => exact ul_6_8
  | 9, _ => exact ul_6_9
  | 10, _ => exact ul_6_10
  | 11, _ => exact ul_6_11
  | k + 12, hk => exact absurd hk (by omega)
set_option maxRecDepth 20000 in
theorem ul_7_0 : u_lay RX7 TX7 0 ∈ WSG := lkT2 74 rfl rfl
set_option maxRecDepth 20000 in
theorem ul_7_1 : u_lay RX7 TX7 1 ∈ WSG := lkT2 76 rfl rfl
set_option maxRecDepth 20000 in
theorem ul_7_2 : u_lay RX7 TX7 2 ∈ WSG := lkT2 78 rfl rfl
set_option maxRecDepth 20000 in
theorem ul_7_3 : u_lay RX7 TX7 3 ∈ WSG := lkT2 80 rfl rfl
set_option maxRecDepth 20000 in
theorem ul_7_4 : u_lay RX7 TX7 4 ∈ WSG := lkT2 82 rfl rfl
set_option maxRecDepth 20000 in
theorem ul_7_5 : u_lay RX7 TX7 5 ∈ WSG := lkT2 84 rfl rfl
set_option maxRecDepth 20000 in
theorem ul_7_6 : u_lay RX7 TX7 6 ∈ WSG := lkT2 86 rfl rfl
set_option maxRecDepth 20000 in
theorem ul_7_7 : u_lay RX7 TX7 7 ∈ WSG := lkT2 88 rfl rfl
theorem iw_7 : ∀ w ∈ u_ws RX7 TX7 8, w ∈ WSG := by
  intro w hw
  obtain ⟨k, hk, rfl⟩ := List.mem_map.mp hw
  have hk := List.mem_range.mp hk
  match k, hk with
  | 0, _ => exact ul_7_0
  | 1, _ => exact ul_7_1
  | 2, _ => exact ul_7_2
  | 3, _ => exact ul_7_3
  | 4, _ => exact ul_7_4
  | 5, _ => exact ul_7_5
  | 6, _ => exact ul_7_6
  | 7, _ => exact ul_7_7
  | k + 8, hk => exact absurd hk (by omega)
set_option maxRecDepth 20000 in
theorem ul_8_0 : u_lay RX8 TX8 0 ∈ WSG := lkT1 102 rfl rfl
set_option maxRecDepth 20000 in
theorem ul_8_1 : u_lay RX8 TX8 1 ∈ WSG := lkT1 104 rfl rfl
set_option maxRecDepth 20000 in
theorem ul_8_2 : u_lay RX8 TX8 2 ∈ WSG := lkT1 106 rfl rfl
set_option maxRecDepth 20000 in
theorem ul_8_3 : u_lay RX8 TX8 3 ∈ WSG := lkT1 108 rfl rfl
set_option maxRecDepth 20000 in
theorem ul_8_4 : u_lay RX8 TX8 4 ∈ WSG := lkT1 110 rfl rfl
set_option maxRecDepth 20000 in
theorem ul_8_5 : u_lay RX8 TX8 5 ∈ WSG := lkT1 112 rfl rfl
set_option maxRecDepth 20000 in
theorem ul_8_6 : u_lay RX8 TX8 6 ∈ WSG := lkT1 114 rfl rfl
set_option maxRecDepth 20000 in
theorem ul_8_7 : u_lay RX8 TX8 7 ∈ WSG := lkT1 116 rfl rfl
set_option maxRecDepth 20000 in
theorem ul_8_8 : u_lay RX8 TX8 8 ∈ WSG := lkT1 118 rfl rfl
set_option maxRecDepth 20000 in
theorem ul_8_9 : u_lay RX8 TX8 9 ∈ WSG := lkT1 120 rfl rfl
set_option maxRecDepth 20000 in
theorem ul_8_10 : u_lay RX8 TX8 10 ∈ WSG := lkT1 122 rfl rfl
set_option maxRecDepth 20000 in
theorem ul_8_11 : u_lay RX8 TX8 11 ∈ WSG := lkT1 124 rfl rfl
set_option maxRecDepth 20000 in
theorem ul_8_12 : u_lay RX8 TX8 12 ∈ WSG := lkT1 126 rfl rfl
set_option maxRecDepth 20000 in
theorem ul_8_13 : u_lay RX8 TX8 13 ∈ WSG := lkT1 128 rfl rfl
set_option maxRecDepth 20000 in
theorem ul_8_14 : u_lay RX8 TX8 14 ∈ WSG := lkT1 130 rfl rfl
set_option maxRecDepth 20000 in
theorem ul_8_15 : u_lay RX8 TX8 15 ∈ WSG := lkT1 132 rfl rfl
theorem iw_8 : ∀ w ∈ u_ws RX8 TX8 16, w ∈ WSG := by
  intro w hw
  obtain ⟨k, hk, rfl⟩ := List.mem_map.mp hw
  have hk := List.mem_range.mp hk
  match k, hk with
  | 0, _ => exact ul_8_0
  | 1, _ => exact ul_8_1
  | 2, _ => exact ul_8_2
  | 3, _ => exact ul_8_3
  | 4, _ => exact ul_8_4
  | 5, _ => exact ul_8_5
  | 6, _ => exact ul_8_6
  | 7, _ => exact ul_8_7
  | 8, _ => exact ul_8_8
  | 9, _ => exact ul_8_9
  | 10, _ => exact ul_8_10
  | 11, _ => exact ul_8_11
  | 12, _ => exact ul_8_12
  | 13, _ => exact ul_8_13
  | 14, _ => exact ul_8_14
  | 15, _ => exact ul_8_15
  | k + 16, hk => exact absurd hk (by omega)
set_option maxRecDepth 20000 in
theorem ul_9_0 : u_lay RX9 TX9 0 ∈ WSG := lkT1 157 rfl rfl
set_option maxRecDepth 20000 in
theorem ul_9_1 : u_lay RX9 TX9 1 ∈ WSG := lkT1 159 rfl rfl
set_option maxRecDepth 20000 in
theorem ul_9_2 : u_lay RX9 TX9 2 ∈ WSG := lkT1 161 rfl rfl
set_option maxRecDepth 20000 in
theorem ul_9_3 : u_lay RX9 TX9 3 ∈ WSG := lkT1 163 rfl rfl
set_option maxRecDepth 20000 in
theorem ul_9_4 : u_lay RX9 TX9 4 ∈ WSG := lkT1 165 rfl rfl
theorem iw_9 : ∀ w ∈ u_ws RX9 TX9 5, w ∈ WSG := by
  intro w hw
  obtain ⟨k, hk, rfl⟩ := List.mem_map.mp hw
  have hk := List.mem_range.mp hk
  match k, hk with
  | 0, _ => exact ul_9_0
  | 1, _ => exact ul_9_1
  | 2, _ => exact ul_9_2
  | 3, _ => exact ul_9_3
  | 4, _ => exact ul_9_4
  | k + 5, hk => exact absurd hk (by omega)
set_option maxRecDepth 20000 in
theorem ul_10_0 : u_lay RX10 TX10 0 ∈ WSG := lkT2 196 rfl rfl
set_option maxRecDepth 20000 in
theorem ul_10_1 : u_lay RX10 TX10 1 ∈ WSG := lkT2 198 rfl rfl
set_option maxRecDepth 20000 in
theorem ul_10_2 : u_lay RX10 TX10 2 ∈ WSG := lkT2 200 rfl rfl
theorem iw_10 : ∀ w ∈ u_ws RX10 TX10 3, w ∈ WSG := by
  intro w hw
  obtain ⟨k, hk, rfl⟩ := List.mem_map.mp hw
  have hk := List.mem_range.mp hk
  match k, hk with
  | 0, _ => exact ul_10_0
  | 1, _ => exact ul_10_1
  | 2, _ => exact ul_10_2
  | k + 3, hk => exact absurd hk (by omega)
set_option maxRecDepth 20000 in
theorem ul_11_0 : u_lay RX11 TX11 0 ∈ WSG := lkT2 221 rfl rfl
set_option maxRecDepth 20000 in
theorem ul_11_1 : u_lay RX11 TX11 1 ∈ WSG := lkT2 223 rfl rfl
set_option maxRecDepth 20000 in
theorem ul_11_2 : u_lay RX11 TX11 2 ∈ WSG := lkT2 225 rfl rfl
set_option maxRecDepth 20000 in
theorem ul_11_3 : u_lay RX11 TX11 3 ∈ WSG := lkT2 227 rfl rfl
set_option maxRecDepth 20000 in
theorem ul_11_4 : u_lay RX11 TX11 4 ∈ WSG := lkT2 229 rfl rfl
set_option maxRecDepth 20000 in
theorem ul_11_5 : u_lay RX11 TX11 5 ∈ WSG := lkT2 231 rfl rfl
set_option maxRecDepth 20000 in
theorem ul_11_6 : u_lay RX11 TX11 6 ∈ WSG := lkT2 233 rfl rfl
set_option maxRecDepth 20000 in
theorem ul_11_7 : u_lay RX11 TX11 7 ∈ WSG := lkT2 235 rfl rfl
set_option maxRecDepth 20000 in
theorem ul_11_8 : u_lay RX11 TX11 8 ∈ WSG := lkT2 237 rfl rfl
set_option maxRecDepth 20000 in
theorem ul_11_9 : u_lay RX11 TX11 9 ∈ WSG := lkT2 239 rfl rfl
set_option maxRecDepth 20000 in
theorem ul_11_10 : u_lay RX11 TX11 10 ∈ WSG := lkT3 1 rfl rfl
set_option maxRecDepth 20000 in
theorem ul_11_11 : u_lay RX11 TX11 11 ∈ WSG := lkT3 3 rfl rfl
set_option maxRecDepth 20000 in
theorem ul_11_12 : u_lay RX11 TX11 12 ∈ WSG := lkT3 5 rfl rfl
set_option maxRecDepth 20000 in
theorem ul_11_13 : u_lay RX11 TX11 13 ∈ WSG := lkT3 7 rfl rfl
set_option maxRecDepth 20000 in
theorem ul_11_14 : u_lay RX11 TX11 14 ∈ WSG := lkT3 9 rfl rfl
set_option maxRecDepth 20000 in
theorem ul_11_15 : u_lay RX11 TX11 15 ∈ WSG := lkT3 11 rfl rfl
theorem iw_11 : ∀ w ∈ u_ws RX11 TX11 16, w ∈ WSG := by
  intro w hw
  obtain ⟨k, hk, rfl⟩ := List.mem_map.mp hw
  have hk := List.mem_range.mp hk
  match k, hk with
  | 0, _ => exact ul_11_0
  | 1, _ => exact ul_11_1
  | 2, _ => exact ul_11_2
  | 3, _ => exact ul_11_3
  | 4, _ => exact ul_11_4
  | 5, _ => exact ul_11_5
  | 6, _ => exact ul_11_6
  | 7, _ => exact ul_11_7
  | 8, _ => exact ul_11_8
  | 9, _ => exact ul_11_9
  | 10, _ => exact ul_11_10
  | 11, _ => exact ul_11_11
  | 12, _ => exact ul_11_12
  | 13, _ => exact ul_11_13
  | 14, _ => exact ul_11_14
  | 15, _ => exact ul_11_15
  | k + 16, hk => exact absurd hk (by omega)
set_option maxRecDepth 20000 in
theorem ul_12_0 : u_lay RX12 TX12 0 ∈ WSG := lkT7 181 rfl rfl
set_option maxRecDepth 20000 in
theorem ul_12_1 : u_lay RX12 TX12 1 ∈ WSG := lkT7 183 rfl rfl
set_option maxRecDepth 20000 in
theorem ul_12_2 : u_lay RX12 TX12 2 ∈ WSG := lkT7 185 rfl rfl
set_option maxRecDepth 20000 in
theorem ul_12_3 : u_lay RX12 TX12 3 ∈ WSG := lkT7 187 rfl rfl
set_option maxRecDepth 20000 in
theorem ul_12_4 : u_lay RX12 TX12 4 ∈ WSG := lkT7 189 rfl rfl
set_option maxRecDepth 20000 in
theorem ul_12_5 : u_lay RX12 TX12 5 ∈ WSG := lkT7 191 rfl rfl
set_option maxRecDepth 20000 in
theorem ul_12_6 : u_lay RX12 TX12 6 ∈ WSG := lkT7 193 rfl rfl
set_option maxRecDepth 20000 in
theorem ul_12_7 : u_lay RX12 TX12 7 ∈ WSG := lkT7 195 rfl rfl
set_option maxRecDepth 20000 in
theorem ul_12_8 : u_lay RX12 TX12 8 ∈ WSG := lkT7 197 rfl rfl
set_option maxRecDepth 20000 in
theorem ul_12_9 : u_lay RX12 TX12 9 ∈ WSG := lkT7 199 rfl rfl
set_option maxRecDepth 20000 in
theorem ul_12_10 : u_lay RX12 TX12 10 ∈ WSG := lkT7 201 rfl rfl
set_option maxRecDepth 20000 in
theorem ul_12_11 : u_lay RX12 TX12 11 ∈ WSG := lkT7 203 rfl rfl
set_option maxRecDepth 20000 in
theorem ul_12_12 : u_lay RX12 TX12 12 ∈ WSG := lkT7 205 rfl rfl
set_option maxRecDepth 20000 in
theorem ul_12_13 : u_lay RX12 TX12 13 ∈ WSG := lkT7 207 rfl rfl
set_option maxRecDepth 20000 in
theorem ul_12_14 : u_lay RX12 TX12 14 ∈ WSG := lkT7 209 rfl rfl
set_option maxRecDepth 20000 in
theorem ul_12_15 : u_lay RX12 TX12 15 ∈ WSG := lkT7 211 rfl rfl
set_option maxRecDepth 20000 in
theorem ul_12_16 : u_lay RX12 TX12 16 ∈ WSG := lkT7 213 rfl rfl
set_option maxRecDepth 20000 in
theorem ul_12_17 : u_lay RX12 TX12 17 ∈ WSG := lkT7 215 rfl rfl
set_option maxRecDepth 20000 in
theorem ul_12_18 : u_lay RX12 TX12 18 ∈ WSG := lkT7 217 rfl rfl
set_option maxRecDepth 20000 in
theorem ul_12_19 : u_lay RX12 TX12 19 ∈ WSG := lkT7 219 rfl rfl
set_option maxRecDepth 20000 in
theorem ul_12_20 : u_lay RX12 TX12 20 ∈ WSG := lkT7 221 rfl rfl
set_option maxRecDepth 20000 in
theorem ul_12_21 : u_lay RX12 TX12 21 ∈ WSG := lkT7 223 rfl rfl
set_option maxRecDepth 20000 in
theorem ul_12_22 : u_lay RX12 TX12 22 ∈ WSG := lkT7 225 rfl rfl
set_option maxRecDepth 20000 in
theorem ul_12_23 : u_lay RX12 TX12 23 ∈ WSG := lkT7 227 rfl rfl
set_option maxRecDepth 20000 in
theorem ul_12_24 : u_lay RX12 TX12 24 ∈ WSG := lkT7 229 rfl rfl
set_option maxRecDepth 20000 in
theorem ul_12_25 : u_lay RX12 TX12 25 ∈ WSG := lkT7 231 rfl rfl
set_option maxRecDepth 20000 in
theorem ul_12_26 : u_lay RX12 TX12 26 ∈ WSG := lkT7 233 rfl rfl
set_option maxRecDepth 20000 in
theorem ul_12_27 : u_lay RX12 TX12 27 ∈ WSG := lkT7 235 rfl rfl
set_option maxRecDepth 20000 in
theorem ul_12_28 : u_lay RX12 TX12 28 ∈ WSG := lkT7 237 rfl rfl
set_option maxRecDepth 20000 in
theorem ul_12_29 : u_lay RX12 TX12 29 ∈ WSG := lkT7 239 rfl rfl
set_option maxRecDepth 20000 in
theorem ul_12_30 : u_lay RX12 TX12 30 ∈ WSG := lkT8 1 rfl rfl
set_option maxRecDepth 20000 in
theorem ul_12_31 : u_lay RX12 TX12 31 ∈ WSG := lkT8 3 rfl rfl
set_option maxRecDepth 20000 in
theorem ul_12_32 : u_lay RX12 TX12 32 ∈ WSG := lkT8 5 rfl rfl
set_option maxRecDepth 20000 in
theorem ul_12_33 : u_lay RX12 TX12 33 ∈ WSG := lkT8 7 rfl rfl
set_option maxRecDepth 20000 in
theorem ul_12_34 : u_lay RX12 TX12 34 ∈ WSG := lkT8 9 rfl rfl
set_option maxRecDepth 20000 in
theorem ul_12_35 : u_lay RX12 TX12 35 ∈ WSG := lkT8 11 rfl rfl
set_option maxRecDepth 20000 in
theorem ul_12_36 : u_lay RX12 TX12 36 ∈ WSG := lkT8 13 rfl rfl
set_option maxRecDepth 20000 in
theorem ul_12_37 : u_lay RX12 TX12 37 ∈ WSG := lkT8 15 rfl rfl
set_option maxRecDepth 20000 in
theorem ul_12_38 : u_lay RX12 TX12 38 ∈ WSG := lkT8 17 rfl rfl
theorem iw_12 : ∀ w ∈ u_ws RX12 TX12 39, w ∈ WSG := by
  intro w hw
  obtain ⟨k, hk, rfl⟩ := List.mem_map.mp hw
  have hk := List.mem_range.mp hk
  match k, hk with
  | 0, _ => exact ul_12_0
  | 1, _ => exact ul_12_1
  | 2, _ => exact ul_12_2
  | 3, _ => exact ul_12_3
  | 4, _ => exact ul_12_4
  | 5, _ => exact ul_12_5
  | 6, _ => exact ul_12_6
  | 7, _ => exact ul_12_7
  | 8, _ => exact ul_12_8
  | 9, _ => exact ul_12_9
  | 10, _ => exact ul_12_10
  | 11, _ => exact ul_12_11
  | 12, _ => exact ul_12_12
  | 13, _ => exact ul_12_13
  | 14, _ => exact ul_12_14
  | 15, _ => exact ul_12_15
  | 16, _ => exact ul_12_16
  | 17, _ => exact ul_12_17
  | 18, _ => exact ul_12_18
  | 19, _ => exact ul_12_19
  | 20, _ => exact ul_12_20
  | 21, _ => exact ul_12_21
  | 22, _ => exact ul_12_22
  | 23, _ => exact ul_12_23
  | 24, _ => exact ul_12_24
  | 25, _ => exact ul_12_25
  | 26, _ => exact ul_12_26
  | 27, _ => exact ul_12_27
  | 28, _ => exact ul_12_28
  | 29, _ => exact ul_12_29
  | 30, _ => exact ul_12_30
  | 31, _ => exact ul_12_31
  | 32, _ => exact ul_12_32
  | 33, _ => exact ul_12_33
  | 34, _ => exact ul_12_34
  | 35, _ => exact ul_12_35
  | 36, _ => exact ul_12_36
  | 37, _ => exact ul_12_37
  | 38, _ => exact ul_12_38
  | k + 39, hk => exact absurd hk (by omega)
end
section
/-! the fixed cells: kind and length of each, its references; the field types of the classes -/
def NC : Nat := 177
def kdL : List (Nat × Nat) := [(11, 0), (14, 900), (15, 3), (8, 0), (13, 10), (13, 10), (13, 11), (13, 900), (8, 0), (13, 10), (13, 10), (13, 11), (13, 900), (6, 0), (13, 900), (9, 0), (0, 0), (13, 10), (13, 6), (17, 10), (13, 17), (13, 17), (13, 17), (13, 17), (13, 17), (13, 17), (13, 17), (13, 17), (13, 17), (13, 17), (3, 0), (13, 4096), (13, 900), (2, 0), (13, 4096), (13, 1024), (13, 1024), (7, 0), (13, 10), (13, 10), (5, 0), (13, 12), (1, 0), (13, 5), (13, 5), (13, 32), (17, 25), (13, 14), (13, 14), (13, 14), (13, 14), (13, 14), (13, 14), (13, 14), (13, 14), (13, 14), (13, 14), (13, 14), (13, 14), (13, 14), (13, 14), (13, 14), (13, 14), (13, 14), (13, 14), (13, 14), (13, 14), (13, 14), (13, 14), (13, 14), (13, 14), (13, 14), (13, 25), (4, 0), (13, 6), (18, 7), (16, 7), (16, 7), (16, 7), (16, 7), (16, 7), (16, 7), (16, 7), (16, 7), (19, 4), (10, 0), (16, 30), (10, 0), (16, 30), (10, 0), (16, 30), (10, 0), (16, 30), (20, 3), (21, 3), (8, 0), (13, 10), (13, 10), (13, 11), (13, 900), (0, 0), (13, 10), (13, 6), (17, 10), (13, 17), (13, 17), (13, 17), (13, 17), (13, 17), (13, 17), (13, 17), (13, 17), (13, 17), (13, 17), (8, 0), (13, 10), (13, 10), (13, 11), (13, 900), (0, 0), (13, 10), (13, 6), (17, 10), (13, 17), (13, 17), (13, 17), (13, 17), (13, 17), (13, 17), (13, 17), (13, 17), (13, 17), (13, 17), (8, 0), (13, 10), (13, 10), (13, 11), (13, 900), (0, 0), (13, 10), (13, 6), (17, 10), (13, 17), (13, 17), (13, 17), (13, 17), (13, 17), (13, 17), (13, 17), (13, 17), (13, 17), (13, 17), (12, 0), (13, 1200), (13, 1200), (13, 3600), (13, 17), (15, 3), (13, 900), (15, 40960), (13, 4096), (13, 64), (13, 4096), (15, 1024), (13, 1024), (13, 10), (13, 10), (13, 10), (13, 3), (13, 3), (16, 2496), (13, 25), (13, 25), (16, 49), (13, 4), (13, 4), (16, 120), (22, 1)]
def rtL : List (List Nat) := [[1, 0, 3, 8, 13, 16, 30, 33, 37, 40, 42, 73, 84, 93, 94, 2], [], [], [0, 0, 0, 0, 0, 0, 0, 0, 0, 0, 0, 0, 4, 5, 6, 7], [], [], [], [], [0, 0, 0, 0, 0, 0, 0, 0, 0, 0, 0, 0, 9, 10, 11, 12], [], [], [], [], [15, 8, 14], [], [1], [0, 17, 18, 0, 0, 19], [], [], [20, 21, 22, 23, 24, 25, 26, 27, 28, 29], [], [], [], [], [], [], [], [], [], [], [3, 31, 32], [], [], [3, 16, 30, 34, 0, 35, 36], [], [], [], [3, 16, 33, 38, 39], [], [], [3, 41], [], [3, 33, 43, 44, 45, 46, 72], [], [], [], [47, 48, 49, 50, 51, 52, 53, 54, 55, 56, 57, 58, 59, 60, 61, 62, 63, 64, 65, 66, 67, 68, 69, 70, 71], [], [], [], [], [], [], [], [], [], [], [], [], [], [], [], [], [], [], [], [], [], [], [], [], [], [], [74, 0, 75, 83], [], [76, 77, 78, 79, 80, 81, 82], [], [], [], [], [], [], [], [], [85, 87, 89, 91], [0, 0, 86], [], [0, 0, 88], [], [0, 0, 90], [], [0, 0, 92], [], [95, 114, 133], [100, 119, 138], [0, 0, 0, 0, 0, 0, 0, 0, 0, 0, 0, 0, 96, 97, 98, 99], [], [], [], [], [0, 101, 102, 0, 0, 103], [], [], [104, 105, 106, 107, 108, 109, 110, 111, 112, 113], [], [], [], [], [], [], [], [], [], [], [0, 0, 0, 0, 0, 0, 0, 0, 0, 0, 0, 0, 115, 116, 117, 118], [], [], [], [], [0, 120, 121, 0, 0, 122], [], [], [123, 124, 125, 126, 127, 128, 129, 130, 131, 132], [], [], [], [], [], [], [], [], [], [], [0, 0, 0, 0, 0, 0, 0, 0, 0, 0, 0, 0, 134, 135, 136, 137], [], [], [], [], [0, 139, 140, 0, 0, 141], [], [], [142, 143, 144, 145, 146, 147, 148, 149, 150, 151], [], [], [], [], [], [], [], [], [], [], [153, 154, 155, 156, 157, 0, 158, 0, 0, 0, 0, 0, 0, 0, 0, 0, 0, 0, 159, 160, 161, 162, 163, 164, 165, 166, 167, 168, 169, 0, 170, 171, 172, 0, 0, 173, 174, 175, 176], [], [], [], [], [], [], [], [], [], [], [], [], [], [], [], [], [], [], [], [], [], [], [], []]
def ftL : List (List Nat) := [[0, 2, 2, 0, 0, 2], [2, 2, 2, 2, 2, 2, 2, 0, 0], [2, 2, 2, 2, 0, 2, 2, 0, 0], [2, 2, 2], [2, 0, 2, 2], [2, 2, 0, 0, 0, 0, 0], [2, 2, 2, 0, 0, 0, 0, 0, 0, 0, 0, 0], [2, 2, 2, 2, 2, 0, 0, 0], [0, 0, 0, 0, 0, 0, 0, 0, 0, 0, 0, 0, 2, 2, 2, 2], [2, 0, 0, 0, 0], [0, 0, 2], [2, 0, 2, 2, 2, 2, 2, 2, 2, 2, 2, 2, 2, 2, 2, 2], [2, 2, 2, 2, 2, 0, 2, 0, 0, 0, 0, 0, 0, 0, 0, 0, 0, 0, 2, 2, 2, 2, 2, 2, 2, 2, 2, 2, 2, 0, 2, 2, 2, 0, 0, 2, 2, 2, 2]]
def kd (i : Nat) : Nat × Nat := kdL.getD i (99, 0)
def rt (i j : Nat) : Nat := (rtL.getD i []).getD j 0
def ft (c : Nat) : List Nat := ftL.getD c []
/-! ===== the pure heap, and how the machine's heap holds it ===== -/
abbrev PH : Type := (Nat → Nat → Int32) × (Nat → Nat → Int64)
def pI (h : PH) (i j : Nat) (v : Int32) : PH := (fun a b => if a = i ∧ b = j then v else h.1 a b, h.2)
def pL (h : PH) (i j : Nat) (v : Int64) : PH := (h.1, fun a b => if a = i ∧ b = j then v else h.2 a b)
def tv (ad : Nat → Nat) : Value → Value
  | .ref i => .ref (ad i)
  | v => v
theorem tv_cat (ad : Nat → Nat) (v : Value) : (tv ad v).category = v.category := by cases v <;> rfl
abbrev tq (ad : Nat → Nat) (q : Nat × Value) : Nat × Value := (q.1, tv ad q.2)
def fv (ad : Nat → Nat) (h : PH) (i j t : Nat) : Value := match t with
  | 0 => .int (h.1 i j)
  | 1 => .long (h.2 i j)
  | _ => .ref (ad (rt i j))
def fl (ad : Nat → Nat) (h : PH) (i : Nat) (ts : List Nat) : List Value := (List.range ts.length).map (fun j => fv ad h i j (ts.getD j 0))
theorem fl_get {ad : Nat → Nat} {h : PH} {i k : Nat} {ts : List Nat} (hk : k < ts.length) : (fl ad h i ts)[k]? = some (fv ad h i k (ts.getD k 0)) := by
  simp [fl, hk]
theorem fl_len {ad : Nat → Nat} {h : PH} {i : Nat} {ts : List Nat} : (fl ad h i ts).length = ts.length := by simp [fl]
/-- how many cells the world has: the law's own row 'out' (cell 177, kind 22) comes last; before it is made there is none -/
def nc (cA : Nat → ClassId) : Nat := if cA 23 = 0 then NC else NC + 1
theorem nc_le {cA : Nat → ClassId} : NC ≤ nc cA := by unfold nc; split <;> omega
theorem nc_le2 {cA : Nat → ClassId} : nc cA ≤ NC + 1 := by unfold nc; split <;> omega
def enk (cA : Nat → ClassId) (ad : Nat → Nat) (h : PH) (i : Nat) (k : Nat × Nat) : va_E :=
  if k.1 < 13 then .inr (k.1, fl ad h i (ft k.1))
  else if k.1 < 16 then .inl (cA k.1, k.2, .inl (h.1 i))
  else if k.1 = 16 then .inl (cA k.1, k.2, .inr (.inl (h.2 i)))
  else if k.1 = 22 then .inl (cA 16, k.2, .inr (.inl (h.2 i)))
  else .inl (cA k.1, k.2, .inr (.inr (.inr (.inr (fun j => some (ad (rt i j)))))))
def en (cA : Nat → ClassId) (ad : Nat → Nat) (h : PH) (i : Nat) : va_E := enk cA ad h i (kd i)
def wd (cA : Nat → ClassId) (ad : Nat → Nat) (h : PH) : va_W := (List.range (nc cA)).map (fun i => (ad i, en cA ad h i))
theorem wd_get {cA : Nat → ClassId} {ad : Nat → Nat} {h : PH} {i : Nat} (hi : i < nc cA) : (wd cA ad h)[i]? = some (ad i, en cA ad h i) := by
  simp [wd, hi]
theorem wd_lt {cA : Nat → ClassId} {ad : Nat → Nat} {h : PH} {i : Nat} {q : Nat × va_E} (hq : (wd cA ad h)[i]? = some q) : i < nc cA ∧ q = (ad i, en cA ad h i) := by
  have hl : i < (wd cA ad h).length := (List.getElem?_eq_some_iff.mp hq).1
  have hi : i < nc cA := by simpa [wd] using hl
  exact ⟨hi, (Option.some.inj (hq.symm.trans (wd_get hi)))⟩
theorem wd_set {cA : Nat → ClassId} {ad : Nat → Nat} {h h' : PH} {i : Nat} {e : va_E} (he : en cA ad h' i = e) (ho : ∀ a, a ≠ i → en cA ad h' a = en cA ad h a) : (wd cA ad h).set i (ad i, e) = wd cA ad h' := by
  apply List.ext_getElem?
  intro k
  by_cases hk : k < nc cA
  · by_cases hki : k = i
    · subst hki
      rw [List.getElem?_set_self (by simp [wd, hk]), wd_get hk, he]
    · rw [List.getElem?_set_ne (Ne.symm hki), wd_get hk, wd_get hk, ho k hki]
  · have h1 : ((wd cA ad h).set i (ad i, e))[k]? = none := by
      rw [List.getElem?_eq_none_iff]; simp [wd]; omega
    have h2 : (wd cA ad h')[k]? = none := by
      rw [List.getElem?_eq_none_iff]; simp [wd]; omega
    rw [h1, h2]
theorem kd_lt {i c : Nat} (h : (kd i).1 = c) (hc : c < 22) : i < NC := by
  by_cases hi : i < NC
  · exact hi
  · exfalso
    by_cases h2 : i = NC
    · subst h2
      have : (kd NC).1 = 22 := by decide +kernel
      omega
    · have h1 : kdL.length ≤ i := by
        have : kdL.length = NC + 1 := by decide +kernel
        omega
      have h2 : kd i = (99, 0) := by
        unfold kd
        rw [List.getD_eq_getElem?_getD, List.getElem?_eq_none_iff.mpr h1]
        rfl
      rw [h2] at h
      simp at h
      omega
theorem kd_lt2 {i c n : Nat} (h : kd i = (c, n)) (hc : c < 22) : i < NC := kd_lt (c := c) (by rw [h]) hc
theorem kc_lt {cA : Nat → ClassId} {i c : Nat} (h : (kd i).1 = c) (hc : c < 22) : i < nc cA := Nat.lt_of_lt_of_le (kd_lt h hc) nc_le
theorem kc_lt2 {cA : Nat → ClassId} {i c n : Nat} (h : kd i = (c, n)) (hc : c < 22) : i < nc cA := Nat.lt_of_lt_of_le (kd_lt2 h hc) nc_le
theorem fv_other {ad : Nat → Nat} {h h' : PH} {a j t : Nat} (h1 : h'.1 a j = h.1 a j) (h2 : h'.2 a j = h.2 a j) : fv ad h' a j t = fv ad h a j t := by
  unfold fv
  split <;> simp [h1, h2]
theorem en_other {cA : Nat → ClassId} {ad : Nat → Nat} {h h' : PH} {a : Nat} (h1 : ∀ j, h'.1 a j = h.1 a j) (h2 : ∀ j, h'.2 a j = h.2 a j) : en cA ad h' a = en cA ad h a := by
  have e1 : h'.1 a = h.1 a := funext h1
  have e2 : h'.2 a = h.2 a := funext h2
  unfold en enk
  rw [e1, e2]
  have e3 : fl ad h' a (ft (kd a).1) = fl ad h a (ft (kd a).1) := by
    unfold fl
    apply List.map_congr_left
    intro j _
    exact fv_other (h1 j) (h2 j)
  rw [e3]
theorem pI_ne {h : PH} {i j : Nat} {v : Int32} {a : Nat} (hne : a ≠ i) (b : Nat) : (pI h i j v).1 a b = h.1 a b := by simp [pI, hne]
theorem pL_ne {h : PH} {i j : Nat} {v : Int64} {a : Nat} (hne : a ≠ i) (b : Nat) : (pL h i j v).2 a b = h.2 a b := by simp [pL, hne]
theorem pI_oth {cA : Nat → ClassId} {ad : Nat → Nat} {h : PH} {i j : Nat} {v : Int32} : ∀ a, a ≠ i → en cA ad (pI h i j v) a = en cA ad h a := fun _ hne => en_other (pI_ne hne) (fun _ => rfl)
theorem pL_oth {cA : Nat → ClassId} {ad : Nat → Nat} {h : PH} {i j : Nat} {v : Int64} : ∀ a, a ≠ i → en cA ad (pL h i j v) a = en cA ad h a := fun _ hne => en_other (fun _ => rfl) (pL_ne hne)
theorem en_obj {cA : Nat → ClassId} {ad : Nat → Nat} {h : PH} {i c : Nat} (hk : (kd i).1 = c) (hc : c < 13) : en cA ad h i = .inr (c, fl ad h i (ft c)) := by
  subst hk
  unfold en enk
  rw [if_pos hc]
theorem en_ints {cA : Nat → ClassId} {ad : Nat → Nat} {h : PH} {i c n : Nat} (hk : kd i = (c, n)) (h1 : ¬ c < 13) (h2 : c < 16) : en cA ad h i = .inl (cA c, n, .inl (h.1 i)) := by
  unfold en enk
  rw [hk, if_neg h1, if_pos h2]
theorem en_longs {cA : Nat → ClassId} {ad : Nat → Nat} {h : PH} {i n : Nat} (hk : kd i = (16, n)) : en cA ad h i = .inl (cA 16, n, .inr (.inl (h.2 i))) := by
  unfold en enk
  rw [hk]
  rfl
theorem en_refs {cA : Nat → ClassId} {ad : Nat → Nat} {h : PH} {i c n : Nat} (hk : kd i = (c, n)) (h1 : 16 < c) (h2 : c < 22) : en cA ad h i = .inl (cA c, n, .inr (.inr (.inr (.inr (fun j => some (ad (rt i j))))))) := by
  unfold en enk
  rw [hk, if_neg (by show ¬ c < 13; omega), if_neg (by show ¬ c < 16; omega), if_neg (by show ¬ c = 16; omega), if_neg (by show ¬ c = 22; omega)]
theorem en_out {cA : Nat → ClassId} {ad : Nat → Nat} {h : PH} : en cA ad h NC = .inl (cA 16, 1, .inr (.inl (h.2 NC))) := by
  have hk : kd NC = (22, 1) := by decide +kernel
  unfold en enk
  rw [hk]
  rfl
theorem fl_pI {ad : Nat → Nat} {h : PH} {i k : Nat} {v : Int32} {ts : List Nat} (ht : ts.getD k 0 = 0) : (fl ad h i ts).set k (.int v) = fl ad (pI h i k v) i ts := by
  apply List.ext_getElem?
  intro j
  by_cases hj : j < ts.length
  · by_cases hjk : j = k
    · subst hjk
      rw [List.getElem?_set_self (by rw [fl_len]; exact hj), fl_get hj, ht]
      simp [fv, pI]
    · rw [List.getElem?_set_ne (Ne.symm hjk), fl_get hj, fl_get hj]
      have e9 : fv ad (pI h i k v) i j (ts.getD j 0) = fv ad h i j (ts.getD j 0) := fv_other (by simp [pI, hjk]) rfl
      rw [e9]
  · rw [List.getElem?_eq_none_iff.mpr (by simp [fl]; omega), List.getElem?_eq_none_iff.mpr (by simp [fl]; omega)]
theorem fl_pL {ad : Nat → Nat} {h : PH} {i k : Nat} {v : Int64} {ts : List Nat} (ht : ts.getD k 0 = 1) : (fl ad h i ts).set k (.long v) = fl ad (pL h i k v) i ts := by
  apply List.ext_getElem?
  intro j
  by_cases hj : j < ts.length
  · by_cases hjk : j = k
    · subst hjk
      rw [List.getElem?_set_self (by rw [fl_len]; exact hj), fl_get hj, ht]
      simp [fv, pL]
    · rw [List.getElem?_set_ne (Ne.symm hjk), fl_get hj, fl_get hj]
      have e9 : fv ad (pL h i k v) i j (ts.getD j 0) = fv ad h i j (ts.getD j 0) := fv_other rfl (by simp [pL, hjk])
      rw [e9]
  · rw [List.getElem?_eq_none_iff.mpr (by simp [fl]; omega), List.getElem?_eq_none_iff.mpr (by simp [fl]; omega)]
theorem upd_pI {h : PH} {i k : Nat} {v : Int32} : upd (h.1 i) k v = (pI h i k v).1 i := by
  funext j
  by_cases hj : j = k <;> simp [upd, pI, hj]
theorem upd_pL {h : PH} {i k : Nat} {v : Int64} : vp_updL (h.2 i) k v = (pL h i k v).2 i := by
  funext j
  by_cases hj : j = k <;> simp [vp_updL, pL, hj]
def tyl (cA : Nat → ClassId) : List (ClassId × FieldType) := [(cA 13, .int), (cA 14, .byte), (cA 15, .boolean), (cA 16, .long), (cA 17, .array .int), (cA 18, .array .long), (cA 19, .object "RainWishes$Tray"), (cA 20, .object "RainWishes$Sky"), (cA 21, .object "RainWishes$Book")]
theorem wd_D {cA : Nat → ClassId} {ad : Nat → Nat} {h : PH} {A : Nat → Prop} (h1 : ∀ i j, i < nc cA → j < nc cA → ad i = ad j → i = j) (h2 : ∀ i, i < nc cA → A (ad i)) : va_D A (wd cA ad h) := by
  refine ⟨fun i j p q hp hq e => ?_, fun k q hq => ?_⟩
  · obtain ⟨a1, rfl⟩ := wd_lt hp
    obtain ⟨a2, rfl⟩ := wd_lt hq
    exact h1 i j a1 a2 e
  · obtain ⟨a1, rfl⟩ := wd_lt hq
    exact h2 k a1
end
section
/-! what stands outside of the world and never changes: String constants, a static array, statics of the JDK -/
def NS : Nat := 66
def skL : List (String × Nat × String × Nat) := [("RainWishes", 118, "not so many bytes on the tape", 0), ("RainWishes$Tokens", 33, ";:+-*()[]=<>", 1), ("RainWishes$Parser", 87, "sky", 2), ("RainWishes$Parser", 113, ";", 3), ("RainWishes$Parser", 115, "wish", 4), ("RainWishes$Parser", 131, "by", 5), ("RainWishes$Parser", 138, "weight", 6), ("RainWishes$Parser", 139, "must", 7), ("RainWishes$Parser", 162, ":", 8), ("RainWishes$Parser", 120, "clouds", 9), ("RainWishes$Parser", 122, "wind", 10), ("RainWishes$Parser", 168, "not", 11), ("RainWishes$Parser", 173, "[", 12), ("RainWishes$Parser", 175, "(", 13), ("RainWishes$Parser", 187, "all", 14), ("RainWishes$Parser", 192, "wet", 15), ("RainWishes$Parser", 194, "on", 16), ("RainWishes$Parser", 196, "of", 17), ("RainWishes$Parser", 228, "+", 18), ("RainWishes$Parser", 230, "-", 19), ("RainWishes$Parser", 232, "*", 20), ("RainWishes$Parser", 211, ")", 21), ("RainWishes$Parser", 234, "=", 22), ("RainWishes$Parser", 236, "<", 23), ("RainWishes$Parser", 238, ">", 24), ("RainWishes$Parser", 219, "and", 25), ("RainWishes$Parser", 221, "or", 26), ("RainWishes$Parser", 223, "]", 27), ("RainWishes", 203, "no such wish", 28), ("RainWishes", 175, "another what", 29), ("RainWishes", 211, "others than cells", 30), ("RainWishes", 213, "others than open wishes", 31), ("RainWishes", 206, "the wish is not open", 32), ("RainWishes", 275, "more than four cells", 33), ("RainWishes", 219, "not hundredths", 34), ("RainWishes", 217, "no such rule", 35), ("RainWishes", 215, "no such person", 36), ("RainWishes", 221, "no such tray", 37), ("RainWishes", 228, "the tray is missing", 38), ("RainWishes", 315, "no parishes", 39), ("RainWishes", 321, "numbers that are no weathers", 40), ("RainWishes", 336, "numbers that say nothing", 41), ("RainWishes", 361, "not so many thanks", 42), ("RainWishes", 366, "the wish is open", 43), ("RainWishes", 371, "not so many deeds", 44), ("RainWishes", 380, "not so many times", 45), ("RainWishes", 400, "not so many nights or clouds", 46), ("RainWishes", 403, "numbers that are no weights", 47), ("RainWishes", 408, "no such sort, or not so many", 48), ("RainWishes", 414, "no such place", 49), ("RainWishes", 437, "no such image", 50), ("RainWishes", 435, "no such image was made", 51), ("RainWishesModel", 236, "sky", 52), ("RainWishesModel", 221, "clouds", 53), ("RainWishesModel", 223, "wind", 54), ("RainWishesModel", 225, "wish", 55), ("RainWishesModel", 211, "by", 56), ("RainWishesModel", 217, "weight", 57), ("RainWishesModel", 219, "must", 58), ("RainWishesModel", 176, "not", 59), ("RainWishesModel", 199, "wet", 60), ("RainWishesModel", 205, "of", 61), ("RainWishesModel", 207, "on", 62), ("RainWishesModel", 209, "all", 63), ("RainWishesModel", 174, "and", 64), ("RainWishesModel", 166, "or", 65)]
def sbL : List (List Int32) := [[110, 111, 116, 32, 115, 111, 32, 109, 97, 110, 121, 32, 98, 121, 116, 101, 115, 32, 111, 110, 32, 116, 104, 101, 32, 116, 97, 112, 101], [59, 58, 43, 45, 42, 40, 41, 91, 93, 61, 60, 62], [115, 107, 121], [59], [119, 105, 115, 104], [98, 121], [119, 101, 105, 103, 104, 116], [109, 117, 115, 116], [58], [99, 108, 111, 117, 100, 115], [119, 105, 110, 100], [110, 111, 116], [91], [40], [97, 108, 108], [119, 101, 116], [111, 110], [111, 102], [43], [45], [42], [41], [61], [60], [62], [97, 110, 100], [111, 114], [93], [110, 111, 32, 115, 117, 99, 104, 32, 119, 105, 115, 104], [97, 110, 111, 116, 104, 101, 114, 32, 119, 104, 97, 116], [111, 116, 104, 101, 114, 115, 32, 116, 104, 97, 110, 32, 99, 101, 108, 108, 115], [111, 116, 104, 101, 114, 115, 32, 116, 104, 97, 110, 32, 111, 112, 101, 110, 32, 119, 105, 115, 104, 101, 115], [116, 104, 101, 32, 119, 105, 115, 104, 32, 105, 115, 32, 110, 111, 116, 32, 111, 112, 101, 110], [109, 111, 114, 101, 32, 116, 104, 97, 110, 32, 102, 111, 117, 114, 32, 99, 101, 108, 108, 115], [110, 111, 116, 32, 104, 117, 110, 100, 114, 101, 100, 116, 104, 115], [110, 111, 32, 115, 117, 99, 104, 32, 114, 117, 108, 101], [110, 111, 32, 115, 117, 99, 104, 32, 112, 101, 114, 115, 111, 110], [110, 111, 32, 115, 117, 99, 104, 32, 116, 114, 97, 121], [116, 104, 101, 32, 116, 114, 97, 121, 32, 105, 115, 32, 109, 105, 115, 115, 105, 110, 103], [110, 111, 32, 112, 97, 114, 105, 115, 104, 101, 115], [110, 117, 109, 98, 101, 114, 115, 32, 116, 104, 97, 116, 32, 97, 114, 101, 32, 110, 111, 32, 119, 101, 97, 116, 104, 101, 114, 115], [110, 117, 109, 98, 101, 114, 115, 32, 116, 104, 97, 116, 32, 115, 97, 121, 32, 110, 111, 116, 104, 105, 110, 103], [110, 111, 116, 32, 115, 111, 32, 109, 97, 110, 121, 32, 116, 104, 97, 110, 107, 115], [116, 104, 101, 32, 119, 105, 115, 104, 32, 105, 115, 32, 111, 112, 101, 110], [110, 111, 116, 32, 115, 111, 32, 109, 97, 110, 121, 32, 100, 101, 101, 100, 115], [110, 111, 116, 32, 115, 111, 32, 109, 97, 110, 121, 32, 116, 105, 109, 101, 115], [110, 111, 116, 32, 115, 111, 32, 109, 97, 110, 121, 32, 110, 105, 103, 104, 116, 115, 32, 111, 114, 32, 99, 108, 111, 117, 100, 115], [110, 117, 109, 98, 101, 114, 115, 32, 116, 104, 97, 116, 32, 97, 114, 101, 32, 110, 111, 32, 119, 101, 105, 103, 104, 116, 115], [110, 111, 32, 115, 117, 99, 104, 32, 115, 111, 114, 116, 44, 32, 111, 114, 32, 110, 111, 116, 32, 115, 111, 32, 109, 97, 110, 121], [110, 111, 32, 115, 117, 99, 104, 32, 112, 108, 97, 99, 101], [110, 111, 32, 115, 117, 99, 104, 32, 105, 109, 97, 103, 101], [110, 111, 32, 115, 117, 99, 104, 32, 105, 109, 97, 103, 101, 32, 119, 97, 115, 32, 109, 97, 100, 101], [115, 107, 121], [99, 108, 111, 117, 100, 115], [119, 105, 110, 100], [119, 105, 115, 104], [98, 121], [119, 101, 105, 103, 104, 116], [109, 117, 115, 116], [110, 111, 116], [119, 101, 116], [111, 102], [111, 110], [97, 108, 108], [97, 110, 100], [111, 114]]
def sb (i : Nat) : List Int32 := sbL.getD i []
def slen (i : Nat) : Nat := (sb i).length
def tgL : List Int32 := [0, 0, 1, 2, 3, 4, 4, 4, 5, 5, 6]
abbrev sfD : String := "Ljava/util/function/BiFunction;"
abbrev exC : List String := ["java/lang/IllegalArgumentException", "java/util/NoSuchElementException", "java/lang/IllegalStateException", "java/lang/IndexOutOfBoundsException"]
abbrev exD : List MethodName := [⟨"java/lang/RuntimeException", "<init>", "(Ljava/lang/String;)V"⟩, ⟨"java/lang/Exception", "<init>", "(Ljava/lang/String;)V"⟩, ⟨"java/lang/Throwable", "<init>", "(Ljava/lang/String;)V"⟩]
abbrev ncL : List (String × String) := [("java/lang/IllegalArgumentException", "java/util/NoSuchElementException"), ("java/lang/IllegalArgumentException", "java/lang/IllegalStateException"), ("java/lang/IllegalArgumentException", "java/lang/IndexOutOfBoundsException"), ("java/util/NoSuchElementException", "java/lang/IllegalArgumentException"), ("java/util/NoSuchElementException", "java/lang/IllegalStateException"), ("java/util/NoSuchElementException", "java/lang/IndexOutOfBoundsException"), ("java/lang/IllegalStateException", "java/lang/IllegalArgumentException"), ("java/lang/IllegalStateException", "java/util/NoSuchElementException"), ("java/lang/IllegalStateException", "java/lang/IndexOutOfBoundsException"), ("java/lang/IndexOutOfBoundsException", "java/lang/IllegalArgumentException"), ("java/lang/IndexOutOfBoundsException", "java/util/NoSuchElementException"), ("java/lang/IndexOutOfBoundsException", "java/lang/IllegalStateException")]
def RO (ad : Nat → Nat) (A : Nat → Prop) (U : State) (H : Heap) : Prop :=
  (∀ i, i < NS → va_O "java/lang/String" (ad (200 + i)) A U H ∧ va_OF "java/lang/String" "coder" "B" (.int 0) (ad (200 + i)) A U H ∧ va_OF "java/lang/String" "value" "[B" (.ref (ad (300 + i))) (ad (200 + i)) A U H ∧ va_T .byte (ad (300 + i)) (slen i) (fun j => .int ((sb i).getD j 0)) A U H) ∧
  (∀ q ∈ skL, vk_R q.1 q.2.1 q.2.2.1 (ad (200 + q.2.2.2)) U) ∧
  va_Z "RainWishes$Parser" "TIGHT" "[I" (.ref (ad 199)) A U H ∧ va_T .int (ad 199) 11 (fun j => .int (tgL.getD j 0)) A U H ∧
  va_Z "java/lang/String" "COMPACT_STRINGS" "Z" (.int 1) A U H ∧
  (va_Z "jdk/internal/util/Preconditions" "SIOOBE_FORMATTER" sfD .null A U H ∨ va_Z "jdk/internal/util/Preconditions" "SIOOBE_FORMATTER" sfD (.ref (ad 198)) A U H) ∧
  vx_Zq Bundle.tN "UNASSIGNED_STACK" Bundle.steD A U H ∧ vx_Zq Bundle.tN "SUPPRESSED_SENTINEL" Bundle.listD A U H ∧
  (∀ q ∈ exC, va_Nw (.castable q q) U) ∧ (∀ x ∈ exD, va_Nw (.declares x) U) ∧ (∀ q ∈ ncL, va_Nc q.1 q.2 U)
theorem RO.same {ad : Nat → Nat} {A : Nat → Prop} {U V : State} {H : Heap} (h : RO ad A U H) (hv : V.vm = U.vm) : RO ad A V H := by
  have hm : U.vm.Alike V.vm := by rw [hv]; exact Vm.Alike.refl _
  obtain ⟨h1, h2, h3, h4, h5, h6, h7, h8, h9, h10, h11⟩ := h
  exact ⟨fun i hi => ⟨(h1 i hi).1.moved hm, (h1 i hi).2.1.moved hm, (h1 i hi).2.2.1.moved hm, (h1 i hi).2.2.2.moved hm⟩, fun q hq => vk_R.same hv (h2 q hq), h3.moved hm, h4.moved hm, h5.moved hm, h6.elim (fun z => Or.inl (z.moved hm)) (fun z => Or.inr (z.moved hm)), h7.moved hm, h8.moved hm, fun q hq => va_Nw.same rfl hv.symm (h9 q hq), fun x hx => va_Nw.same rfl hv.symm (h10 x hx), fun q hq => va_Nc.moved hm (h11 q hq)⟩
theorem RO.step {ad : Nat → Nat} {A A1 : Nat → Prop} {s U : State} {H : Heap} {locs : List Loc} (h : RO ad A s s.heap) (hS : va_S A s.heap H locs) (hA : ∀ q, A1 q → A q) (hW : s.WarmedH U.vm) : RO ad A1 U H := by
  have hm := hW.alike
  have hq : ∀ a : Nat, a < s.heap.size → ¬ A a → H[a]? = s.heap[a]? := hS.2.1
  obtain ⟨h1, h2, h3, h4, h5, h6, h7, h8, h9, h10, h11⟩ := h
  exact ⟨fun i hi => ⟨(((h1 i hi).1.moved hm).kept hq).narrow hA, (((h1 i hi).2.1.moved hm).kept hq).narrow hA, (((h1 i hi).2.2.1.moved hm).kept hq).narrow hA, (((h1 i hi).2.2.2.moved hm).kept hq).narrow hA⟩, fun q hq2 => vk_R.warm hW (h2 q hq2), ((h3.moved hm).kept hq).narrow hA, ((h4.moved hm).kept hq).narrow hA, ((h5.moved hm).kept hq).narrow hA, h6.elim (fun z => Or.inl (((z.moved hm).kept hq).narrow hA)) (fun z => Or.inr (((z.moved hm).kept hq).narrow hA)), ((h7.moved hm).kept hq).narrow hA, ((h8.moved hm).kept hq).narrow hA, fun q hq2 => va_Nw.warmC hW (h9 q hq2), fun x hx => va_Nw.warmD hW (h10 x hx), fun q hq2 => va_Nc.moved hm (h11 q hq2)⟩
theorem RO.un {ad : Nat → Nat} {A : Nat → Prop} {U : State} {H : Heap} (h : RO ad A U H) : vx_Zq Bundle.tN "UNASSIGNED_STACK" Bundle.steD A U H := h.2.2.2.2.2.2.1
theorem RO.su {ad : Nat → Nat} {A : Nat → Prop} {U : State} {H : Heap} (h : RO ad A U H) : vx_Zq Bundle.tN "SUPPRESSED_SENTINEL" Bundle.listD A U H := h.2.2.2.2.2.2.2.1
theorem RO.ca {ad : Nat → Nat} {A : Nat → Prop} {U : State} {H : Heap} (h : RO ad A U H) : ∀ q ∈ exC, va_Nw (.castable q q) U := h.2.2.2.2.2.2.2.2.1
theorem RO.de {ad : Nat → Nat} {A : Nat → Prop} {U : State} {H : Heap} (h : RO ad A U H) : ∀ x ∈ exD, va_Nw (.declares x) U := h.2.2.2.2.2.2.2.2.2.1
theorem RO.nc {ad : Nat → Nat} {A : Nat → Prop} {U : State} {H : Heap} (h : RO ad A U H) : ∀ q ∈ ncL, va_Nc q.1 q.2 U := h.2.2.2.2.2.2.2.2.2.2
end
section
def lt {β γ : Type} (x : β) (g : β → γ) : γ := g x
def cb {β γ : Type} (f : Option (β × PH)) (g : β → PH → Option γ) : Option γ := match f with
  | none => none
  | some q => g q.1 q.2
def ixi (i : Int32) (n : Nat) : Prop := 0 ≤ i.toInt ∧ i.toInt < (n : Int)
def ldI {γ : Type} (h : PH) (a n : Nat) (i : Int32) (g : Int32 → Option γ) : Option γ := if 0 ≤ i.toInt ∧ i.toInt < (n : Int) then g (h.1 a i.toNatClampNeg) else none
def ldL {γ : Type} (h : PH) (a n : Nat) (i : Int32) (g : Int64 → Option γ) : Option γ := if 0 ≤ i.toInt ∧ i.toInt < (n : Int) then g (h.2 a i.toNatClampNeg) else none
def ldR {γ : Type} (a n : Nat) (i : Int32) (g : Nat → Option γ) : Option γ := if 0 ≤ i.toInt ∧ i.toInt < (n : Int) then g (rt a i.toNatClampNeg) else none
def stI {γ : Type} (h : PH) (a n : Nat) (i v : Int32) (g : PH → Option γ) : Option γ := if 0 ≤ i.toInt ∧ i.toInt < (n : Int) then g (pI h a i.toNatClampNeg v) else none
def stL {γ : Type} (h : PH) (a n : Nat) (i : Int32) (v : Int64) (g : PH → Option γ) : Option γ := if 0 ≤ i.toInt ∧ i.toInt < (n : Int) then g (pL h a i.toNatClampNeg v) else none
def nz {γ : Type} (y : Int32) (o : Option γ) : Option γ := if y = 0 then none else o
def lset (L : List (Nat × Value)) (i : Nat) (v : Value) : List (Nat × Value) := (i, v) :: L.filter (fun q => !(q.1 == i) && !(q.1 + 1 == i && q.2.category == 2))
def lset2 (L : List (Nat × Value)) (i : Nat) (v : Value) : List (Nat × Value) := (i, v) :: L.filter (fun q => !(q.1 == i) && (!(q.1 == i + 1) && !(q.1 + 1 == i && q.2.category == 2)))
def Cx (p : Program) (s : State) (m : MethodId) (args : Array Value) (c : Code) (own : String) (cc : ByteArray) (nL : Nat) (D : va_G) (cA : Nat → ClassId) (ad : Nat → Nat) (A : Nat → Prop) : Prop :=
  p.tables.exec = Jvm.exec ∧ c.code = cc ∧ c.maxLocals = nL ∧ s.vm.findClass own = some m.cls ∧ (∀ w ∈ WSG, w.before args s = true) ∧ va_K D vwCl (tyl cA) s ∧ (∀ i j, i < nc cA → j < nc cA → ad i = ad j → i = j) ∧ (∀ i, i < nc cA → A (ad i)) ∧ (∀ q, s.heap.size ≤ q → A q) ∧ RO ad A s s.heap
def SWo {α : Type} (QQ : α → PH → State → Prop) (p : Program) (l : Launch) (e : Env) (R : Room) (s : State) (m : MethodId) (args : Array Value) (below : List Frame) (meth : Method) (c : Code) (cells slots nL : Nat) (D : va_G) (cA : Nat → ClassId) (ad : Nat → Nat) (A : Nat → Prop) (pc : Nat) (L : List (Nat × Value)) (st : List Value) (h : PH) (o : Option (α × PH)) : Prop :=
  ∀ (r : α) (h' : PH), o = some (r, h') → ∀ (H : Heap) (locs : List Loc) (ls : Array Slot), va_P D vwCl (wd cA ad h) H → va_S A s.heap H locs → lv_has ls nL (L.map (tq ad)) → W p l e R s m args below meth c H locs cells slots (QQ r h') (F0 m pc ls (st.map (tv ad)))
theorem ix_in {i : Int32} {n : Nat} (h : 0 ≤ i.toInt ∧ i.toInt < (n : Int)) : vp_in i n := vp_in_iff.mpr h
theorem lset_map {ad : Nat → Nat} {L : List (Nat × Value)} {i : Nat} {v : Value} : (i, tv ad v) :: (L.map (tq ad)).filter (fun q => !(q.1 == i) && !(q.1 + 1 == i && q.2.category == 2)) = (lset L i v).map (tq ad) := by
  simp only [lset, List.map_cons, List.filter_map]
  congr 2
  apply List.filter_congr
  intro q _
  simp [tv_cat]
theorem lset2_map {ad : Nat → Nat} {L : List (Nat × Value)} {i : Nat} {v : Value} : (i, tv ad v) :: (L.map (tq ad)).filter (fun q => !(q.1 == i) && (!(q.1 == i + 1) && !(q.1 + 1 == i && q.2.category == 2))) = (lset2 L i v).map (tq ad) := by
  simp only [lset2, List.map_cons, List.filter_map]
  congr 2
  apply List.filter_congr
  intro q _
  simp [tv_cat]
section SO
variable {p : Program} {l : Launch} {e : Env} {R : Room} {s : State} {m : MethodId} {args : Array Value} {below : List Frame} {meth : Method} {c : Code} {cells slots nL : Nat} {D : va_G} {cA : Nat → ClassId} {ad : Nat → Nat} {A : Nat → Prop} {own : String} {cc : ByteArray} {pc tgt : Nat} {L L' : List (Nat × Value)} {st : List Value} {h : PH} {α : Type} {QQ : α → PH → State → Prop} {o o1 o2 : Option (α × PH)}
theorem so_iconst (X : Cx p s m args c own cc nL D cA ad A) {n : Int} {v : Int32} (d : decode cc pc = .ok (.iconst n, 1)) (hv : Int32.ofInt n = v) (k : SWo QQ p l e R s m args below meth c cells slots nL D cA ad A (pc + 1) (L) (.int v :: st) (h) (o)) : SWo QQ p l e R s m args below meth c cells slots nL D cA ad A (pc) (L) (st) (h) (o) :=
  fun r h' e1 H locs ls hP hS hl => lv_iconst X.1 X.2.1 d hv (k r h' e1 H locs ls hP hS hl)
theorem so_bipush (X : Cx p s m args c own cc nL D cA ad A) {n : Int} {v : Int32} (d : decode cc pc = .ok (.bipush n, 2)) (hv : (Int8.ofInt n).toInt32 = v) (k : SWo QQ p l e R s m args below meth c cells slots nL D cA ad A (pc + 2) (L) (.int v :: st) (h) (o)) : SWo QQ p l e R s m args below meth c cells slots nL D cA ad A (pc) (L) (st) (h) (o) :=
  fun r h' e1 H locs ls hP hS hl => lv_bipush X.1 X.2.1 d hv (k r h' e1 H locs ls hP hS hl)
theorem so_sipush (X : Cx p s m args c own cc nL D cA ad A) {n : Int} {v : Int32} (d : decode cc pc = .ok (.sipush n, 3)) (hv : (Int16.ofInt n).toInt32 = v) (k : SWo QQ p l e R s m args below meth c cells slots nL D cA ad A (pc + 3) (L) (.int v :: st) (h) (o)) : SWo QQ p l e R s m args below meth c cells slots nL D cA ad A (pc) (L) (st) (h) (o) :=
  fun r h' e1 H locs ls hP hS hl => lv_sipush X.1 X.2.1 d hv (k r h' e1 H locs ls hP hS hl)
theorem so_lconst (X : Cx p s m args c own cc nL D cA ad A) {n : Fin 2} {v : Int64} (d : decode cc pc = .ok (.lconst n, 1)) (hv : Int64.ofNat (n : Nat) = v) (k : SWo QQ p l e R s m args below meth c cells slots nL D cA ad A (pc + 1) (L) (.long v :: st) (h) (o)) : SWo QQ p l e R s m args below meth c cells slots nL D cA ad A (pc) (L) (st) (h) (o) :=
  fun r h' e1 H locs ls hP hS hl => lv_lconst X.1 X.2.1 d hv (k r h' e1 H locs ls hP hS hl)
theorem so_ldc (X : Cx p s m args c own cc nL D cA ad A) {ix : Nat} {v : Int32} (hc : Cond.constant own ix v ∈ WSG) (d : decode cc pc = .ok (.ldc ix, 2)) (k : SWo QQ p l e R s m args below meth c cells slots nL D cA ad A (pc + 2) (L) (.int v :: st) (h) (o)) : SWo QQ p l e R s m args below meth c cells slots nL D cA ad A (pc) (L) (st) (h) (o) :=
  fun r h' e1 H locs ls hP hS hl => lv_ldc X.1 X.2.1 X.2.2.2.1 (X.2.2.2.2.1 _ hc) d (k r h' e1 H locs ls hP hS hl)
theorem so_ldcw (X : Cx p s m args c own cc nL D cA ad A) {ix : Nat} {v : Int32} (hc : Cond.constant own ix v ∈ WSG) (d : decode cc pc = .ok (.ldc_w ix, 3)) (k : SWo QQ p l e R s m args below meth c cells slots nL D cA ad A (pc + 3) (L) (.int v :: st) (h) (o)) : SWo QQ p l e R s m args below meth c cells slots nL D cA ad A (pc) (L) (st) (h) (o) :=
  fun r h' e1 H locs ls hP hS hl => lv_ldcw X.1 X.2.1 X.2.2.2.1 (X.2.2.2.2.1 _ hc) d (k r h' e1 H locs ls hP hS hl)
theorem so_ldc2 (X : Cx p s m args c own cc nL D cA ad A) {ix : Nat} {v : Int64} (hc : Cond.constantLong own ix v ∈ WSG) (d : decode cc pc = .ok (.ldc2_w ix, 3)) (k : SWo QQ p l e R s m args below meth c cells slots nL D cA ad A (pc + 3) (L) (.long v :: st) (h) (o)) : SWo QQ p l e R s m args below meth c cells slots nL D cA ad A (pc) (L) (st) (h) (o) :=
  fun r h' e1 H locs ls hP hS hl => lv_ldc2 X.1 X.2.1 X.2.2.2.1 (X.2.2.2.2.1 _ hc) d (k r h' e1 H locs ls hP hS hl)
theorem so_iload_n (X : Cx p s m args c own cc nL D cA ad A) {k4 : Fin 4} {i : Nat} {x : Int32} (q : Nat) (d : decode cc pc = .ok (.iload_n k4, 1)) (hi : (k4 : Nat) = i) (hL : L[q]? = some (i, .int x)) (k : SWo QQ p l e R s m args below meth c cells slots nL D cA ad A (pc + 1) (L) (.int x :: st) (h) (o)) : SWo QQ p l e R s m args below meth c cells slots nL D cA ad A (pc) (L) (st) (h) (o) :=
  fun r h' e1 H locs ls hP hS hl => lv_iload_n X.1 X.2.1 d hi (lv_at (v := .int x) hl q (by rw [List.getElem?_map, hL]; rfl)) (k r h' e1 H locs ls hP hS hl)
theorem so_iload (X : Cx p s m args c own cc nL D cA ad A) {i : Nat} {x : Int32} (q : Nat) (d : decode cc pc = .ok (.iload i, 2)) (hL : L[q]? = some (i, .int x)) (k : SWo QQ p l e R s m args below meth c cells slots nL D cA ad A (pc + 2) (L) (.int x :: st) (h) (o)) : SWo QQ p l e R s m args below meth c cells slots nL D cA ad A (pc) (L) (st) (h) (o) :=
  fun r h' e1 H locs ls hP hS hl => lv_iload X.1 X.2.1 d (lv_at (v := .int x) hl q (by rw [List.getElem?_map, hL]; rfl)) (k r h' e1 H locs ls hP hS hl)
theorem so_istore_n (X : Cx p s m args c own cc nL D cA ad A) {k4 : Fin 4} {i : Nat} {x : Int32} {g : Int32 → Option (α × PH)} {Lf : Int32 → List (Nat × Value)} (d : decode cc pc = .ok (.istore_n k4, 1)) (hi : (k4 : Nat) = i) (hn : i < nL) (hL : ∀ y, lset L i (.int y) = Lf y) (k : ∀ y, SWo QQ p l e R s m args below meth c cells slots nL D cA ad A (pc + 1) (Lf y) (st) (h) (g y)) : SWo QQ p l e R s m args below meth c cells slots nL D cA ad A (pc) (L) (.int x :: st) (h) (lt x g) :=
  fun r h' e1 H locs ls hP hS hl => lv_istore_n X.1 X.2.1 d hi hl hn (lv' := (Lf x).map (tq ad)) (by rw [← hL x]; exact lset_map (v := .int x)) (fun ls' hl' => k x r h' e1 H locs ls' hP hS hl')
theorem so_istore (X : Cx p s m args c own cc nL D cA ad A) {i : Nat} {x : Int32} {g : Int32 → Option (α × PH)} {Lf : Int32 → List (Nat × Value)} (d : decode cc pc = .ok (.istore i, 2)) (hn : i < nL) (hL : ∀ y, lset L i (.int y) = Lf y) (k : ∀ y, SWo QQ p l e R s m args below meth c cells slots nL D cA ad A (pc + 2) (Lf y) (st) (h) (g y)) : SWo QQ p l e R s m args below meth c cells slots nL D cA ad A (pc) (L) (.int x :: st) (h) (lt x g) :=
  fun r h' e1 H locs ls hP hS hl => lv_istore X.1 X.2.1 d hl hn (lv' := (Lf x).map (tq ad)) (by rw [← hL x]; exact lset_map (v := .int x)) (fun ls' hl' => k x r h' e1 H locs ls' hP hS hl')
theorem so_lload_n (X : Cx p s m args c own cc nL D cA ad A) {k4 : Fin 4} {i : Nat} {x : Int64} (q : Nat) (d : decode cc pc = .ok (.lload_n k4, 1)) (hi : (k4 : Nat) = i) (hL : L[q]? = some (i, .long x)) (k : SWo QQ p l e R s m args below meth c cells slots nL D cA ad A (pc + 1) (L) (.long x :: st) (h) (o)) : SWo QQ p l e R s m args below meth c cells slots nL D cA ad A (pc) (L) (st) (h) (o) :=
  fun r h' e1 H locs ls hP hS hl => lv_lload_n X.1 X.2.1 d hi (lv_at (v := .long x) hl q (by rw [List.getElem?_map, hL]; rfl)) (k r h' e1 H locs ls hP hS hl)
theorem so_lload (X : Cx p s m args c own cc nL D cA ad A) {i : Nat} {x : Int64} (q : Nat) (d : decode cc pc = .ok (.lload i, 2)) (hL : L[q]? = some (i, .long x)) (k : SWo QQ p l e R s m args below meth c cells slots nL D cA ad A (pc + 2) (L) (.long x :: st) (h) (o)) : SWo QQ p l e R s m args below meth c cells slots nL D cA ad A (pc) (L) (st) (h) (o) :=
  fun r h' e1 H locs ls hP hS hl => lv_lload X.1 X.2.1 d (lv_at (v := .long x) hl q (by rw [List.getElem?_map, hL]; rfl)) (k r h' e1 H locs ls hP hS hl)
theorem so_lstore_n (X : Cx p s m args c own cc nL D cA ad A) {k4 : Fin 4} {i : Nat} {x : Int64} {g : Int64 → Option (α × PH)} {Lf : Int64 → List (Nat × Value)} (d : decode cc pc = .ok (.lstore_n k4, 1)) (hi : (k4 : Nat) = i) (hn : i + 1 < nL) (hL : ∀ y, lset2 L i (.long y) = Lf y) (k : ∀ y, SWo QQ p l e R s m args below meth c cells slots nL D cA ad A (pc + 1) (Lf y) (st) (h) (g y)) : SWo QQ p l e R s m args below meth c cells slots nL D cA ad A (pc) (L) (.long x :: st) (h) (lt x g) :=
  fun r h' e1 H locs ls hP hS hl => lv_lstore_n X.1 X.2.1 d hi hl hn (lv' := (Lf x).map (tq ad)) (by rw [← hL x]; exact lset2_map (v := .long x)) (fun ls' hl' => k x r h' e1 H locs ls' hP hS hl')
theorem so_lstore (X : Cx p s m args c own cc nL D cA ad A) {i : Nat} {x : Int64} {g : Int64 → Option (α × PH)} {Lf : Int64 → List (Nat × Value)} (d : decode cc pc = .ok (.lstore i, 2)) (hn : i + 1 < nL) (hL : ∀ y, lset2 L i (.long y) = Lf y) (k : ∀ y, SWo QQ p l e R s m args below meth c cells slots nL D cA ad A (pc + 2) (Lf y) (st) (h) (g y)) : SWo QQ p l e R s m args below meth c cells slots nL D cA ad A (pc) (L) (.long x :: st) (h) (lt x g) :=
  fun r h' e1 H locs ls hP hS hl => lv_lstore X.1 X.2.1 d hl hn (lv' := (Lf x).map (tq ad)) (by rw [← hL x]; exact lset2_map (v := .long x)) (fun ls' hl' => k x r h' e1 H locs ls' hP hS hl')
theorem so_aload_n (X : Cx p s m args c own cc nL D cA ad A) {k4 : Fin 4} {i : Nat} {x : Nat} (q : Nat) (d : decode cc pc = .ok (.aload_n k4, 1)) (hi : (k4 : Nat) = i) (hL : L[q]? = some (i, .ref x)) (k : SWo QQ p l e R s m args below meth c cells slots nL D cA ad A (pc + 1) (L) (.ref x :: st) (h) (o)) : SWo QQ p l e R s m args below meth c cells slots nL D cA ad A (pc) (L) (st) (h) (o) :=
  fun r h' e1 H locs ls hP hS hl => lv_aload_n X.1 X.2.1 d hi (lv_at (v := .ref (ad x)) hl q (by rw [List.getElem?_map, hL]; rfl)) (k r h' e1 H locs ls hP hS hl)
theorem so_aload (X : Cx p s m args c own cc nL D cA ad A) {i : Nat} {x : Nat} (q : Nat) (d : decode cc pc = .ok (.aload i, 2)) (hL : L[q]? = some (i, .ref x)) (k : SWo QQ p l e R s m args below meth c cells slots nL D cA ad A (pc + 2) (L) (.ref x :: st) (h) (o)) : SWo QQ p l e R s m args below meth c cells slots nL D cA ad A (pc) (L) (st) (h) (o) :=
  fun r h' e1 H locs ls hP hS hl => lv_aload X.1 X.2.1 d (lv_at (v := .ref (ad x)) hl q (by rw [List.getElem?_map, hL]; rfl)) (k r h' e1 H locs ls hP hS hl)
theorem so_astore_n (X : Cx p s m args c own cc nL D cA ad A) {k4 : Fin 4} {i : Nat} {x : Nat} {g : Nat → Option (α × PH)} {Lf : Nat → List (Nat × Value)} (d : decode cc pc = .ok (.astore_n k4, 1)) (hi : (k4 : Nat) = i) (hn : i < nL) (hL : ∀ y, lset L i (.ref y) = Lf y) (k : ∀ y, SWo QQ p l e R s m args below meth c cells slots nL D cA ad A (pc + 1) (Lf y) (st) (h) (g y)) : SWo QQ p l e R s m args below meth c cells slots nL D cA ad A (pc) (L) (.ref x :: st) (h) (lt x g) :=
  fun r h' e1 H locs ls hP hS hl => lv_astore_n X.1 X.2.1 d hi hl hn (lv' := (Lf x).map (tq ad)) (by rw [← hL x]; exact lset_map (v := .ref x)) (fun ls' hl' => k x r h' e1 H locs ls' hP hS hl')
theorem so_astore_n0 (X : Cx p s m args c own cc nL D cA ad A) {k4 : Fin 4} {i : Nat} {x : Nat} (d : decode cc pc = .ok (.astore_n k4, 1)) (hi : (k4 : Nat) = i) (hn : i < nL) (hL : lset L i (.ref x) = L') (k : SWo QQ p l e R s m args below meth c cells slots nL D cA ad A (pc + 1) (L') (st) (h) (o)) : SWo QQ p l e R s m args below meth c cells slots nL D cA ad A (pc) (L) (.ref x :: st) (h) (o) :=
  fun r h' e1 H locs ls hP hS hl => lv_astore_n X.1 X.2.1 d hi hl hn (lv' := L'.map (tq ad)) (by rw [← hL]; exact lset_map (v := .ref x)) (fun ls' hl' => k r h' e1 H locs ls' hP hS hl')
theorem so_astore (X : Cx p s m args c own cc nL D cA ad A) {i : Nat} {x : Nat} {g : Nat → Option (α × PH)} {Lf : Nat → List (Nat × Value)} (d : decode cc pc = .ok (.astore i, 2)) (hn : i < nL) (hL : ∀ y, lset L i (.ref y) = Lf y) (k : ∀ y, SWo QQ p l e R s m args below meth c cells slots nL D cA ad A (pc + 2) (Lf y) (st) (h) (g y)) : SWo QQ p l e R s m args below meth c cells slots nL D cA ad A (pc) (L) (.ref x :: st) (h) (lt x g) :=
  fun r h' e1 H locs ls hP hS hl => lv_astore X.1 X.2.1 d hl hn (lv' := (Lf x).map (tq ad)) (by rw [← hL x]; exact lset_map (v := .ref x)) (fun ls' hl' => k x r h' e1 H locs ls' hP hS hl')
theorem so_astore0 (X : Cx p s m args c own cc nL D cA ad A) {i : Nat} {x : Nat} (d : decode cc pc = .ok (.astore i, 2)) (hn : i < nL) (hL : lset L i (.ref x) = L') (k : SWo QQ p l e R s m args below meth c cells slots nL D cA ad A (pc + 2) (L') (st) (h) (o)) : SWo QQ p l e R s m args below meth c cells slots nL D cA ad A (pc) (L) (.ref x :: st) (h) (o) :=
  fun r h' e1 H locs ls hP hS hl => lv_astore X.1 X.2.1 d hl hn (lv' := L'.map (tq ad)) (by rw [← hL]; exact lset_map (v := .ref x)) (fun ls' hl' => k r h' e1 H locs ls' hP hS hl')
theorem so_iinc (X : Cx p s m args c own cc nL D cA ad A) {i : Nat} {n : Int} {x v : Int32} {g : Int32 → Option (α × PH)} {Lf : Int32 → List (Nat × Value)} (q : Nat) (d : decode cc pc = .ok (.iinc i n, 3)) (hq : L[q]? = some (i, .int x)) (hv : x + Int32.ofInt n = v) (hn : i < nL) (hL : ∀ y, lset L i (.int y) = Lf y) (k : ∀ y, SWo QQ p l e R s m args below meth c cells slots nL D cA ad A (pc + 3) (Lf y) (st) (h) (g y)) : SWo QQ p l e R s m args below meth c cells slots nL D cA ad A (pc) (L) (st) (h) (lt v g) :=
  fun r h' e1 H locs ls hP hS hl => lv_iinc (k := q) X.1 X.2.1 d hl (by rw [List.getElem?_map, hq]; rfl) hv hn (lv' := (Lf v).map (tq ad)) (by rw [← hL v]; exact lset_map (v := .int v)) (fun ls' hl' => k v r h' e1 H locs ls' hP hS hl')
theorem so_iadd (X : Cx p s m args c own cc nL D cA ad A) {x y : Int32} (d : decode cc pc = .ok (.iadd, 1)) (k : SWo QQ p l e R s m args below meth c cells slots nL D cA ad A (pc + 1) (L) (.int (x + y) :: st) (h) (o)) : SWo QQ p l e R s m args below meth c cells slots nL D cA ad A (pc) (L) (.int y :: .int x :: st) (h) (o) :=
  fun r h' e1 H locs ls hP hS hl => lv_iadd X.1 X.2.1 d (k r h' e1 H locs ls hP hS hl)
theorem so_isub (X : Cx p s m args c own cc nL D cA ad A) {x y : Int32} (d : decode cc pc = .ok (.isub, 1)) (k : SWo QQ p l e R s m args below meth c cells slots nL D cA ad A (pc + 1) (L) (.int (x - y) :: st) (h) (o)) : SWo QQ p l e R s m args below meth c cells slots nL D cA ad A (pc) (L) (.int y :: .int x :: st) (h) (o) :=
  fun r h' e1 H locs ls hP hS hl => lv_isub X.1 X.2.1 d (k r h' e1 H locs ls hP hS hl)
theorem so_imul (X : Cx p s m args c own cc nL D cA ad A) {x y : Int32} (d : decode cc pc = .ok (.imul, 1)) (k : SWo QQ p l e R s m args below meth c cells slots nL D cA ad A (pc + 1) (L) (.int (x * y) :: st) (h) (o)) : SWo QQ p l e R s m args below meth c cells slots nL D cA ad A (pc) (L) (.int y :: .int x :: st) (h) (o) :=
  fun r h' e1 H locs ls hP hS hl => lv_imul X.1 X.2.1 d (k r h' e1 H locs ls hP hS hl)
theorem so_iand (X : Cx p s m args c own cc nL D cA ad A) {x y : Int32} (d : decode cc pc = .ok (.iand, 1)) (k : SWo QQ p l e R s m args below meth c cells slots nL D cA ad A (pc + 1) (L) (.int (x &&& y) :: st) (h) (o)) : SWo QQ p l e R s m args below meth c cells slots nL D cA ad A (pc) (L) (.int y :: .int x :: st) (h) (o) :=
  fun r h' e1 H locs ls hP hS hl => lv_iand X.1 X.2.1 d (k r h' e1 H locs ls hP hS hl)
theorem so_ior (X : Cx p s m args c own cc nL D cA ad A) {x y : Int32} (d : decode cc pc = .ok (.ior, 1)) (k : SWo QQ p l e R s m args below meth c cells slots nL D cA ad A (pc + 1) (L) (.int (x ||| y) :: st) (h) (o)) : SWo QQ p l e R s m args below meth c cells slots nL D cA ad A (pc) (L) (.int y :: .int x :: st) (h) (o) :=
  fun r h' e1 H locs ls hP hS hl => lv_ior X.1 X.2.1 d (k r h' e1 H locs ls hP hS hl)
theorem so_ixor (X : Cx p s m args c own cc nL D cA ad A) {x y : Int32} (d : decode cc pc = .ok (.ixor, 1)) (k : SWo QQ p l e R s m args below meth c cells slots nL D cA ad A (pc + 1) (L) (.int (x ^^^ y) :: st) (h) (o)) : SWo QQ p l e R s m args below meth c cells slots nL D cA ad A (pc) (L) (.int y :: .int x :: st) (h) (o) :=
  fun r h' e1 H locs ls hP hS hl => lv_ixor X.1 X.2.1 d (k r h' e1 H locs ls hP hS hl)
theorem so_ishl (X : Cx p s m args c own cc nL D cA ad A) {x y : Int32} (d : decode cc pc = .ok (.ishl, 1)) (k : SWo QQ p l e R s m args below meth c cells slots nL D cA ad A (pc + 1) (L) (.int (x <<< (y &&& 31)) :: st) (h) (o)) : SWo QQ p l e R s m args below meth c cells slots nL D cA ad A (pc) (L) (.int y :: .int x :: st) (h) (o) :=
  fun r h' e1 H locs ls hP hS hl => lv_ishl X.1 X.2.1 d (k r h' e1 H locs ls hP hS hl)
theorem so_ishr (X : Cx p s m args c own cc nL D cA ad A) {x y : Int32} (d : decode cc pc = .ok (.ishr, 1)) (k : SWo QQ p l e R s m args below meth c cells slots nL D cA ad A (pc + 1) (L) (.int (x >>> (y &&& 31)) :: st) (h) (o)) : SWo QQ p l e R s m args below meth c cells slots nL D cA ad A (pc) (L) (.int y :: .int x :: st) (h) (o) :=
  fun r h' e1 H locs ls hP hS hl => lv_ishr X.1 X.2.1 d (k r h' e1 H locs ls hP hS hl)
theorem so_iushr (X : Cx p s m args c own cc nL D cA ad A) {x y v : Int32} (d : decode cc pc = .ok (.iushr, 1)) (hv : (x.toUInt32 >>> (y.toUInt32 &&& Int32.toUInt32 31)).toInt32 = v) (k : SWo QQ p l e R s m args below meth c cells slots nL D cA ad A (pc + 1) (L) (.int v :: st) (h) (o)) : SWo QQ p l e R s m args below meth c cells slots nL D cA ad A (pc) (L) (.int y :: .int x :: st) (h) (o) :=
  fun r h' e1 H locs ls hP hS hl => lv_iushr X.1 X.2.1 d hv (k r h' e1 H locs ls hP hS hl)
theorem so_idiv (X : Cx p s m args c own cc nL D cA ad A) {x y : Int32} (d : decode cc pc = .ok (.idiv, 1)) (k : ¬ y = 0 → SWo QQ p l e R s m args below meth c cells slots nL D cA ad A (pc + 1) (L) (.int (x / y) :: st) (h) (o)) : SWo QQ p l e R s m args below meth c cells slots nL D cA ad A (pc) (L) (.int y :: .int x :: st) (h) (nz y o) := by
  intro r h' e1 H locs ls hP hS hl
  by_cases hy : y = 0
  · unfold nz at e1; rw [if_pos hy] at e1; cases e1
  · unfold nz at e1; rw [if_neg hy] at e1
    exact lv_idiv X.1 X.2.1 d hy (k hy r h' e1 H locs ls hP hS hl)
theorem so_irem (X : Cx p s m args c own cc nL D cA ad A) {x y : Int32} (d : decode cc pc = .ok (.irem, 1)) (k : ¬ y = 0 → SWo QQ p l e R s m args below meth c cells slots nL D cA ad A (pc + 1) (L) (.int (x - x / y * y) :: st) (h) (o)) : SWo QQ p l e R s m args below meth c cells slots nL D cA ad A (pc) (L) (.int y :: .int x :: st) (h) (nz y o) := by
  intro r h' e1 H locs ls hP hS hl
  by_cases hy : y = 0
  · unfold nz at e1; rw [if_pos hy] at e1; cases e1
  · unfold nz at e1; rw [if_neg hy] at e1
    exact lv_irem X.1 X.2.1 d hy (k hy r h' e1 H locs ls hP hS hl)
theorem so_ineg (X : Cx p s m args c own cc nL D cA ad A) {x : Int32} (d : decode cc pc = .ok (.ineg, 1)) (k : SWo QQ p l e R s m args below meth c cells slots nL D cA ad A (pc + 1) (L) (.int (-x) :: st) (h) (o)) : SWo QQ p l e R s m args below meth c cells slots nL D cA ad A (pc) (L) (.int x :: st) (h) (o) :=
  fun r h' e1 H locs ls hP hS hl => lv_ineg X.1 X.2.1 d (k r h' e1 H locs ls hP hS hl)
theorem so_ladd (X : Cx p s m args c own cc nL D cA ad A) {x y : Int64} (d : decode cc pc = .ok (.ladd, 1)) (k : SWo QQ p l e R s m args below meth c cells slots nL D cA ad A (pc + 1) (L) (.long (x + y) :: st) (h) (o)) : SWo QQ p l e R s m args below meth c cells slots nL D cA ad A (pc) (L) (.long y :: .long x :: st) (h) (o) :=
  fun r h' e1 H locs ls hP hS hl => lv_ladd X.1 X.2.1 d (k r h' e1 H locs ls hP hS hl)
theorem so_lsub (X : Cx p s m args c own cc nL D cA ad A) {x y : Int64} (d : decode cc pc = .ok (.lsub, 1)) (k : SWo QQ p l e R s m args below meth c cells slots nL D cA ad A (pc + 1) (L) (.long (x - y) :: st) (h) (o)) : SWo QQ p l e R s m args below meth c cells slots nL D cA ad A (pc) (L) (.long y :: .long x :: st) (h) (o) :=
  fun r h' e1 H locs ls hP hS hl => lv_lsub X.1 X.2.1 d (k r h' e1 H locs ls hP hS hl)
theorem so_lmul (X : Cx p s m args c own cc nL D cA ad A) {x y : Int64} (d : decode cc pc = .ok (.lmul, 1)) (k : SWo QQ p l e R s m args below meth c cells slots nL D cA ad A (pc + 1) (L) (.long (x * y) :: st) (h) (o)) : SWo QQ p l e R s m args below meth c cells slots nL D cA ad A (pc) (L) (.long y :: .long x :: st) (h) (o) :=
  fun r h' e1 H locs ls hP hS hl => lv_lmul X.1 X.2.1 d (k r h' e1 H locs ls hP hS hl)
theorem so_land (X : Cx p s m args c own cc nL D cA ad A) {x y : Int64} (d : decode cc pc = .ok (.land, 1)) (k : SWo QQ p l e R s m args below meth c cells slots nL D cA ad A (pc + 1) (L) (.long (x &&& y) :: st) (h) (o)) : SWo QQ p l e R s m args below meth c cells slots nL D cA ad A (pc) (L) (.long y :: .long x :: st) (h) (o) :=
  fun r h' e1 H locs ls hP hS hl => lv_land X.1 X.2.1 d (k r h' e1 H locs ls hP hS hl)
theorem so_lor (X : Cx p s m args c own cc nL D cA ad A) {x y : Int64} (d : decode cc pc = .ok (.lor, 1)) (k : SWo QQ p l e R s m args below meth c cells slots nL D cA ad A (pc + 1) (L) (.long (x ||| y) :: st) (h) (o)) : SWo QQ p l e R s m args below meth c cells slots nL D cA ad A (pc) (L) (.long y :: .long x :: st) (h) (o) :=
  fun r h' e1 H locs ls hP hS hl => lv_lor X.1 X.2.1 d (k r h' e1 H locs ls hP hS hl)
theorem so_lshl (X : Cx p s m args c own cc nL D cA ad A) {x : Int64} {y : Int32} (d : decode cc pc = .ok (.lshl, 1)) (k : SWo QQ p l e R s m args below meth c cells slots nL D cA ad A (pc + 1) (L) (.long (x <<< (y.toInt64 &&& 63)) :: st) (h) (o)) : SWo QQ p l e R s m args below meth c cells slots nL D cA ad A (pc) (L) (.int y :: .long x :: st) (h) (o) :=
  fun r h' e1 H locs ls hP hS hl => lv_lshl X.1 X.2.1 d rfl (k r h' e1 H locs ls hP hS hl)
theorem so_lshr (X : Cx p s m args c own cc nL D cA ad A) {x : Int64} {y : Int32} (d : decode cc pc = .ok (.lshr, 1)) (k : SWo QQ p l e R s m args below meth c cells slots nL D cA ad A (pc + 1) (L) (.long (x >>> (y.toInt64 &&& 63)) :: st) (h) (o)) : SWo QQ p l e R s m args below meth c cells slots nL D cA ad A (pc) (L) (.int y :: .long x :: st) (h) (o) :=
  fun r h' e1 H locs ls hP hS hl => lv_lshr X.1 X.2.1 d rfl (k r h' e1 H locs ls hP hS hl)
theorem so_lcmp (X : Cx p s m args c own cc nL D cA ad A) {x y : Int64} (d : decode cc pc = .ok (.lcmp, 1)) (k : SWo QQ p l e R s m args below meth c cells slots nL D cA ad A (pc + 1) (L) (.int (lg_cmp x y) :: st) (h) (o)) : SWo QQ p l e R s m args below meth c cells slots nL D cA ad A (pc) (L) (.long y :: .long x :: st) (h) (o) :=
  fun r h' e1 H locs ls hP hS hl => W.lcmp X.1 X.2.1 d (k r h' e1 H locs ls hP hS hl)
theorem so_i2l (X : Cx p s m args c own cc nL D cA ad A) {x : Int32} (d : decode cc pc = .ok (.i2l, 1)) (k : SWo QQ p l e R s m args below meth c cells slots nL D cA ad A (pc + 1) (L) (.long (x.toInt64) :: st) (h) (o)) : SWo QQ p l e R s m args below meth c cells slots nL D cA ad A (pc) (L) (.int x :: st) (h) (o) :=
  fun r h' e1 H locs ls hP hS hl => lv_i2l X.1 X.2.1 d rfl (k r h' e1 H locs ls hP hS hl)
theorem so_l2i (X : Cx p s m args c own cc nL D cA ad A) {x : Int64} (d : decode cc pc = .ok (.l2i, 1)) (k : SWo QQ p l e R s m args below meth c cells slots nL D cA ad A (pc + 1) (L) (.int (x.toInt32) :: st) (h) (o)) : SWo QQ p l e R s m args below meth c cells slots nL D cA ad A (pc) (L) (.long x :: st) (h) (o) :=
  fun r h' e1 H locs ls hP hS hl => lv_l2i X.1 X.2.1 d rfl (k r h' e1 H locs ls hP hS hl)
theorem so_i2b (X : Cx p s m args c own cc nL D cA ad A) {x : Int32} (d : decode cc pc = .ok (.i2b, 1)) (k : SWo QQ p l e R s m args below meth c cells slots nL D cA ad A (pc + 1) (L) (.int (x.toInt8.toInt32) :: st) (h) (o)) : SWo QQ p l e R s m args below meth c cells slots nL D cA ad A (pc) (L) (.int x :: st) (h) (o) :=
  fun r h' e1 H locs ls hP hS hl => lv_i2b X.1 X.2.1 d rfl (k r h' e1 H locs ls hP hS hl)
theorem so_i2s (X : Cx p s m args c own cc nL D cA ad A) {x : Int32} (d : decode cc pc = .ok (.i2s, 1)) (k : SWo QQ p l e R s m args below meth c cells slots nL D cA ad A (pc + 1) (L) (.int (x.toInt16.toInt32) :: st) (h) (o)) : SWo QQ p l e R s m args below meth c cells slots nL D cA ad A (pc) (L) (.int x :: st) (h) (o) :=
  fun r h' e1 H locs ls hP hS hl => lv_i2s X.1 X.2.1 d rfl (k r h' e1 H locs ls hP hS hl)
theorem so_i2c (X : Cx p s m args c own cc nL D cA ad A) {x : Int32} (d : decode cc pc = .ok (.i2c, 1)) (k : SWo QQ p l e R s m args below meth c cells slots nL D cA ad A (pc + 1) (L) (.int ((x.toUInt32 % 65536).toInt32) :: st) (h) (o)) : SWo QQ p l e R s m args below meth c cells slots nL D cA ad A (pc) (L) (.int x :: st) (h) (o) :=
  fun r h' e1 H locs ls hP hS hl => lv_i2c X.1 X.2.1 d rfl (k r h' e1 H locs ls hP hS hl)
theorem so_dup (X : Cx p s m args c own cc nL D cA ad A) {va : Value} (d : decode cc pc = .ok (.dup, 1)) (h1 : va.category = 1) (k : SWo QQ p l e R s m args below meth c cells slots nL D cA ad A (pc + 1) (L) (va :: va :: st) (h) (o)) : SWo QQ p l e R s m args below meth c cells slots nL D cA ad A (pc) (L) (va :: st) (h) (o) :=
  fun r h' e1 H locs ls hP hS hl => lv_dup X.1 X.2.1 d (by rw [tv_cat]; exact h1) (k r h' e1 H locs ls hP hS hl)
theorem so_pop (X : Cx p s m args c own cc nL D cA ad A) {va : Value} (d : decode cc pc = .ok (.pop, 1)) (h1 : va.category = 1) (k : SWo QQ p l e R s m args below meth c cells slots nL D cA ad A (pc + 1) (L) (st) (h) (o)) : SWo QQ p l e R s m args below meth c cells slots nL D cA ad A (pc) (L) (va :: st) (h) (o) :=
  fun r h' e1 H locs ls hP hS hl => lv_pop X.1 X.2.1 d (by rw [tv_cat]; exact h1) (k r h' e1 H locs ls hP hS hl)
theorem so_dup2 (X : Cx p s m args c own cc nL D cA ad A) {va vb : Value} (d : decode cc pc = .ok (.dup2, 1)) (h1 : va.category = 1) (h2 : vb.category = 1) (k : SWo QQ p l e R s m args below meth c cells slots nL D cA ad A (pc + 1) (L) (va :: vb :: va :: vb :: st) (h) (o)) : SWo QQ p l e R s m args below meth c cells slots nL D cA ad A (pc) (L) (va :: vb :: st) (h) (o) :=
  fun r h' e1 H locs ls hP hS hl => lv_dup2_11 X.1 X.2.1 d (by rw [tv_cat]; exact h1) (by rw [tv_cat]; exact h2) (k r h' e1 H locs ls hP hS hl)
theorem so_dup2l (X : Cx p s m args c own cc nL D cA ad A) {va : Value} (d : decode cc pc = .ok (.dup2, 1)) (h1 : va.category = 2) (k : SWo QQ p l e R s m args below meth c cells slots nL D cA ad A (pc + 1) (L) (va :: va :: st) (h) (o)) : SWo QQ p l e R s m args below meth c cells slots nL D cA ad A (pc) (L) (va :: st) (h) (o) :=
  fun r h' e1 H locs ls hP hS hl => lv_dup2_2 X.1 X.2.1 d (by rw [tv_cat]; exact h1) (k r h' e1 H locs ls hP hS hl)
theorem so_pop2 (X : Cx p s m args c own cc nL D cA ad A) {va : Value} (d : decode cc pc = .ok (.pop2, 1)) (h1 : va.category = 2) (k : SWo QQ p l e R s m args below meth c cells slots nL D cA ad A (pc + 1) (L) (st) (h) (o)) : SWo QQ p l e R s m args below meth c cells slots nL D cA ad A (pc) (L) (va :: st) (h) (o) :=
  fun r h' e1 H locs ls hP hS hl => lv_pop2_2 X.1 X.2.1 d (by rw [tv_cat]; exact h1) (k r h' e1 H locs ls hP hS hl)
theorem so_if_eq (X : Cx p s m args c own cc nL D cA ad A) {x : Int32} {off : Int} (d : decode cc pc = .ok (.ifCond .eq off, 3)) (ht : (pc : Int) + off = (tgt : Int)) (k1 : x = 0 → SWo QQ p l e R s m args below meth c cells slots nL D cA ad A (tgt) (L) (st) (h) (o1)) (k2 : ¬ x = 0 → SWo QQ p l e R s m args below meth c cells slots nL D cA ad A (pc + 3) (L) (st) (h) (o2)) : SWo QQ p l e R s m args below meth c cells slots nL D cA ad A (pc) (L) (.int x :: st) (h) (if x = 0 then o1 else o2) := by
  intro r h' e1 H locs ls hP hS hl
  refine lv_if_eq X.1 X.2.1 d ht (fun hc => ?_) (fun hc => ?_)
  · exact k1 hc r h' (by rw [if_pos hc] at e1; exact e1) H locs ls hP hS hl
  · exact k2 hc r h' (by rw [if_neg hc] at e1; exact e1) H locs ls hP hS hl
theorem so_if_ne (X : Cx p s m args c own cc nL D cA ad A) {x : Int32} {off : Int} (d : decode cc pc = .ok (.ifCond .ne off, 3)) (ht : (pc : Int) + off = (tgt : Int)) (k1 : ¬ x = 0 → SWo QQ p l e R s m args below meth c cells slots nL D cA ad A (tgt) (L) (st) (h) (o1)) (k2 : x = 0 → SWo QQ p l e R s m args below meth c cells slots nL D cA ad A (pc + 3) (L) (st) (h) (o2)) : SWo QQ p l e R s m args below meth c cells slots nL D cA ad A (pc) (L) (.int x :: st) (h) (if x = 0 then o2 else o1) := by
  intro r h' e1 H locs ls hP hS hl
  refine lv_if_ne X.1 X.2.1 d ht (fun hc => ?_) (fun hc => ?_)
  · exact k1 hc r h' (by rw [if_neg hc] at e1; exact e1) H locs ls hP hS hl
  · exact k2 hc r h' (by rw [if_pos hc] at e1; exact e1) H locs ls hP hS hl
theorem so_if_lt (X : Cx p s m args c own cc nL D cA ad A) {x : Int32} {off : Int} (d : decode cc pc = .ok (.ifCond .lt off, 3)) (ht : (pc : Int) + off = (tgt : Int)) (k1 : x < 0 → SWo QQ p l e R s m args below meth c cells slots nL D cA ad A (tgt) (L) (st) (h) (o1)) (k2 : ¬ x < 0 → SWo QQ p l e R s m args below meth c cells slots nL D cA ad A (pc + 3) (L) (st) (h) (o2)) : SWo QQ p l e R s m args below meth c cells slots nL D cA ad A (pc) (L) (.int x :: st) (h) (if x < 0 then o1 else o2) := by
  intro r h' e1 H locs ls hP hS hl
  refine lv_if_lt X.1 X.2.1 d ht (fun hc => ?_) (fun hc => ?_)
  · exact k1 hc r h' (by rw [if_pos hc] at e1; exact e1) H locs ls hP hS hl
  · exact k2 hc r h' (by rw [if_neg hc] at e1; exact e1) H locs ls hP hS hl
theorem so_if_ge (X : Cx p s m args c own cc nL D cA ad A) {x : Int32} {off : Int} (d : decode cc pc = .ok (.ifCond .ge off, 3)) (ht : (pc : Int) + off = (tgt : Int)) (k1 : 0 ≤ x → SWo QQ p l e R s m args below meth c cells slots nL D cA ad A (tgt) (L) (st) (h) (o1)) (k2 : ¬ 0 ≤ x → SWo QQ p l e R s m args below meth c cells slots nL D cA ad A (pc + 3) (L) (st) (h) (o2)) : SWo QQ p l e R s m args below meth c cells slots nL D cA ad A (pc) (L) (.int x :: st) (h) (if 0 ≤ x then o1 else o2) := by
  intro r h' e1 H locs ls hP hS hl
  refine lv_if_ge X.1 X.2.1 d ht (fun hc => ?_) (fun hc => ?_)
  · exact k1 hc r h' (by rw [if_pos hc] at e1; exact e1) H locs ls hP hS hl
  · exact k2 hc r h' (by rw [if_neg hc] at e1; exact e1) H locs ls hP hS hl
theorem so_if_gt (X : Cx p s m args c own cc nL D cA ad A) {x : Int32} {off : Int} (d : decode cc pc = .ok (.ifCond .gt off, 3)) (ht : (pc : Int) + off = (tgt : Int)) (k1 : 0 < x → SWo QQ p l e R s m args below meth c cells slots nL D cA ad A (tgt) (L) (st) (h) (o1)) (k2 : ¬ 0 < x → SWo QQ p l e R s m args below meth c cells slots nL D cA ad A (pc + 3) (L) (st) (h) (o2)) : SWo QQ p l e R s m args below meth c cells slots nL D cA ad A (pc) (L) (.int x :: st) (h) (if 0 < x then o1 else o2) := by
  intro r h' e1 H locs ls hP hS hl
  refine lv_if_gt X.1 X.2.1 d ht (fun hc => ?_) (fun hc => ?_)
  · exact k1 hc r h' (by rw [if_pos hc] at e1; exact e1) H locs ls hP hS hl
  · exact k2 hc r h' (by rw [if_neg hc] at e1; exact e1) H locs ls hP hS hl
theorem so_if_le (X : Cx p s m args c own cc nL D cA ad A) {x : Int32} {off : Int} (d : decode cc pc = .ok (.ifCond .le off, 3)) (ht : (pc : Int) + off = (tgt : Int)) (k1 : x ≤ 0 → SWo QQ p l e R s m args below meth c cells slots nL D cA ad A (tgt) (L) (st) (h) (o1)) (k2 : ¬ x ≤ 0 → SWo QQ p l e R s m args below meth c cells slots nL D cA ad A (pc + 3) (L) (st) (h) (o2)) : SWo QQ p l e R s m args below meth c cells slots nL D cA ad A (pc) (L) (.int x :: st) (h) (if x ≤ 0 then o1 else o2) := by
  intro r h' e1 H locs ls hP hS hl
  refine lv_if_le X.1 X.2.1 d ht (fun hc => ?_) (fun hc => ?_)
  · exact k1 hc r h' (by rw [if_pos hc] at e1; exact e1) H locs ls hP hS hl
  · exact k2 hc r h' (by rw [if_neg hc] at e1; exact e1) H locs ls hP hS hl
theorem so_icmp_eq (X : Cx p s m args c own cc nL D cA ad A) {x y : Int32} {off : Int} (d : decode cc pc = .ok (.if_icmp .eq off, 3)) (ht : (pc : Int) + off = (tgt : Int)) (k1 : x = y → SWo QQ p l e R s m args below meth c cells slots nL D cA ad A (tgt) (L) (st) (h) (o1)) (k2 : ¬ x = y → SWo QQ p l e R s m args below meth c cells slots nL D cA ad A (pc + 3) (L) (st) (h) (o2)) : SWo QQ p l e R s m args below meth c cells slots nL D cA ad A (pc) (L) (.int y :: .int x :: st) (h) (if x = y then o1 else o2) := by
  intro r h' e1 H locs ls hP hS hl
  refine lv_icmp_eq X.1 X.2.1 d ht (fun hc => ?_) (fun hc => ?_)
  · exact k1 hc r h' (by rw [if_pos hc] at e1; exact e1) H locs ls hP hS hl
  · exact k2 hc r h' (by rw [if_neg hc] at e1; exact e1) H locs ls hP hS hl
theorem so_icmp_ne (X : Cx p s m args c own cc nL D cA ad A) {x y : Int32} {off : Int} (d : decode cc pc = .ok (.if_icmp .ne off, 3)) (ht : (pc : Int) + off = (tgt : Int)) (k1 : ¬ x = y → SWo QQ p l e R s m args below meth c cells slots nL D cA ad A (tgt) (L) (st) (h) (o1)) (k2 : x = y → SWo QQ p l e R s m args below meth c cells slots nL D cA ad A (pc + 3) (L) (st) (h) (o2)) : SWo QQ p l e R s m args below meth c cells slots nL D cA ad A (pc) (L) (.int y :: .int x :: st) (h) (if x = y then o2 else o1) := by
  intro r h' e1 H locs ls hP hS hl
  refine lv_icmp_ne X.1 X.2.1 d ht (fun hc => ?_) (fun hc => ?_)
  · exact k1 hc r h' (by rw [if_neg hc] at e1; exact e1) H locs ls hP hS hl
  · exact k2 hc r h' (by rw [if_pos hc] at e1; exact e1) H locs ls hP hS hl
theorem so_icmp_lt (X : Cx p s m args c own cc nL D cA ad A) {x y : Int32} {off : Int} (d : decode cc pc = .ok (.if_icmp .lt off, 3)) (ht : (pc : Int) + off = (tgt : Int)) (k1 : x < y → SWo QQ p l e R s m args below meth c cells slots nL D cA ad A (tgt) (L) (st) (h) (o1)) (k2 : ¬ x < y → SWo QQ p l e R s m args below meth c cells slots nL D cA ad A (pc + 3) (L) (st) (h) (o2)) : SWo QQ p l e R s m args below meth c cells slots nL D cA ad A (pc) (L) (.int y :: .int x :: st) (h) (if x < y then o1 else o2) := by
  intro r h' e1 H locs ls hP hS hl
  refine lv_icmp_lt X.1 X.2.1 d ht (fun hc => ?_) (fun hc => ?_)
  · exact k1 hc r h' (by rw [if_pos hc] at e1; exact e1) H locs ls hP hS hl
  · exact k2 hc r h' (by rw [if_neg hc] at e1; exact e1) H locs ls hP hS hl
theorem so_icmp_ge (X : Cx p s m args c own cc nL D cA ad A) {x y : Int32} {off : Int} (d : decode cc pc = .ok (.if_icmp .ge off, 3)) (ht : (pc : Int) + off = (tgt : Int)) (k1 : y ≤ x → SWo QQ p l e R s m args below meth c cells slots nL D cA ad A (tgt) (L) (st) (h) (o1)) (k2 : ¬ y ≤ x → SWo QQ p l e R s m args below meth c cells slots nL D cA ad A (pc + 3) (L) (st) (h) (o2)) : SWo QQ p l e R s m args below meth c cells slots nL D cA ad A (pc) (L) (.int y :: .int x :: st) (h) (if y ≤ x then o1 else o2) := by
  intro r h' e1 H locs ls hP hS hl
  refine lv_icmp_ge X.1 X.2.1 d ht (fun hc => ?_) (fun hc => ?_)
  · exact k1 hc r h' (by rw [if_pos hc] at e1; exact e1) H locs ls hP hS hl
  · exact k2 hc r h' (by rw [if_neg hc] at e1; exact e1) H locs ls hP hS hl
theorem so_icmp_gt (X : Cx p s m args c own cc nL D cA ad A) {x y : Int32} {off : Int} (d : decode cc pc = .ok (.if_icmp .gt off, 3)) (ht : (pc : Int) + off = (tgt : Int)) (k1 : y < x → SWo QQ p l e R s m args below meth c cells slots nL D cA ad A (tgt) (L) (st) (h) (o1)) (k2 : ¬ y < x → SWo QQ p l e R s m args below meth c cells slots nL D cA ad A (pc + 3) (L) (st) (h) (o2)) : SWo QQ p l e R s m args below meth c cells slots nL D cA ad A (pc) (L) (.int y :: .int x :: st) (h) (if y < x then o1 else o2) := by
  intro r h' e1 H locs ls hP hS hl
  refine lv_icmp_gt X.1 X.2.1 d ht (fun hc => ?_) (fun hc => ?_)
  · exact k1 hc r h' (by rw [if_pos hc] at e1; exact e1) H locs ls hP hS hl
  · exact k2 hc r h' (by rw [if_neg hc] at e1; exact e1) H locs ls hP hS hl
theorem so_icmp_le (X : Cx p s m args c own cc nL D cA ad A) {x y : Int32} {off : Int} (d : decode cc pc = .ok (.if_icmp .le off, 3)) (ht : (pc : Int) + off = (tgt : Int)) (k1 : x ≤ y → SWo QQ p l e R s m args below meth c cells slots nL D cA ad A (tgt) (L) (st) (h) (o1)) (k2 : ¬ x ≤ y → SWo QQ p l e R s m args below meth c cells slots nL D cA ad A (pc + 3) (L) (st) (h) (o2)) : SWo QQ p l e R s m args below meth c cells slots nL D cA ad A (pc) (L) (.int y :: .int x :: st) (h) (if x ≤ y then o1 else o2) := by
  intro r h' e1 H locs ls hP hS hl
  refine lv_icmp_le X.1 X.2.1 d ht (fun hc => ?_) (fun hc => ?_)
  · exact k1 hc r h' (by rw [if_pos hc] at e1; exact e1) H locs ls hP hS hl
  · exact k2 hc r h' (by rw [if_neg hc] at e1; exact e1) H locs ls hP hS hl
theorem so_goto (X : Cx p s m args c own cc nL D cA ad A) {off : Int} (d : decode cc pc = .ok (.goto off, 3)) (ht : (pc : Int) + off = (tgt : Int)) (k : SWo QQ p l e R s m args below meth c cells slots nL D cA ad A (tgt) (L) (st) (h) (o)) : SWo QQ p l e R s m args below meth c cells slots nL D cA ad A (pc) (L) (st) (h) (o) :=
  fun r h' e1 H locs ls hP hS hl => lv_goto X.1 X.2.1 d ht (k r h' e1 H locs ls hP hS hl)
theorem so_tsw (X : Cx p s m args c own cc nL D cA ad A) {x : Int32} {dflt lo hi : Int} {offs : Array Int} {len : Nat} {od : Option (α × PH)} {os : List (Option (α × PH))} (d : decode cc pc = .ok (.tableswitch dflt lo hi offs, len)) (ht : (pc : Int) + dflt = (tgt : Int)) (kd : SWo QQ p l e R s m args below meth c cells slots nL D cA ad A (tgt) (L) (st) (h) (od)) (hs : ∀ (k : Nat) (ok : Option (α × PH)), os[k]? = some ok → ∃ (off : Int) (tg : Nat), offs[k]? = some off ∧ (pc : Int) + off = (tg : Int) ∧ SWo QQ p l e R s m args below meth c cells slots nL D cA ad A (tg) (L) (st) (h) (ok)) (hlen : hi - lo + 1 = (os.length : Int)) : SWo QQ p l e R s m args below meth c cells slots nL D cA ad A (pc) (L) (.int x :: st) (h) (if x.toInt < lo ∨ hi < x.toInt then od else os.getD (x.toInt - lo).toNat none) := by
  intro r h' e1 H locs ls hP hS hl
  by_cases hc : x.toInt < lo ∨ hi < x.toInt
  · rw [if_pos hc] at e1
    exact lv_tableOut X.1 X.2.1 d hc ht (kd r h' e1 H locs ls hP hS hl)
  · rw [if_neg hc] at e1
    have h1 : ¬ x.toInt < lo := fun q => hc (Or.inl q)
    have h2 : ¬ hi < x.toInt := fun q => hc (Or.inr q)
    have h3 : (x.toInt - lo).toNat < os.length := by omega
    obtain ⟨off, tg, q1, q2, q3⟩ := hs (x.toInt - lo).toNat (os.getD (x.toInt - lo).toNat none) (by rw [List.getD_eq_getElem?_getD, List.getElem?_eq_getElem h3]; rfl)
    exact lv_tableIn X.1 X.2.1 d h1 h2 q1 q2 (q3 r h' e1 H locs ls hP hS hl)
theorem so_getI (X : Cx p s m args c own cc nL D cA ad A) {ci j N ix a : Nat} {C : String} {T : u_T} (hin : ∀ w ∈ u_ws C T N, w ∈ WSG) (hcl : vwCl[ci]? = some (C, T, N)) (hj : j < N) (hjl : j < (ft ci).length) (hft : (ft ci).getD j 0 = 0) (hci : ci < 13) (hlink : Cond.fieldLink own ix (T j).1 (T j).2.1 (T j).2.2.1 ∈ WSG) (hk : (kd a).1 = ci) (d : decode cc pc = .ok (.getfield ix, 3)) (k : SWo QQ p l e R s m args below meth c cells slots nL D cA ad A (pc + 3) (L) (.int (h.1 a j) :: st) (h) (o)) : SWo QQ p l e R s m args below meth c cells slots nL D cA ad A (pc) (L) (.ref a :: st) (h) (o) := by
  intro r h' e1 H locs ls hP hS hl
  refine va_get (v := .int (h.1 a j)) X.1 X.2.1 X.2.2.2.2.1 hin X.2.2.2.1 X.2.2.2.2.2.1 hP a (by rw [wd_get (kc_lt hk (by omega)), en_obj hk hci]) hcl j hj (X.2.2.2.2.1 _ hlink) (fun _ q => q) ?_ d (k r h' e1 H locs ls hP hS hl)
  rw [fl_get hjl, hft]
  rfl
theorem so_getL (X : Cx p s m args c own cc nL D cA ad A) {ci j N ix a : Nat} {C : String} {T : u_T} (hin : ∀ w ∈ u_ws C T N, w ∈ WSG) (hcl : vwCl[ci]? = some (C, T, N)) (hj : j < N) (hjl : j < (ft ci).length) (hft : (ft ci).getD j 0 = 1) (hci : ci < 13) (hlink : Cond.fieldLink own ix (T j).1 (T j).2.1 (T j).2.2.1 ∈ WSG) (hk : (kd a).1 = ci) (d : decode cc pc = .ok (.getfield ix, 3)) (k : SWo QQ p l e R s m args below meth c cells slots nL D cA ad A (pc + 3) (L) (.long (h.2 a j) :: st) (h) (o)) : SWo QQ p l e R s m args below meth c cells slots nL D cA ad A (pc) (L) (.ref a :: st) (h) (o) := by
  intro r h' e1 H locs ls hP hS hl
  refine va_get (v := .long (h.2 a j)) X.1 X.2.1 X.2.2.2.2.1 hin X.2.2.2.1 X.2.2.2.2.2.1 hP a (by rw [wd_get (kc_lt hk (by omega)), en_obj hk hci]) hcl j hj (X.2.2.2.2.1 _ hlink) (fun _ q => q) ?_ d (k r h' e1 H locs ls hP hS hl)
  rw [fl_get hjl, hft]
  rfl
theorem so_getR (X : Cx p s m args c own cc nL D cA ad A) {ci j N ix a : Nat} {C : String} {T : u_T} (hin : ∀ w ∈ u_ws C T N, w ∈ WSG) (hcl : vwCl[ci]? = some (C, T, N)) (hj : j < N) (hjl : j < (ft ci).length) (hft : (ft ci).getD j 0 = 2) (hci : ci < 13) (hlink : Cond.fieldLink own ix (T j).1 (T j).2.1 (T j).2.2.1 ∈ WSG) (hk : (kd a).1 = ci) (d : decode cc pc = .ok (.getfield ix, 3)) (k : SWo QQ p l e R s m args below meth c cells slots nL D cA ad A (pc + 3) (L) (.ref (rt a j) :: st) (h) (o)) : SWo QQ p l e R s m args below meth c cells slots nL D cA ad A (pc) (L) (.ref a :: st) (h) (o) := by
  intro r h' e1 H locs ls hP hS hl
  refine va_get (v := .ref (ad (rt a j))) X.1 X.2.1 X.2.2.2.2.1 hin X.2.2.2.1 X.2.2.2.2.2.1 hP a (by rw [wd_get (kc_lt hk (by omega)), en_obj hk hci]) hcl j hj (X.2.2.2.2.1 _ hlink) (fun _ q => q) ?_ d (k r h' e1 H locs ls hP hS hl)
  rw [fl_get hjl, hft]
  rfl
theorem so_putI (X : Cx p s m args c own cc nL D cA ad A) {ci j N ix a : Nat} {C : String} {T : u_T} (hin : ∀ w ∈ u_ws C T N, w ∈ WSG) (hcl : vwCl[ci]? = some (C, T, N)) (hj : j < N) (hjl : j < (ft ci).length) (hft : (ft ci).getD j 0 = 0) (hci : ci < 13) (ty0 : Nat → FieldType) (hty : ∀ k, k < N → parseFieldDescriptor (T k).2.2.1 = some (ty0 k)) (hnm : ∀ a, a < N → ∀ b, b < N → a ≠ b → (T a).2.1 ≠ (T b).2.1) (hfin : (T j).2.2.2 = false) (hlink : Cond.fieldLink own ix (T j).1 (T j).2.1 (T j).2.2.1 ∈ WSG) (hk : (kd a).1 = ci) {x : Int32} {g : PH → Option (α × PH)} (hn : narrow (ty0 j) (.int x) = .int x) (hfit : fits (ty0 j) (.int x) = true) (d : decode cc pc = .ok (.putfield ix, 3)) (k : ∀ h1, SWo QQ p l e R s m args below meth c cells slots nL D cA ad A (pc + 3) (L) (st) (h1) (g h1)) : SWo QQ p l e R s m args below meth c cells slots nL D cA ad A (pc) (L) (.int x :: .ref a :: st) (h) (lt (pI h a j x) g) := by
  intro r h' e1 H locs ls hP hS hl
  refine va_put (v := .int x) X.1 X.2.1 X.2.2.2.2.1 hin ty0 hty hnm X.2.2.2.1 X.2.2.2.2.2.1 hP (wd_D X.2.2.2.2.2.2.1 X.2.2.2.2.2.2.2.1) hS a (by rw [wd_get (kc_lt hk (by omega)), en_obj hk hci]) hcl j hj (X.2.2.2.2.1 _ hlink) (fun _ q => q) hfin (hty j hj) hn hfit (by rw [fl_len]; exact hjl) d (fun H1 locs1 hP1 _ hS1 => ?_)
  rw [wd_set (h' := pI h a j x) (by rw [en_obj hk hci, fl_pI hft]) pI_oth] at hP1
  exact k _ r h' e1 H1 locs1 ls hP1 hS1 hl
theorem so_putL (X : Cx p s m args c own cc nL D cA ad A) {ci j N ix a : Nat} {C : String} {T : u_T} (hin : ∀ w ∈ u_ws C T N, w ∈ WSG) (hcl : vwCl[ci]? = some (C, T, N)) (hj : j < N) (hjl : j < (ft ci).length) (hft : (ft ci).getD j 0 = 1) (hci : ci < 13) (ty0 : Nat → FieldType) (hty : ∀ k, k < N → parseFieldDescriptor (T k).2.2.1 = some (ty0 k)) (hnm : ∀ a, a < N → ∀ b, b < N → a ≠ b → (T a).2.1 ≠ (T b).2.1) (hfin : (T j).2.2.2 = false) (hlink : Cond.fieldLink own ix (T j).1 (T j).2.1 (T j).2.2.1 ∈ WSG) (hk : (kd a).1 = ci) {x : Int64} {g : PH → Option (α × PH)} (hn : narrow (ty0 j) (.long x) = .long x) (hfit : fits (ty0 j) (.long x) = true) (d : decode cc pc = .ok (.putfield ix, 3)) (k : ∀ h1, SWo QQ p l e R s m args below meth c cells slots nL D cA ad A (pc + 3) (L) (st) (h1) (g h1)) : SWo QQ p l e R s m args below meth c cells slots nL D cA ad A (pc) (L) (.long x :: .ref a :: st) (h) (lt (pL h a j x) g) := by
  intro r h' e1 H locs ls hP hS hl
  refine va_put (v := .long x) X.1 X.2.1 X.2.2.2.2.1 hin ty0 hty hnm X.2.2.2.1 X.2.2.2.2.2.1 hP (wd_D X.2.2.2.2.2.2.1 X.2.2.2.2.2.2.2.1) hS a (by rw [wd_get (kc_lt hk (by omega)), en_obj hk hci]) hcl j hj (X.2.2.2.2.1 _ hlink) (fun _ q => q) hfin (hty j hj) hn hfit (by rw [fl_len]; exact hjl) d (fun H1 locs1 hP1 _ hS1 => ?_)
  rw [wd_set (h' := pL h a j x) (by rw [en_obj hk hci, fl_pL hft]) pL_oth] at hP1
  exact k _ r h' e1 H1 locs1 ls hP1 hS1 hl
theorem so_iald (X : Cx p s m args c own cc nL D cA ad A) {a n : Nat} {i : Int32} {g : Int32 → Option (α × PH)} (hk : kd a = (13, n)) (d : decode cc pc = .ok (.iaload, 1)) (k : ∀ v, SWo QQ p l e R s m args below meth c cells slots nL D cA ad A (pc + 1) (L) (.int v :: st) (h) (g v)) : SWo QQ p l e R s m args below meth c cells slots nL D cA ad A (pc) (L) (.int i :: .ref a :: st) (h) (ldI h a n i g) := by
  intro r h' e1 H locs ls hP hS hl
  by_cases hx : 0 ≤ i.toInt ∧ i.toInt < (n : Int)
  · unfold ldI at e1; rw [if_pos hx] at e1
    exact va_iald X.1 X.2.1 X.2.2.2.2.2.1 hP a 0 (by rw [wd_get (kc_lt2 hk (by decide)), en_ints hk (by decide) (by decide)]) rfl (ix_in hx) d (k _ r h' e1 H locs ls hP hS hl)
  · unfold ldI at e1; rw [if_neg hx] at e1; cases e1
theorem so_bald (X : Cx p s m args c own cc nL D cA ad A) {a n : Nat} {i : Int32} {g : Int32 → Option (α × PH)} (hk : kd a = (14, n)) (d : decode cc pc = .ok (.baload, 1)) (k : ∀ v, SWo QQ p l e R s m args below meth c cells slots nL D cA ad A (pc + 1) (L) (.int v :: st) (h) (g v)) : SWo QQ p l e R s m args below meth c cells slots nL D cA ad A (pc) (L) (.int i :: .ref a :: st) (h) (ldI h a n i g) := by
  intro r h' e1 H locs ls hP hS hl
  by_cases hx : 0 ≤ i.toInt ∧ i.toInt < (n : Int)
  · unfold ldI at e1; rw [if_pos hx] at e1
    exact va_bald X.1 X.2.1 X.2.2.2.2.2.1 hP a 1 (by rw [wd_get (kc_lt2 hk (by decide)), en_ints hk (by decide) (by decide)]) rfl (ix_in hx) d (k _ r h' e1 H locs ls hP hS hl)
  · unfold ldI at e1; rw [if_neg hx] at e1; cases e1
theorem so_zald (X : Cx p s m args c own cc nL D cA ad A) {a n : Nat} {i : Int32} {g : Int32 → Option (α × PH)} (hk : kd a = (15, n)) (d : decode cc pc = .ok (.baload, 1)) (k : ∀ v, SWo QQ p l e R s m args below meth c cells slots nL D cA ad A (pc + 1) (L) (.int v :: st) (h) (g v)) : SWo QQ p l e R s m args below meth c cells slots nL D cA ad A (pc) (L) (.int i :: .ref a :: st) (h) (ldI h a n i g) := by
  intro r h' e1 H locs ls hP hS hl
  by_cases hx : 0 ≤ i.toInt ∧ i.toInt < (n : Int)
  · unfold ldI at e1; rw [if_pos hx] at e1
    exact va_zald X.1 X.2.1 X.2.2.2.2.2.1 hP a 2 (by rw [wd_get (kc_lt2 hk (by decide)), en_ints hk (by decide) (by decide)]) rfl (ix_in hx) d (k _ r h' e1 H locs ls hP hS hl)
  · unfold ldI at e1; rw [if_neg hx] at e1; cases e1
theorem so_lald (X : Cx p s m args c own cc nL D cA ad A) {a n : Nat} {i : Int32} {g : Int64 → Option (α × PH)} (hk : kd a = (16, n)) (d : decode cc pc = .ok (.laload, 1)) (k : ∀ v, SWo QQ p l e R s m args below meth c cells slots nL D cA ad A (pc + 1) (L) (.long v :: st) (h) (g v)) : SWo QQ p l e R s m args below meth c cells slots nL D cA ad A (pc) (L) (.int i :: .ref a :: st) (h) (ldL h a n i g) := by
  intro r h' e1 H locs ls hP hS hl
  by_cases hx : 0 ≤ i.toInt ∧ i.toInt < (n : Int)
  · unfold ldL at e1; rw [if_pos hx] at e1
    exact va_lald X.1 X.2.1 X.2.2.2.2.2.1 hP a 3 (by rw [wd_get (kc_lt2 hk (by decide)), en_longs hk]) rfl (ix_in hx) d (k _ r h' e1 H locs ls hP hS hl)
  · unfold ldL at e1; rw [if_neg hx] at e1; cases e1
theorem so_iast (X : Cx p s m args c own cc nL D cA ad A) {a n : Nat} {i : Int32} {x : Int32} {g : PH → Option (α × PH)} (hk : kd a = (13, n)) (d : decode cc pc = .ok (.iastore, 1)) (k : ∀ h1, SWo QQ p l e R s m args below meth c cells slots nL D cA ad A (pc + 1) (L) (st) (h1) (g h1)) : SWo QQ p l e R s m args below meth c cells slots nL D cA ad A (pc) (L) (.int x :: .int i :: .ref a :: st) (h) (stI h a n i (x) g) := by
  intro r h' e1 H locs ls hP hS hl
  by_cases hx : 0 ≤ i.toInt ∧ i.toInt < (n : Int)
  · unfold stI at e1; rw [if_pos hx] at e1
    refine va_iast X.1 X.2.1 X.2.2.2.2.2.1 hP (wd_D X.2.2.2.2.2.2.1 X.2.2.2.2.2.2.2.1) hS a 0 (by rw [wd_get (kc_lt2 hk (by decide)), en_ints hk (by decide) (by decide)]) rfl (ix_in hx) d (fun H1 locs1 hP1 _ hS1 => ?_)
    rw [wd_set (h' := pI h a i.toNatClampNeg (x)) (by rw [en_ints hk (by decide) (by decide), upd_pI]) pI_oth] at hP1
    exact k _ r h' e1 H1 locs1 ls hP1 hS1 hl
  · unfold stI at e1; rw [if_neg hx] at e1; cases e1
theorem so_bast (X : Cx p s m args c own cc nL D cA ad A) {a n : Nat} {i : Int32} {x : Int32} {g : PH → Option (α × PH)} (hk : kd a = (14, n)) (d : decode cc pc = .ok (.bastore, 1)) (k : ∀ h1, SWo QQ p l e R s m args below meth c cells slots nL D cA ad A (pc + 1) (L) (st) (h1) (g h1)) : SWo QQ p l e R s m args below meth c cells slots nL D cA ad A (pc) (L) (.int x :: .int i :: .ref a :: st) (h) (stI h a n i (vp_nar .byte x) g) := by
  intro r h' e1 H locs ls hP hS hl
  by_cases hx : 0 ≤ i.toInt ∧ i.toInt < (n : Int)
  · unfold stI at e1; rw [if_pos hx] at e1
    refine va_bast X.1 X.2.1 X.2.2.2.2.2.1 hP (wd_D X.2.2.2.2.2.2.1 X.2.2.2.2.2.2.2.1) hS a 1 (by rw [wd_get (kc_lt2 hk (by decide)), en_ints hk (by decide) (by decide)]) rfl (ix_in hx) d (fun H1 locs1 hP1 _ hS1 => ?_)
    rw [wd_set (h' := pI h a i.toNatClampNeg (vp_nar .byte x)) (by rw [en_ints hk (by decide) (by decide), upd_pI]) pI_oth] at hP1
    exact k _ r h' e1 H1 locs1 ls hP1 hS1 hl
  · unfold stI at e1; rw [if_neg hx] at e1; cases e1
theorem so_zast (X : Cx p s m args c own cc nL D cA ad A) {a n : Nat} {i : Int32} {x : Int32} {g : PH → Option (α × PH)} (hk : kd a = (15, n)) (d : decode cc pc = .ok (.bastore, 1)) (k : ∀ h1, SWo QQ p l e R s m args below meth c cells slots nL D cA ad A (pc + 1) (L) (st) (h1) (g h1)) : SWo QQ p l e R s m args below meth c cells slots nL D cA ad A (pc) (L) (.int x :: .int i :: .ref a :: st) (h) (stI h a n i (vp_nar .boolean x) g) := by
  intro r h' e1 H locs ls hP hS hl
  by_cases hx : 0 ≤ i.toInt ∧ i.toInt < (n : Int)
  · unfold stI at e1; rw [if_pos hx] at e1
    refine va_zast X.1 X.2.1 X.2.2.2.2.2.1 hP (wd_D X.2.2.2.2.2.2.1 X.2.2.2.2.2.2.2.1) hS a 2 (by rw [wd_get (kc_lt2 hk (by decide)), en_ints hk (by decide) (by decide)]) rfl (ix_in hx) d (fun H1 locs1 hP1 _ hS1 => ?_)
    rw [wd_set (h' := pI h a i.toNatClampNeg (vp_nar .boolean x)) (by rw [en_ints hk (by decide) (by decide), upd_pI]) pI_oth] at hP1
    exact k _ r h' e1 H1 locs1 ls hP1 hS1 hl
  · unfold stI at e1; rw [if_neg hx] at e1; cases e1
theorem so_last (X : Cx p s m args c own cc nL D cA ad A) {a n : Nat} {i : Int32} {x : Int64} {g : PH → Option (α × PH)} (hk : kd a = (16, n)) (d : decode cc pc = .ok (.lastore, 1)) (k : ∀ h1, SWo QQ p l e R s m args below meth c cells slots nL D cA ad A (pc + 1) (L) (st) (h1) (g h1)) : SWo QQ p l e R s m args below meth c cells slots nL D cA ad A (pc) (L) (.long x :: .int i :: .ref a :: st) (h) (stL h a n i (x) g) := by
  intro r h' e1 H locs ls hP hS hl
  by_cases hx : 0 ≤ i.toInt ∧ i.toInt < (n : Int)
  · unfold stL at e1; rw [if_pos hx] at e1
    refine va_last X.1 X.2.1 X.2.2.2.2.2.1 hP (wd_D X.2.2.2.2.2.2.1 X.2.2.2.2.2.2.2.1) hS a 3 (by rw [wd_get (kc_lt2 hk (by decide)), en_longs hk]) rfl (ix_in hx) d (fun H1 locs1 hP1 _ hS1 => ?_)
    rw [wd_set (h' := pL h a i.toNatClampNeg (x)) (by rw [en_longs hk, upd_pL]) pL_oth] at hP1
    exact k _ r h' e1 H1 locs1 ls hP1 hS1 hl
  · unfold stL at e1; rw [if_neg hx] at e1; cases e1
theorem so_aald (X : Cx p s m args c own cc nL D cA ad A) {a n c0 : Nat} {i : Int32} {g : Nat → Option (α × PH)} {ty : FieldType} (hk : kd a = (c0, n)) (h16 : 16 < c0) (h99 : c0 < 22) (t0 : Nat) (ht : ∀ cA : Nat → ClassId, (tyl cA)[t0]? = some (cA c0, ty)) (hty : ty.isReference = true) (d : decode cc pc = .ok (.aaload, 1)) (k : ∀ j, j < n → SWo QQ p l e R s m args below meth c cells slots nL D cA ad A (pc + 1) (L) (.ref (rt a j) :: st) (h) (g (rt a j))) : SWo QQ p l e R s m args below meth c cells slots nL D cA ad A (pc) (L) (.int i :: .ref a :: st) (h) (ldR a n i g) := by
  intro r h' e1 H locs ls hP hS hl
  by_cases hx : 0 ≤ i.toInt ∧ i.toInt < (n : Int)
  · unfold ldR at e1; rw [if_pos hx] at e1
    have hlt : i.toNatClampNeg < n := by have := ix_in hx; exact Nat.not_le.mp fun q => this (Or.inr q)
    have he := hP a _ (by rw [wd_get (kc_lt2 hk h99), en_refs hk h16 h99])
    exact W.aald (v := .ref (ad (rt a i.toNatClampNeg))) (ty := ty) X.1 X.2.1 he ((X.2.2.2.2.2.1.2 t0 _ (ht cA)).1 n (fun j => va_rf (some (ad (rt a j))))) hty (fun q => by cases q) (by show ¬ (i < 0 ∨ (arrV _ _ _).slots.size ≤ _); rw [arrV_size]; exact ix_in hx) (by show (arrV _ _ _).slots[_]? = _; rw [arrV_read _ _ hlt]; rfl) rfl rfl d (k _ hlt r h' e1 H locs ls hP hS hl)
  · unfold ldR at e1; rw [if_neg hx] at e1; cases e1
theorem so_pick (X : Cx p s m args c own cc nL D cA ad A) (ks : List Nat) (hL : lv_pick L ks = L') (k : SWo QQ p l e R s m args below meth c cells slots nL D cA ad A (pc) (L') (st) (h) (o)) : SWo QQ p l e R s m args below meth c cells slots nL D cA ad A (pc) (L) (st) (h) (o) :=
  fun r h' e1 H locs ls hP hS hl => k r h' e1 H locs ls hP hS (lv_sub hl ks (by rw [← hL]; simp [lv_pick, List.map_filterMap]))
end SO
end
section
def Aa (cA : Nat → ClassId) (ad : Nat → Nat) (sz : Nat) : Nat → Prop := fun q => (∃ i, i < nc cA ∧ q = ad i) ∨ sz ≤ q
def Pre (D : va_G) (cA : Nat → ClassId) (ad : Nat → Nat) (As : List Value) (h : PH) (sz : Nat) : Array Value → State → Prop := va_Pc (As.map (tv ad)) (fun U => U.heap.size = sz ∧ va_P D vwCl (wd cA ad h) U.heap ∧ va_K D vwCl (tyl cA) U ∧ RO ad (Aa cA ad sz) U U.heap)
def Pst {α : Type} (mk : α → Option Value) (D : va_G) (cA : Nat → ClassId) (ad : Nat → Nat) (A : Nat → Prop) (r : α) (h' : PH) : Array Value → State → Outcome → State → Prop := fun _ st oc t => oc = .returned ((mk r).map (tv ad)) ∧ va_P D vwCl (wd cA ad h') t.heap ∧ va_F A st t
/-- method y, called with As over the pure heap h, returns what o says (if o says something) -/
def CT {α : Type} (mk : α → Option Value) (l : Launch) (y : MethodName) (bytes : ByteArray) (maxL : Nat) (ret : Option FieldType) (rm : Room) (As : List Value) (h : PH) (o : Option (α × PH)) : Prop :=
  ∀ (D : va_G) (cA : Nat → ClassId) (ad : Nat → Nat) (sz : Nat), (∀ i j, i < nc cA → j < nc cA → ad i = ad j → i = j) → ∀ (r : α) (h' : PH), o = some (r, h') → Met l y (.code y bytes maxL ret :: WSG) rm (Pre D cA ad As h sz) (Pst mk D cA ad (Aa cA ad sz) r h') 0 0 (Aa cA ad sz)
abbrev mkI : Int32 → Option Value := fun r => some (.int r)
abbrev mkL : Int64 → Option Value := fun r => some (.long r)
abbrev mkR : Nat → Option Value := fun r => some (.ref r)
abbrev mkV : Unit → Option Value := fun _ => none
/-- the room of d calls within one another -/
def rmd (d : Nat) : Room := { frames := d, cells := 0, slots := 0, locals := 48 * d }
def zr (v : Int32) (h : PH) : Option (Int32 × PH) := if v &&& 1 = v then some (v, h) else none
def QM {α : Type} (mk : α → Option Value) (below : List Frame) (args : Array Value) (s : State) (D : va_G) (cA : Nat → ClassId) (ad : Nat → Nat) (A : Nat → Prop) : α → PH → State → Prop := fun r h' => MQ below (Pst mk D cA ad A r h') args s 0 0 A
theorem lv_args_tq (ad : Nat → Nat) : ∀ (i : Nat) (As : List Value), lv_args i (As.map (tv ad)) = (lv_args i As).map (tq ad)
  | _, [] => rfl
  | i, v :: vs => by
    show (i, tv ad v) :: lv_args (if (tv ad v).category = 2 then i + 2 else i + 1) (vs.map (tv ad)) = _
    rw [tv_cat, lv_args_tq ad _ vs]
    rfl
theorem lg_sl_tv (ad : Nat → Nat) : ∀ (As : List Value), (lg_sl (As.map (tv ad))).length = (lg_sl As).length
  | [] => rfl
  | v :: vs => by
    have ih := lg_sl_tv ad vs
    unfold lg_sl at ih ⊢
    simp only [List.map_cons, List.flatMap_cons, List.length_append, ih, tv_cat]
    split <;> rfl
theorem ct_of {α : Type} {mk : α → Option Value} {l : Launch} {y : MethodName} {bytes : ByteArray} {maxL : Nat} {ret : Option FieldType} {rm : Room} {As : List Value} {h : PH} {o : Option (α × PH)} (hy : plainName y.cls = true) (hlen : (lg_sl As).length ≤ maxL)
    (body : ∀ (p : Program) (e : Env) (s : State) (m : MethodId) (args : Array Value) (below : List Frame) (meth : Method) (c : Code) (D : va_G) (cA : Nat → ClassId) (ad : Nat → Nat) (A : Nat → Prop), Cx p s m args c y.cls bytes maxL D cA ad A → meth.sig.returnType = ret → meth.locks = false → SWo (QM mk below args s D cA ad A) p l e rm s m args below meth c 0 0 maxL D cA ad A 0 (lv_args 0 As) [] h o) : CT mk l y bytes maxL ret rm As h o := by
  intro D cA ad sz hinj r h' ho
  refine Met.ofW (cc := bytes) (maxL := maxL) (ret := ret) hy rfl ?_
  intro p e s m args below meth c s₁ B hml hv
  obtain ⟨rfl, hsz, hP, hK, hRO⟩ := hv
  subst hsz
  have hts := atoms_spec (ws := .code y bytes maxL ret :: WSG) B.pre
  have hown : s.vm.findClass y.cls = some m.cls := findClass_of_methodNamed B.named
  have hl := lv_entry (As.map (tv ad)) (n := maxL) (by rw [lg_sl_tv]; exact hlen)
  rw [lg_entry_eq]
  rw [lv_args_tq] at hl
  exact body p e s m _ below meth c D cA ad (Aa cA ad s.heap.size) ⟨B.exec, B.bytes, hml, hown, fun w hw => hts w (List.mem_cons_of_mem _ hw), hK, hinj, fun i hi => Or.inl ⟨i, hi, rfl⟩, fun q hq => Or.inr hq, hRO⟩ B.returns B.notSynchronized r h' ho s.heap [] _ hP va_S.rf hl
theorem pre_blind {D : va_G} {cA : Nat → ClassId} {ad : Nat → Nat} {As : List Value} {h : PH} {sz : Nat} : FrameBlind (Pre D cA ad As h sz) := fun a U g mk q => by
  obtain ⟨q0, q1, qP, qK, qR⟩ := q
  exact ⟨q0, q1, qP, va_K.moved (u := U) (U := U.calling g mk a) (Vm.Alike.refl U.vm) qK, RO.same (U := U) (V := U.calling g mk a) qR rfl⟩
theorem wsg_in {w : Cond} (h : w ∈ WSG) : w ∈ WSG ∧ ((w.onTables && w.keeps) = true ∨ ∃ ty, w = .arrayClass ty) := ⟨h, good_of_word (wsg_good h)⟩
theorem wsg_cons {w : Cond} (h : w ∈ WSG) : GoodIn WSG (w :: WSG) := fun _ hx => (List.mem_cons.mp hx).elim (fun e => e ▸ wsg_in h) wsg_in
theorem mk_list {ad : Nat → Nat} (v : Option Value) (st : List Value) : (v.map (tv ad)).toList ++ st.map (tv ad) = (v.toList ++ st).map (tv ad) := by
  cases v <;> simp
section SC
variable {p : Program} {l : Launch} {e : Env} {R : Room} {s : State} {m : MethodId} {args : Array Value} {below : List Frame} {meth : Method} {c : Code} {cells slots nL : Nat} {D : va_G} {cA : Nat → ClassId} {ad : Nat → Nat} {A : Nat → Prop} {own : String} {cc : ByteArray} {pc tgt : Nat} {L L' : List (Nat × Value)} {st : List Value} {h : PH} {α : Type} {QQ : α → PH → State → Prop} {o o1 o2 : Option (α × PH)}
theorem so_iret (X : Cx p s m args c own cc nL D cA ad A) {x : Int32} (hr : meth.sig.returnType = some .int) (hlk : meth.locks = false) (d : decode cc pc = .ok (.ireturn, 1)) : SWo (QM mkI below args s D cA ad A) p l e R s m args below meth c 0 0 nL D cA ad A (pc) (L) ([.int x]) (h) (some (x, h)) := by
  intro r h' e1 H locs ls hP hS hl
  cases e1
  exact W.iret (v := x) X.1 X.2.1 hr (fun t ht hW => ⟨rfl, by rw [ht]; exact hP, hS.F ht⟩) hS.2.2 d hlk
theorem so_zret (X : Cx p s m args c own cc nL D cA ad A) {x : Int32} (hr : meth.sig.returnType = some .boolean) (hlk : meth.locks = false) (d : decode cc pc = .ok (.ireturn, 1)) : SWo (QM mkI below args s D cA ad A) p l e R s m args below meth c 0 0 nL D cA ad A (pc) (L) ([.int x]) (h) (zr x h) := by
  intro r h' e1 H locs ls hP hS hl
  unfold zr at e1
  by_cases hx : x &&& 1 = x
  · rw [if_pos hx] at e1
    cases e1
    exact W.zret (v := x) X.1 X.2.1 hr (by show Value.int (x &&& 1) = _; rw [hx]) (fun t ht hW => ⟨rfl, by rw [ht]; exact hP, hS.F ht⟩) hS.2.2 d hlk
  · rw [if_neg hx] at e1
    cases e1
theorem so_lret (X : Cx p s m args c own cc nL D cA ad A) {x : Int64} (hr : meth.sig.returnType = some .long) (hlk : meth.locks = false) (d : decode cc pc = .ok (.lreturn, 1)) : SWo (QM mkL below args s D cA ad A) p l e R s m args below meth c 0 0 nL D cA ad A (pc) (L) ([.long x]) (h) (some (x, h)) := by
  intro r h' e1 H locs ls hP hS hl
  cases e1
  exact W.lret (v := x) X.1 X.2.1 hr (fun t ht hW => ⟨rfl, by rw [ht]; exact hP, hS.F ht⟩) hS.2.2 d hlk
theorem so_vret (X : Cx p s m args c own cc nL D cA ad A) (hr : meth.sig.returnType = none) (hlk : meth.locks = false) (d : decode cc pc = .ok (.return_, 1)) : SWo (QM mkV below args s D cA ad A) p l e R s m args below meth c 0 0 nL D cA ad A (pc) (L) ([]) (h) (some ((), h)) := by
  intro r h' e1 H locs ls hP hS hl
  cases e1
  exact W.vret X.1 X.2.1 hr (fun t ht hW => ⟨rfl, by rw [ht]; exact hP, hS.F ht⟩) hS.2.2 d hlk
theorem so_aret (X : Cx p s m args c own cc nL D cA ad A) {x : Nat} {C : String} (hr : meth.sig.returnType = some (.object C)) (hlk : meth.locks = false) (d : decode cc pc = .ok (.areturn, 1)) : SWo (QM mkR below args s D cA ad A) p l e R s m args below meth c 0 0 nL D cA ad A (pc) (L) ([.ref x]) (h) (some (x, h)) := by
  intro r h' e1 H locs ls hP hS hl
  cases e1
  exact W.aret (v := .ref (ad x)) X.1 X.2.1 hr (Or.inl ⟨C, rfl⟩) (Or.inr ⟨_, rfl⟩) (fun t ht hW => ⟨rfl, by rw [ht]; exact hP, hS.F ht⟩) hS.2.2 d hlk
theorem so_callVg (X : Cx p s m args c own cc nL D cA ad A) {β : Type} {mk : β → Option Value} {y : MethodName} {bytes : ByteArray} {maxL ix : Nat} {ret : Option FieldType} {rm : Room} {As : List Value} {f : Option (β × PH)} {g : β → PH → Option (α × PH)} {b n : Nat} {C : String} (hM : CT mk l y bytes maxL ret rm (.ref b :: As) h f) (hrecv : ∀ (H : Heap) (locs : List Loc), va_P D vwCl (wd cA ad h) H → va_S A s.heap H locs → ∃ cellB : Cell, H[ad b]? = some cellB ∧ cellB.vm.isStatics = false ∧ s.vm.findClass C = some cellB.cls) (hw1 : Cond.methodLink own ix y ∈ WSG) (hw2 : Cond.instanceMethod y ∈ WSG) (hw3 : Cond.selects C y y ∈ WSG) (hw4 : Cond.initialized C ∈ WSG) (hw5 : Cond.code y bytes maxL ret ∈ WSG)
    (hd : y.cls = C ∧ y.cls ≠ "java/lang/invoke/MethodHandle" ∧ y.cls ≠ "java/lang/invoke/VarHandle" ∧ (parseMethodDescriptor y.desc).map (fun d => d.parameters.length) = some n) (hn : As.length = n) (hrc : rm.cells = 0) (hrs : rm.slots = 0) (hR : rm.frames + 1 ≤ R.frames ∧ 8 + (maxL + 11) + rm.locals ≤ R.locals) (hcs : cells ≤ R.cells ∧ slots ≤ R.slots) (hst : (st.map fun v => v.category).sum ≤ 8) (d : decode cc pc = .ok (.invokevirtual ix, 3)) (k : ∀ r h1, SWo QQ p l e R s m args below meth c cells slots nL D cA ad A (pc + 3) (L) ((mk r).toList ++ st) (h1) (g r h1)) {st0 : List Value} (hs0 : st0 = As.reverse ++ .ref b :: st) : SWo QQ p l e R s m args below meth c cells slots nL D cA ad A (pc) (L) (st0) (h) (cb f g) := by
  subst hs0
  intro r h' e1 H locs ls hP hS hl
  cases hf : f with
  | none => rw [hf] at e1; cases e1
  | some q =>
  rw [hf] at e1
  have M := hM D cA ad H.size X.2.2.2.2.2.2.1 q.1 q.2 hf
  have hA1 : ∀ q, Aa cA ad H.size q → A q := fun q hq => hq.elim (fun ⟨i, hi, he⟩ => he ▸ X.2.2.2.2.2.2.2.1 i hi) (fun hq => X.2.2.2.2.2.2.2.2.1 q (Nat.le_trans hS.1 hq))
  have hG : GoodIn WSG (wsV own ix C y (.code y bytes maxL ret :: WSG)) := by
    intro w hw
    simp only [wsV, List.mem_append, List.mem_cons, List.not_mem_nil, or_false] at hw
    rcases hw with (rfl | rfl | rfl | rfl) | rfl | hw
    · exact wsg_in hw1
    · exact wsg_in hw2
    · exact wsg_in hw3
    · exact wsg_in hw4
    · exact wsg_in hw5
    · exact wsg_in hw
  have run := va_runV (p := p) (l := l) (e := e) (R := R) (below := below) (meth := meth) (locs := locs) (cells := cells) (slots := slots) (C := C) (b := ad b) (As := As.map (tv ad)) (rest := st.map (tv ad)) (g := F0 m pc ls ((As.reverse ++ .ref b :: st).map (tv ad))) ⟨X.1, X.2.1, X.2.2.1, X.2.2.2.1, X.2.2.2.2.1⟩ M (cwV n X.2.2.2.2.1 hG rfl hrc hrs hd hR) ⟨pre_blind, hrecv H locs hP hS, fun U hU hW => ⟨rfl, by rw [hU], by rw [hU]; exact hP, va_K.moved hW.alike X.2.2.2.2.2.1, by rw [hU]; exact RO.step X.2.2.2.2.2.2.2.2.2 hS hA1 hW⟩⟩ rfl (by rw [List.length_map]; exact hn) hl.1 (by show List.map _ _ = _; simp [tv]) (lv_room (by rw [List.map_map]; have e9 : ((fun v : Value => v.category) ∘ tv ad) = (fun v => v.category) := funext (tv_cat ad); rw [e9]; exact hst)) d ⟨hcs.1, hcs.2⟩
  intro T hT XS
  obtain ⟨v, st₀, t, T', Lc, h0, X', hLc, e1', e2', ⟨hv, hP1, hF⟩, go⟩ := run T hT XS
  cases hv
  obtain ⟨k1, k2, k3⟩ := vx_keep h0 e1' hS (fun q _ hq => hA1 q hq) hA1 hLc hF
  obtain ⟨t2, a1, b1⟩ := k q.1 q.2 r h' e1 T'.heap (locs ++ Lc) ls (by rw [e1']; exact hP1) k3 hl T' rfl X'
  refine ⟨t2, go t2 ?_, b1⟩
  rw [← mk_list] at a1
  exact a1
theorem so_callV (X : Cx p s m args c own cc nL D cA ad A) {β : Type} {mk : β → Option Value} {y : MethodName} {bytes : ByteArray} {maxL ix : Nat} {ret : Option FieldType} {rm : Room} {As : List Value} {f : Option (β × PH)} {g : β → PH → Option (α × PH)} {ci b N n : Nat} {C : String} {T : u_T} (hM : CT mk l y bytes maxL ret rm (.ref b :: As) h f) (hk : (kd b).1 = ci) (hci : ci < 13) (hcl : vwCl[ci]? = some (C, T, N)) (hw1 : Cond.methodLink own ix y ∈ WSG) (hw2 : Cond.instanceMethod y ∈ WSG) (hw3 : Cond.selects C y y ∈ WSG) (hw4 : Cond.initialized C ∈ WSG) (hw5 : Cond.code y bytes maxL ret ∈ WSG)
    (hd : y.cls = C ∧ y.cls ≠ "java/lang/invoke/MethodHandle" ∧ y.cls ≠ "java/lang/invoke/VarHandle" ∧ (parseMethodDescriptor y.desc).map (fun d => d.parameters.length) = some n) (hn : As.length = n) (hrc : rm.cells = 0) (hrs : rm.slots = 0) (hR : rm.frames + 1 ≤ R.frames ∧ 8 + (maxL + 11) + rm.locals ≤ R.locals) (hcs : cells ≤ R.cells ∧ slots ≤ R.slots) (hst : (st.map fun v => v.category).sum ≤ 8) (d : decode cc pc = .ok (.invokevirtual ix, 3)) (k : ∀ r h1, SWo QQ p l e R s m args below meth c cells slots nL D cA ad A (pc + 3) (L) ((mk r).toList ++ st) (h1) (g r h1)) {st0 : List Value} (hs0 : st0 = As.reverse ++ .ref b :: st) : SWo QQ p l e R s m args below meth c cells slots nL D cA ad A (pc) (L) (st0) (h) (cb f g) :=
  so_callVg X hM (fun H locs hP _ => va_recv X.2.2.2.2.2.1 hP hcl (by rw [wd_get (kc_lt hk (by omega)), en_obj hk hci])) hw1 hw2 hw3 hw4 hw5 hd hn hrc hrs hR hcs hst d k hs0
theorem so_callT (X : Cx p s m args c own cc nL D cA ad A) {β : Type} {mk : β → Option Value} {y : MethodName} {bytes : ByteArray} {maxL ix : Nat} {ret : Option FieldType} {rm : Room} {As : List Value} {f : Option (β × PH)} {g : β → PH → Option (α × PH)} {i n : Nat} (hM : CT mk l y bytes maxL ret rm (.ref (200 + i) :: As) h f) (hi : i < NS) (hw1 : Cond.methodLink own ix y ∈ WSG) (hw2 : Cond.instanceMethod y ∈ WSG) (hw3 : Cond.selects "java/lang/String" y y ∈ WSG) (hw4 : Cond.initialized "java/lang/String" ∈ WSG) (hw5 : Cond.code y bytes maxL ret ∈ WSG)
    (hd : y.cls = "java/lang/String" ∧ y.cls ≠ "java/lang/invoke/MethodHandle" ∧ y.cls ≠ "java/lang/invoke/VarHandle" ∧ (parseMethodDescriptor y.desc).map (fun d => d.parameters.length) = some n) (hn : As.length = n) (hrc : rm.cells = 0) (hrs : rm.slots = 0) (hR : rm.frames + 1 ≤ R.frames ∧ 8 + (maxL + 11) + rm.locals ≤ R.locals) (hcs : cells ≤ R.cells ∧ slots ≤ R.slots) (hst : (st.map fun v => v.category).sum ≤ 8) (d : decode cc pc = .ok (.invokevirtual ix, 3)) (k : ∀ r h1, SWo QQ p l e R s m args below meth c cells slots nL D cA ad A (pc + 3) (L) ((mk r).toList ++ st) (h1) (g r h1)) {st0 : List Value} (hs0 : st0 = As.reverse ++ .ref (200 + i) :: st) : SWo QQ p l e R s m args below meth c cells slots nL D cA ad A (pc) (L) (st0) (h) (cb f g) :=
  so_callVg X hM (fun H locs _ hS => by
    obtain ⟨cell, q1, q2, q3, -⟩ := (X.2.2.2.2.2.2.2.2.2.1 i hi).1.kept hS.2.1
    exact ⟨cell, q1, q2, q3⟩) hw1 hw2 hw3 hw4 hw5 hd hn hrc hrs hR hcs hst d k hs0
theorem so_callS (X : Cx p s m args c own cc nL D cA ad A) {β : Type} {mk : β → Option Value} {y : MethodName} {bytes : ByteArray} {maxL ix : Nat} {ret : Option FieldType} {rm : Room} {As : List Value} {f : Option (β × PH)} {g : β → PH → Option (α × PH)} {n : Nat} (hM : CT mk l y bytes maxL ret rm As h f) (hw1 : Cond.methodLink own ix y ∈ WSG) (hw2 : Cond.static y ∈ WSG) (hw4 : Cond.initialized y.cls ∈ WSG) (hw5 : Cond.code y bytes maxL ret ∈ WSG)
    (hd : y.cls ≠ "java/lang/invoke/MethodHandle" ∧ y.cls ≠ "java/lang/invoke/VarHandle" ∧ (parseMethodDescriptor y.desc).map (fun d => d.parameters.length) = some n) (hn : As.length = n) (hrc : rm.cells = 0) (hrs : rm.slots = 0) (hR : rm.frames + 1 ≤ R.frames ∧ 8 + (maxL + 11) + rm.locals ≤ R.locals) (hcs : cells ≤ R.cells ∧ slots ≤ R.slots) (hst : (st.map fun v => v.category).sum ≤ 8) (d : decode cc pc = .ok (.invokestatic ix, 3)) (k : ∀ r h1, SWo QQ p l e R s m args below meth c cells slots nL D cA ad A (pc + 3) (L) ((mk r).toList ++ st) (h1) (g r h1)) {st0 : List Value} (hs0 : st0 = As.reverse ++ st) : SWo QQ p l e R s m args below meth c cells slots nL D cA ad A (pc) (L) (st0) (h) (cb f g) := by
  subst hs0
  intro r h' e1 H locs ls hP hS hl
  cases hf : f with
  | none => rw [hf] at e1; cases e1
  | some q =>
  rw [hf] at e1
  have M := hM D cA ad H.size X.2.2.2.2.2.2.1 q.1 q.2 hf
  have hA1 : ∀ q, Aa cA ad H.size q → A q := fun q hq => hq.elim (fun ⟨i, hi, he⟩ => he ▸ X.2.2.2.2.2.2.2.1 i hi) (fun hq => X.2.2.2.2.2.2.2.2.1 q (Nat.le_trans hS.1 hq))
  have run := va_runS (p := p) (l := l) (e := e) (R := R) (below := below) (meth := meth) (locs := locs) (cells := cells) (slots := slots) (As := As.map (tv ad)) (rest := st.map (tv ad)) (g := F0 m pc ls ((As.reverse ++ st).map (tv ad))) ⟨X.1, X.2.1, X.2.2.1, X.2.2.2.1, X.2.2.2.2.1⟩ M ⟨callB_of n X.2.2.2.2.1 (wsg_cons hw5) rfl hrc hrs (X.2.2.2.2.1 _ hw4) (X.2.2.2.2.1 _ hw1) hd hR, X.2.2.2.2.1 _ hw2⟩ ⟨pre_blind, fun U hU hW => ⟨rfl, by rw [hU], by rw [hU]; exact hP, va_K.moved hW.alike X.2.2.2.2.2.1, by rw [hU]; exact RO.step X.2.2.2.2.2.2.2.2.2 hS hA1 hW⟩⟩ rfl (by rw [List.length_map]; exact hn) hl.1 (by show List.map _ _ = _; simp) (lv_room (by rw [List.map_map]; have e9 : ((fun v : Value => v.category) ∘ tv ad) = (fun v => v.category) := funext (tv_cat ad); rw [e9]; exact hst)) d ⟨hcs.1, hcs.2⟩
  intro T hT XS
  obtain ⟨v, st₀, t, T', Lc, h0, X', hLc, e1', e2', ⟨hv, hP1, hF⟩, go⟩ := run T hT XS
  cases hv
  obtain ⟨k1, k2, k3⟩ := vx_keep h0 e1' hS (fun q _ hq => hA1 q hq) hA1 hLc hF
  obtain ⟨t2, a1, b1⟩ := k q.1 q.2 r h' e1 T'.heap (locs ++ Lc) ls (by rw [e1']; exact hP1) k3 hl T' rfl X'
  refine ⟨t2, go t2 ?_, b1⟩
  rw [← mk_list] at a1
  exact a1
def FF (ci j : Nat) (C : String) (T : u_T) (N code : Nat) : Prop := (∀ w ∈ u_ws C T N, w ∈ WSG) ∧ vwCl[ci]? = some (C, T, N) ∧ j < N ∧ j < (ft ci).length ∧ (ft ci).getD j 0 = code ∧ ci < 13
def FT (T : u_T) (N : Nat) (ty0 : Nat → FieldType) : Prop := (∀ k, k < N → parseFieldDescriptor (T k).2.2.1 = some (ty0 k)) ∧ ∀ a, a < N → ∀ b, b < N → a ≠ b → (T a).2.1 ≠ (T b).2.1
theorem sf_getI (X : Cx p s m args c own cc nL D cA ad A) {ci j N ix a : Nat} {C : String} {T : u_T} (F : FF ci j C T N 0) (hlink : Cond.fieldLink own ix (T j).1 (T j).2.1 (T j).2.2.1 ∈ WSG) (hk : (kd a).1 = ci) (d : decode cc pc = .ok (.getfield ix, 3)) (k : SWo QQ p l e R s m args below meth c cells slots nL D cA ad A (pc + 3) (L) (.int (h.1 a j) :: st) (h) (o)) : SWo QQ p l e R s m args below meth c cells slots nL D cA ad A (pc) (L) (.ref a :: st) (h) (o) :=
  so_getI X F.1 F.2.1 F.2.2.1 F.2.2.2.1 F.2.2.2.2.1 F.2.2.2.2.2 hlink hk d k
theorem sf_getL (X : Cx p s m args c own cc nL D cA ad A) {ci j N ix a : Nat} {C : String} {T : u_T} (F : FF ci j C T N 1) (hlink : Cond.fieldLink own ix (T j).1 (T j).2.1 (T j).2.2.1 ∈ WSG) (hk : (kd a).1 = ci) (d : decode cc pc = .ok (.getfield ix, 3)) (k : SWo QQ p l e R s m args below meth c cells slots nL D cA ad A (pc + 3) (L) (.long (h.2 a j) :: st) (h) (o)) : SWo QQ p l e R s m args below meth c cells slots nL D cA ad A (pc) (L) (.ref a :: st) (h) (o) :=
  so_getL X F.1 F.2.1 F.2.2.1 F.2.2.2.1 F.2.2.2.2.1 F.2.2.2.2.2 hlink hk d k
theorem sf_getR (X : Cx p s m args c own cc nL D cA ad A) {ci j N ix a : Nat} {C : String} {T : u_T} (F : FF ci j C T N 2) (hlink : Cond.fieldLink own ix (T j).1 (T j).2.1 (T j).2.2.1 ∈ WSG) (hk : (kd a).1 = ci) (d : decode cc pc = .ok (.getfield ix, 3)) (k : SWo QQ p l e R s m args below meth c cells slots nL D cA ad A (pc + 3) (L) (.ref (rt a j) :: st) (h) (o)) : SWo QQ p l e R s m args below meth c cells slots nL D cA ad A (pc) (L) (.ref a :: st) (h) (o) :=
  so_getR X F.1 F.2.1 F.2.2.1 F.2.2.2.1 F.2.2.2.2.1 F.2.2.2.2.2 hlink hk d k
theorem sf_putI (X : Cx p s m args c own cc nL D cA ad A) {ci j N ix a : Nat} {C : String} {T : u_T} {ty0 : Nat → FieldType} (F : FF ci j C T N 0) (G : FT T N ty0) (hfin : (T j).2.2.2 = false) (hlink : Cond.fieldLink own ix (T j).1 (T j).2.1 (T j).2.2.1 ∈ WSG) (hk : (kd a).1 = ci) {x : Int32} {g : PH → Option (α × PH)} (hn : narrow (ty0 j) (.int x) = .int x) (hfit : fits (ty0 j) (.int x) = true) (d : decode cc pc = .ok (.putfield ix, 3)) (k : ∀ h1, SWo QQ p l e R s m args below meth c cells slots nL D cA ad A (pc + 3) (L) (st) (h1) (g h1)) : SWo QQ p l e R s m args below meth c cells slots nL D cA ad A (pc) (L) (.int x :: .ref a :: st) (h) (lt (pI h a j x) g) :=
  so_putI X F.1 F.2.1 F.2.2.1 F.2.2.2.1 F.2.2.2.2.1 F.2.2.2.2.2 ty0 G.1 G.2 hfin hlink hk hn hfit d k
theorem sf_putL (X : Cx p s m args c own cc nL D cA ad A) {ci j N ix a : Nat} {C : String} {T : u_T} {ty0 : Nat → FieldType} (F : FF ci j C T N 1) (G : FT T N ty0) (hfin : (T j).2.2.2 = false) (hlink : Cond.fieldLink own ix (T j).1 (T j).2.1 (T j).2.2.1 ∈ WSG) (hk : (kd a).1 = ci) {x : Int64} {g : PH → Option (α × PH)} (hn : narrow (ty0 j) (.long x) = .long x) (hfit : fits (ty0 j) (.long x) = true) (d : decode cc pc = .ok (.putfield ix, 3)) (k : ∀ h1, SWo QQ p l e R s m args below meth c cells slots nL D cA ad A (pc + 3) (L) (st) (h1) (g h1)) : SWo QQ p l e R s m args below meth c cells slots nL D cA ad A (pc) (L) (.long x :: .ref a :: st) (h) (lt (pL h a j x) g) :=
  so_putL X F.1 F.2.1 F.2.2.1 F.2.2.2.1 F.2.2.2.2.1 F.2.2.2.2.2 ty0 G.1 G.2 hfin hlink hk hn hfit d k
theorem so_join {J : Type} {jf : J} {g : J → Option (α × PH)} (P : J → Prop) (h1 : P jf) (k : ∀ j, P j → SWo QQ p l e R s m args below meth c cells slots nL D cA ad A (pc) (L) (st) (h) (g j)) : SWo QQ p l e R s m args below meth c cells slots nL D cA ad A (pc) (L) (st) (h) (lt jf g) := k jf h1
def lp {σ γ : Type} (body : (σ → PH → Option γ) → σ → PH → Option γ) : Nat → σ → PH → Option γ
  | 0, _, _ => none
  | n + 1, s, h => body (lp body n) s h
def FU : Nat := 1048576
theorem so_loop {σ : Type} {body : (σ → PH → Option (α × PH)) → σ → PH → Option (α × PH)} (Lf : σ → List (Nat × Value)) (B : ∀ rec : σ → PH → Option (α × PH), (∀ s1 h1, SWo QQ p l e R s m args below meth c cells slots nL D cA ad A (pc) (Lf s1) (st) (h1) (rec s1 h1)) → ∀ s1 h1, SWo QQ p l e R s m args below meth c cells slots nL D cA ad A (pc) (Lf s1) (st) (h1) (body rec s1 h1)) : ∀ (n : Nat) (s1 : σ) (h1 : PH), SWo QQ p l e R s m args below meth c cells slots nL D cA ad A (pc) (Lf s1) (st) (h1) (lp body n s1 h1)
  | 0, _, _ => fun _ _ e1 => by cases e1
  | n + 1, s1, h1 => B (lp body n) (so_loop Lf B n) s1 h1
theorem fo {i c n : Nat} (h : kd i = (c, n)) : (kd i).1 = c := by rw [h]
theorem pgm {β : Type} {l : List β} (i : Nat) {q : β} (h : l[i]? = some q) : q ∈ l := List.mem_of_getElem? h

theorem so_aaldK (X : Cx p s m args c own cc nL D cA ad A) {a n c0 : Nat} {i : Int32} {g : Nat → Option (α × PH)} {ty : FieldType} {K : Nat × Nat} (hk : kd a = (c0, n)) (h16 : 16 < c0) (h99 : c0 < 22) (t0 : Nat) (ht : ∀ cA : Nat → ClassId, (tyl cA)[t0]? = some (cA c0, ty)) (hty : ty.isReference = true) (hkv : ∀ j, j < n → kd (rt a j) = K) (d : decode cc pc = .ok (.aaload, 1)) (k : ∀ v, kd v = K → SWo QQ p l e R s m args below meth c cells slots nL D cA ad A (pc + 1) (L) (.ref v :: st) (h) (g v)) : SWo QQ p l e R s m args below meth c cells slots nL D cA ad A (pc) (L) (.int i :: .ref a :: st) (h) (ldR a n i g) :=
  so_aald X hk h16 h99 t0 ht hty d (fun j hj => k _ (hkv j hj))
theorem so_alen (X : Cx p s m args c own cc nL D cA ad A) {a n c0 : Nat} (hk : kd a = (c0, n)) (h13 : ¬ c0 < 13) (h99 : c0 < 22) (t0 : Nat) (ht : ∀ cA : Nat → ClassId, ∃ ty, (tyl cA)[t0]? = some (cA c0, ty)) (d : decode cc pc = .ok (.arraylength, 1)) (k : SWo QQ p l e R s m args below meth c cells slots nL D cA ad A (pc + 1) (L) (.int (Int32.ofNat n) :: st) (h) (o)) : SWo QQ p l e R s m args below meth c cells slots nL D cA ad A (pc) (L) (.ref a :: st) (h) (o) := by
  intro r h' e1 H locs ls hP hS hl
  obtain ⟨ty, hty⟩ := ht cA
  have hx : ∃ x : vp_A, x.1 = n ∧ en cA ad h a = .inl (cA c0, x) := by
    by_cases h1 : c0 < 16
    · exact ⟨_, rfl, en_ints hk h13 h1⟩
    · by_cases h2 : c0 = 16
      · subst h2; exact ⟨_, rfl, en_longs hk⟩
      · exact ⟨_, rfl, en_refs hk (by omega) h99⟩
  obtain ⟨x, hx1, hx2⟩ := hx
  exact va_alen X.1 X.2.1 X.2.2.2.2.2.1 hP a t0 (x := x) (by rw [wd_get (kc_lt2 hk h99), hx2]) hty (by rw [hx1]) d (k r h' e1 H locs ls hP hS hl)
theorem cat_tv (ad : Nat → Nat) (st : List Value) : ((st.map (tv ad)).map fun v => v.category).sum = (st.map fun v => v.category).sum := by
  rw [List.map_map]
  have e9 : ((fun v : Value => v.category) ∘ tv ad) = (fun v => v.category) := funext (tv_cat ad)
  rw [e9]
theorem rm_ok {dc d maxL : Nat} (h1 : dc + 1 ≤ d) (h2 : maxL ≤ 29) : (rmd dc).frames + 1 ≤ (rmd d).frames ∧ 8 + (maxL + 11) + (rmd dc).locals ≤ (rmd d).locals := by
  simp only [rmd]
  omega
abbrev mkT (r : Nat) : Unit → Option Value := fun _ => some (.ref r)
def gk {γ : Type} (r c : Nat) (o : Option γ) : Option γ := if (kd r).1 = c then o else none
def cpI (h : PH) (a0 a sp dp n : Nat) : PH := (fun c b => if c = a then va_cpy (h.1 a0) (h.1 a) sp dp n b else h.1 c b, h.2)
def cyI {γ : Type} (h : PH) (a0 n0 a n1 : Nat) (sp dp n : Int32) (g : PH → Option γ) : Option γ := if 0 ≤ sp.toInt ∧ 0 ≤ dp.toInt ∧ 0 ≤ n.toInt ∧ sp.toInt + n.toInt ≤ (n0 : Int) ∧ dp.toInt + n.toInt ≤ (n1 : Int) then g (cpI h a0 a sp.toNatClampNeg dp.toNatClampNeg n.toNatClampNeg) else none
theorem so_mmax (X : Cx p s m args c own cc nL D cA ad A) {ix : Nat} (w1 : Cond.methodLink own ix Lib.Math.max.name ∈ WSG) (w2 : Cond.static Lib.Math.max.name ∈ WSG) (w3 : Cond.initialized "java/lang/Math" ∈ WSG) (w4 : Cond.code Lib.Math.max.name Lib.Math.max.code 2 (some .int) ∈ WSG) (hf : 1 ≤ R.frames) (hlo : (st.map fun v => v.category).sum + 13 ≤ R.locals) (hcs : cells ≤ R.cells ∧ slots ≤ R.slots) {x y : Int32} (d : decode cc pc = .ok (.invokestatic ix, 3)) (k : SWo QQ p l e R s m args below meth c cells slots nL D cA ad A (pc + 3) (L) (.int (if x < y then y else x) :: st) (h) (o)) : SWo QQ p l e R s m args below meth c cells slots nL D cA ad A (pc) (L) (.int y :: .int x :: st) (h) (o) :=
  fun r h' e1 H locs ls hP hS hl => va_mmax X.1 X.2.1 (X.2.2.1.trans hl.1.symm) X.2.2.2.1 (X.2.2.2.2.1 _ w1) (X.2.2.2.2.1 _ w2) (X.2.2.2.2.1 _ w3) (X.2.2.2.2.1 _ w4) hf (by rw [cat_tv]; exact hlo) hcs.1 hcs.2 d (k r h' e1 H locs ls hP hS hl)
theorem so_mmin (X : Cx p s m args c own cc nL D cA ad A) {ix : Nat} (w1 : Cond.methodLink own ix Lib.Math.min.name ∈ WSG) (w2 : Cond.static Lib.Math.min.name ∈ WSG) (w3 : Cond.initialized "java/lang/Math" ∈ WSG) (w4 : Cond.code Lib.Math.min.name Lib.Math.min.code 2 (some .int) ∈ WSG) (hf : 1 ≤ R.frames) (hlo : (st.map fun v => v.category).sum + 13 ≤ R.locals) (hcs : cells ≤ R.cells ∧ slots ≤ R.slots) {x y : Int32} (d : decode cc pc = .ok (.invokestatic ix, 3)) (k : SWo QQ p l e R s m args below meth c cells slots nL D cA ad A (pc + 3) (L) (.int (if y < x then y else x) :: st) (h) (o)) : SWo QQ p l e R s m args below meth c cells slots nL D cA ad A (pc) (L) (.int y :: .int x :: st) (h) (o) :=
  fun r h' e1 H locs ls hP hS hl => va_mmin X.1 X.2.1 (X.2.2.1.trans hl.1.symm) X.2.2.2.1 (X.2.2.2.2.1 _ w1) (X.2.2.2.2.1 _ w2) (X.2.2.2.2.1 _ w3) (X.2.2.2.2.1 _ w4) hf (by rw [cat_tv]; exact hlo) hcs.1 hcs.2 d (k r h' e1 H locs ls hP hS hl)
theorem so_mmaxl (X : Cx p s m args c own cc nL D cA ad A) {ix : Nat} (w1 : Cond.methodLink own ix Lib.MathLoose.max_long.x ∈ WSG) (w2 : Cond.static Lib.MathLoose.max_long.x ∈ WSG) (w3 : Cond.initialized "java/lang/Math" ∈ WSG) (w4 : Cond.code Lib.MathLoose.max_long.x Lib.MathLoose.max_long.code 4 (some .long) ∈ WSG) (hf : 1 ≤ R.frames) (hlo : (st.map fun v => v.category).sum + 15 ≤ R.locals) (hcs : cells ≤ R.cells ∧ slots ≤ R.slots) {x y : Int64} (d : decode cc pc = .ok (.invokestatic ix, 3)) (k : SWo QQ p l e R s m args below meth c cells slots nL D cA ad A (pc + 3) (L) (.long (if y < x then x else y) :: st) (h) (o)) : SWo QQ p l e R s m args below meth c cells slots nL D cA ad A (pc) (L) (.long y :: .long x :: st) (h) (o) :=
  fun r h' e1 H locs ls hP hS hl => va_mmax_long X.1 X.2.1 (X.2.2.1.trans hl.1.symm) X.2.2.2.1 (X.2.2.2.2.1 _ w1) (X.2.2.2.2.1 _ w2) (X.2.2.2.2.1 _ w3) (X.2.2.2.2.1 _ w4) hf (by rw [cat_tv]; exact hlo) hcs.1 hcs.2 d (k r h' e1 H locs ls hP hS hl)
theorem so_mminl (X : Cx p s m args c own cc nL D cA ad A) {ix : Nat} (w1 : Cond.methodLink own ix Lib.MathLoose.min_long.x ∈ WSG) (w2 : Cond.static Lib.MathLoose.min_long.x ∈ WSG) (w3 : Cond.initialized "java/lang/Math" ∈ WSG) (w4 : Cond.code Lib.MathLoose.min_long.x Lib.MathLoose.min_long.code 4 (some .long) ∈ WSG) (hf : 1 ≤ R.frames) (hlo : (st.map fun v => v.category).sum + 15 ≤ R.locals) (hcs : cells ≤ R.cells ∧ slots ≤ R.slots) {x y : Int64} (d : decode cc pc = .ok (.invokestatic ix, 3)) (k : SWo QQ p l e R s m args below meth c cells slots nL D cA ad A (pc + 3) (L) (.long (if y < x then y else x) :: st) (h) (o)) : SWo QQ p l e R s m args below meth c cells slots nL D cA ad A (pc) (L) (.long y :: .long x :: st) (h) (o) :=
  fun r h' e1 H locs ls hP hS hl => va_mmin_long X.1 X.2.1 (X.2.2.1.trans hl.1.symm) X.2.2.2.1 (X.2.2.2.2.1 _ w1) (X.2.2.2.2.1 _ w2) (X.2.2.2.2.1 _ w3) (X.2.2.2.2.1 _ w4) hf (by rw [cat_tv]; exact hlo) hcs.1 hcs.2 d (k r h' e1 H locs ls hP hS hl)
theorem so_gk {a c0 : Nat} (k : (kd a).1 = c0 → SWo QQ p l e R s m args below meth c cells slots nL D cA ad A (pc) (L) (st) (h) (o)) : SWo QQ p l e R s m args below meth c cells slots nL D cA ad A (pc) (L) (st) (h) (gk a c0 o) := by
  intro r h' e1
  unfold gk at e1
  by_cases hx : (kd a).1 = c0
  · rw [if_pos hx] at e1; exact k hx r h' e1
  · rw [if_neg hx] at e1; cases e1
theorem so_tret (X : Cx p s m args c own cc nL D cA ad A) {x : Nat} {C : String} (hr : meth.sig.returnType = some (.object C)) (hlk : meth.locks = false) (d : decode cc pc = .ok (.areturn, 1)) : SWo (QM (mkT x) below args s D cA ad A) p l e R s m args below meth c 0 0 nL D cA ad A (pc) (L) ([.ref x]) (h) (some ((), h)) := by
  intro r h' e1 H locs ls hP hS hl
  cases e1
  exact W.aret (v := .ref (ad x)) X.1 X.2.1 hr (Or.inl ⟨C, rfl⟩) (Or.inr ⟨_, rfl⟩) (fun t ht hW => ⟨rfl, by rw [ht]; exact hP, hS.F ht⟩) hS.2.2 d hlk
theorem so_copyI (X : Cx p s m args c own cc nL D cA ad A) {ix a0 a n0 n1 : Nat} {sp dp n : Int32} {g : PH → Option (α × PH)} (hk0 : kd a0 = (13, n0)) (hk : kd a = (13, n1)) (w1 : Cond.methodLink own ix arraycopyName ∈ WSG) (w2 : Cond.native arraycopyName ∈ WSG) (w3 : Cond.static arraycopyName ∈ WSG) (w4 : Cond.initialized "java/lang/System" ∈ WSG) (hf : 1 ≤ R.frames) (hlo : (st.map fun v => v.category).sum + (nativeFrameWords "java/lang/System" "arraycopy" 5 + 11) ≤ R.locals) (d : decode cc pc = .ok (.invokestatic ix, 3)) (k : ∀ h1, SWo QQ p l e R s m args below meth c cells slots nL D cA ad A (pc + 3) (L) (st) (h1) (g h1)) : SWo QQ p l e R s m args below meth c cells slots nL D cA ad A (pc) (L) (.int n :: .int dp :: .ref a :: .int sp :: .ref a0 :: st) (h) (cyI h a0 n0 a n1 sp dp n g) := by
  intro r h' e1 H locs ls hP hS hl
  unfold cyI at e1
  by_cases hx : 0 ≤ sp.toInt ∧ 0 ≤ dp.toInt ∧ 0 ≤ n.toInt ∧ sp.toInt + n.toInt ≤ (n0 : Int) ∧ dp.toInt + n.toInt ≤ (n1 : Int)
  · rw [if_pos hx] at e1
    obtain ⟨p1, p2, p3, p4, p5⟩ := hx
    have ng : ∀ z : Int32, 0 ≤ z.toInt → ¬ z < 0 := fun z hz hq => by
      have := Int32.lt_iff_toInt_lt.mp hq
      simp at this
      omega
    have cl : ∀ z : Int32, 0 ≤ z.toInt → ((z.toNatClampNeg : Nat) : Int) = z.toInt := fun z hz => by
      simp only [Int32.toNatClampNeg]
      omega
    have c1 := cl sp p1
    have c2 := cl dp p2
    have c3 := cl n p3
    refine va_copyi X.1 X.2.1 (X.2.2.1.trans hl.1.symm) X.2.2.2.1 (X.2.2.2.2.1 _ w1) (X.2.2.2.2.1 _ w2) (X.2.2.2.2.1 _ w3) (X.2.2.2.2.1 _ w4) X.2.2.2.2.2.1 hP (wd_D X.2.2.2.2.2.2.1 X.2.2.2.2.2.2.2.1) hS a0 a 0 0 (f := h.1 a0) (g := h.1 a) (by rw [wd_get (kc_lt2 hk0 (by decide)), en_ints hk0 (by decide) (by decide)]) (by rw [wd_get (kc_lt2 hk (by decide)), en_ints hk (by decide) (by decide)]) rfl rfl rfl (ng sp p1) (ng dp p2) (ng n p3) (by omega) (by omega) (fun _ _ => rfl) hf (by rw [cat_tv]; exact hlo) d (fun H1 locs1 hP1 _ hS1 => ?_)
    rw [wd_set (cA := cA) (ad := ad) (h := h) (i := a) (e := .inl (cA 13, n1, .inl (va_cpy (h.1 a0) (h.1 a) sp.toNatClampNeg dp.toNatClampNeg n.toNatClampNeg))) (h' := cpI h a0 a sp.toNatClampNeg dp.toNatClampNeg n.toNatClampNeg) (by rw [en_ints hk (by decide) (by decide)]; simp [cpI]) (fun b hb => en_other (fun j => by simp [cpI, hb]) (fun _ => rfl))] at hP1
    exact k _ r h' e1 H1 locs1 ls hP1 hS1 hl
  · rw [if_neg hx] at e1; cases e1
theorem so_none : SWo QQ p l e R s m args below meth c cells slots nL D cA ad A (pc) (L) (st) (h) (none) := fun _ _ e1 => by cases e1
theorem so_ldcS (X : Cx p s m args c own cc nL D cA ad A) {ix n : Nat} {tx : String} (hq : (own, ix, tx, n) ∈ skL) (d : decode cc pc = .ok (.ldc ix, 2)) (k : SWo QQ p l e R s m args below meth c cells slots nL D cA ad A (pc + 2) (L) (.ref (200 + n) :: st) (h) (o)) : SWo QQ p l e R s m args below meth c cells slots nL D cA ad A (pc) (L) (st) (h) (o) :=
  fun r h' e1 H locs ls hP hS hl => va_ldcS X.1 X.2.1 X.2.2.2.1 (X.2.2.2.2.2.2.2.2.2.2.1 _ hq) d (k r h' e1 H locs ls hP hS hl)
theorem so_strC (X : Cx p s m args c own cc nL D cA ad A) {ix i : Nat} (hi : i < NS) (hlink : Cond.fieldLink own ix "java/lang/String" "coder" "B" ∈ WSG) (d : decode cc pc = .ok (.getfield ix, 3)) (k : SWo QQ p l e R s m args below meth c cells slots nL D cA ad A (pc + 3) (L) (.int 0 :: st) (h) (o)) : SWo QQ p l e R s m args below meth c cells slots nL D cA ad A (pc) (L) (.ref (200 + i) :: st) (h) (o) :=
  fun r h' e1 H locs ls hP hS hl => vk_getf X.1 X.2.1 (X.2.2.2.2.2.2.2.2.2.1 i hi).2.1 hS X.2.2.2.1 (X.2.2.2.2.1 _ hlink) (fun _ q => q) d (k r h' e1 H locs ls hP hS hl)
theorem so_strV (X : Cx p s m args c own cc nL D cA ad A) {ix i : Nat} (hi : i < NS) (hlink : Cond.fieldLink own ix "java/lang/String" "value" "[B" ∈ WSG) (d : decode cc pc = .ok (.getfield ix, 3)) (k : SWo QQ p l e R s m args below meth c cells slots nL D cA ad A (pc + 3) (L) (.ref (300 + i) :: st) (h) (o)) : SWo QQ p l e R s m args below meth c cells slots nL D cA ad A (pc) (L) (.ref (200 + i) :: st) (h) (o) :=
  fun r h' e1 H locs ls hP hS hl => vk_getf X.1 X.2.1 (X.2.2.2.2.2.2.2.2.2.1 i hi).2.2.1 hS X.2.2.2.1 (X.2.2.2.2.1 _ hlink) (fun _ q => q) d (k r h' e1 H locs ls hP hS hl)
theorem so_strL (X : Cx p s m args c own cc nL D cA ad A) {i : Nat} (hi : i < NS) (d : decode cc pc = .ok (.arraylength, 1)) (k : SWo QQ p l e R s m args below meth c cells slots nL D cA ad A (pc + 1) (L) (.int (Int32.ofNat (slen i)) :: st) (h) (o)) : SWo QQ p l e R s m args below meth c cells slots nL D cA ad A (pc) (L) (.ref (300 + i) :: st) (h) (o) :=
  fun r h' e1 H locs ls hP hS hl => va_tlen X.1 X.2.1 (X.2.2.2.2.2.2.2.2.2.1 i hi).2.2.2 hS rfl d (k r h' e1 H locs ls hP hS hl)
def ldS {γ : Type} (q : Nat) (i : Int32) (g : Int32 → Option γ) : Option γ := if 0 ≤ i.toInt ∧ i.toInt < (slen q : Int) then g ((sb q).getD i.toNatClampNeg 0) else none
def ldT {γ : Type} (i : Int32) (g : Int32 → Option γ) : Option γ := if 0 ≤ i.toInt ∧ i.toInt < ((11 : Nat) : Int) then g (tgL.getD i.toNatClampNeg 0) else none
def cr (v : Int32) (h : PH) : Option (Int32 × PH) := if v.toUInt32.toUInt16.toUInt32.toInt32 = v then some (v, h) else none
def br_ (v : Int32) (h : PH) : Option (Int32 × PH) := if v.toInt8.toInt32 = v then some (v, h) else none
theorem so_strB (X : Cx p s m args c own cc nL D cA ad A) {q : Nat} {i : Int32} {g : Int32 → Option (α × PH)} (hq : q < NS) (d : decode cc pc = .ok (.baload, 1)) (k : ∀ v, SWo QQ p l e R s m args below meth c cells slots nL D cA ad A (pc + 1) (L) (.int v :: st) (h) (g v)) : SWo QQ p l e R s m args below meth c cells slots nL D cA ad A (pc) (L) (.int i :: .ref (300 + q) :: st) (h) (ldS q i g) := by
  intro r h' e1 H locs ls hP hS hl
  by_cases hx : 0 ≤ i.toInt ∧ i.toInt < (slen q : Int)
  · unfold ldS at e1; rw [if_pos hx] at e1
    exact va_tb X.1 X.2.1 (X.2.2.2.2.2.2.2.2.2.1 q hq).2.2.2 hS (ix_in hx) rfl d (k _ r h' e1 H locs ls hP hS hl)
  · unfold ldS at e1; rw [if_neg hx] at e1; cases e1
theorem so_tgI (X : Cx p s m args c own cc nL D cA ad A) {i : Int32} {g : Int32 → Option (α × PH)} (d : decode cc pc = .ok (.iaload, 1)) (k : ∀ v, SWo QQ p l e R s m args below meth c cells slots nL D cA ad A (pc + 1) (L) (.int v :: st) (h) (g v)) : SWo QQ p l e R s m args below meth c cells slots nL D cA ad A (pc) (L) (.int i :: .ref 199 :: st) (h) (ldT i g) := by
  intro r h' e1 H locs ls hP hS hl
  by_cases hx : 0 ≤ i.toInt ∧ i.toInt < ((11 : Nat) : Int)
  · unfold ldT at e1; rw [if_pos hx] at e1
    exact va_ti X.1 X.2.1 X.2.2.2.2.2.2.2.2.2.2.2.2.1 hS (ix_in hx) rfl d (k _ r h' e1 H locs ls hP hS hl)
  · unfold ldT at e1; rw [if_neg hx] at e1; cases e1
theorem so_tgS (X : Cx p s m args c own cc nL D cA ad A) {ix : Nat} (hlink : Cond.fieldLink own ix "RainWishes$Parser" "TIGHT" "[I" ∈ WSG) (d : decode cc pc = .ok (.getstatic ix, 3)) (k : SWo QQ p l e R s m args below meth c cells slots nL D cA ad A (pc + 3) (L) (.ref 199 :: st) (h) (o)) : SWo QQ p l e R s m args below meth c cells slots nL D cA ad A (pc) (L) (st) (h) (o) :=
  fun r h' e1 H locs ls hP hS hl => va_gets X.1 X.2.1 X.2.2.2.2.2.2.2.2.2.2.2.1 hS X.2.2.2.1 (X.2.2.2.2.1 _ hlink) (fun _ q => q) d (k r h' e1 H locs ls hP hS hl)
theorem so_cmS (X : Cx p s m args c own cc nL D cA ad A) {ix : Nat} (hlink : Cond.fieldLink own ix "java/lang/String" "COMPACT_STRINGS" "Z" ∈ WSG) (d : decode cc pc = .ok (.getstatic ix, 3)) (k : SWo QQ p l e R s m args below meth c cells slots nL D cA ad A (pc + 3) (L) (.int 1 :: st) (h) (o)) : SWo QQ p l e R s m args below meth c cells slots nL D cA ad A (pc) (L) (st) (h) (o) :=
  fun r h' e1 H locs ls hP hS hl => va_gets X.1 X.2.1 X.2.2.2.2.2.2.2.2.2.2.2.2.2.1 hS X.2.2.2.1 (X.2.2.2.2.1 _ hlink) (fun _ q => q) d (k r h' e1 H locs ls hP hS hl)
theorem so_sfS (X : Cx p s m args c own cc nL D cA ad A) {ix : Nat} (hlink : Cond.fieldLink own ix "jdk/internal/util/Preconditions" "SIOOBE_FORMATTER" sfD ∈ WSG) (d : decode cc pc = .ok (.getstatic ix, 3)) (k : ∀ v : Value, v.category = 1 → SWo QQ p l e R s m args below meth c cells slots nL D cA ad A (pc + 3) (L) (v :: st) (h) (o)) : SWo QQ p l e R s m args below meth c cells slots nL D cA ad A (pc) (L) (st) (h) (o) := by
  intro r h' e1 H locs ls hP hS hl
  rcases X.2.2.2.2.2.2.2.2.2.2.2.2.2.2.1 with z | z
  · exact va_gets X.1 X.2.1 z hS X.2.2.2.1 (X.2.2.2.2.1 _ hlink) (fun _ q => q) d (k .null rfl r h' e1 H locs ls hP hS hl)
  · exact va_gets X.1 X.2.1 z hS X.2.2.2.1 (X.2.2.2.2.1 _ hlink) (fun _ q => q) d (k (.ref 198) rfl r h' e1 H locs ls hP hS hl)
theorem so_cret (X : Cx p s m args c own cc nL D cA ad A) {x : Int32} (hr : meth.sig.returnType = some .char) (hlk : meth.locks = false) (d : decode cc pc = .ok (.ireturn, 1)) : SWo (QM mkI below args s D cA ad A) p l e R s m args below meth c 0 0 nL D cA ad A (pc) (L) ([.int x]) (h) (cr x h) := by
  intro r h' e1 H locs ls hP hS hl
  unfold cr at e1
  by_cases hx : x.toUInt32.toUInt16.toUInt32.toInt32 = x
  · rw [if_pos hx] at e1
    cases e1
    exact W.zret (v := x) X.1 X.2.1 hr (by show Value.int (x.toUInt32.toUInt16.toUInt32.toInt32) = _; rw [hx]) (fun t ht hW => ⟨rfl, by rw [ht]; exact hP, hS.F ht⟩) hS.2.2 d hlk
  · rw [if_neg hx] at e1
    cases e1
theorem so_bret (X : Cx p s m args c own cc nL D cA ad A) {x : Int32} (hr : meth.sig.returnType = some .byte) (hlk : meth.locks = false) (d : decode cc pc = .ok (.ireturn, 1)) : SWo (QM mkI below args s D cA ad A) p l e R s m args below meth c 0 0 nL D cA ad A (pc) (L) ([.int x]) (h) (br_ x h) := by
  intro r h' e1 H locs ls hP hS hl
  unfold br_ at e1
  by_cases hx : x.toInt8.toInt32 = x
  · rw [if_pos hx] at e1
    cases e1
    exact W.zret (v := x) X.1 X.2.1 hr (by show Value.int (x.toInt8.toInt32) = _; rw [hx]) (fun t ht hW => ⟨rfl, by rw [ht]; exact hP, hS.F ht⟩) hS.2.2 d hlk
  · rw [if_neg hx] at e1
    cases e1
end SC
end
section
abbrev RF : Type := Nat → Nat → Option Nat
def rU (Q : RF) (i j v : Nat) : RF := fun a k => if a = i ∧ k = j then some v else Q a k
def rM (Q : RF) (i N : Nat) : RF := fun a k => if a = i ∧ k < N then some (i + 1 + k) else Q a k
def fvR (ad : Nat → Nat) (h : PH) (Q : RF) (i j t : Nat) : Value := match t with
  | 0 => .int (h.1 i j)
  | 1 => .long (h.2 i j)
  | _ => va_rf ((Q i j).map ad)
def flR (ad : Nat → Nat) (h : PH) (Q : RF) (i : Nat) (ts : List Nat) : List Value := (List.range ts.length).map (fun j => fvR ad h Q i j (ts.getD j 0))
theorem flR_get {ad : Nat → Nat} {h : PH} {Q : RF} {i k : Nat} {ts : List Nat} (hk : k < ts.length) : (flR ad h Q i ts)[k]? = some (fvR ad h Q i k (ts.getD k 0)) := by
  simp [flR, hk]
theorem flR_len {ad : Nat → Nat} {h : PH} {Q : RF} {i : Nat} {ts : List Nat} : (flR ad h Q i ts).length = ts.length := by simp [flR]
def enkR (cA : Nat → ClassId) (ad : Nat → Nat) (h : PH) (Q : RF) (i : Nat) (k : Nat × Nat) : va_E :=
  if k.1 < 13 then .inr (k.1, flR ad h Q i (ft k.1))
  else if k.1 < 16 then .inl (cA k.1, k.2, .inl (h.1 i))
  else if k.1 = 16 then .inl (cA k.1, k.2, .inr (.inl (h.2 i)))
  else if k.1 = 22 then .inl (cA 16, k.2, .inr (.inl (h.2 i)))
  else .inl (cA k.1, k.2, .inr (.inr (.inr (.inr (fun j => (Q i j).map ad)))))
def enR (cA : Nat → ClassId) (ad : Nat → Nat) (h : PH) (Q : RF) (i : Nat) : va_E := enkR cA ad h Q i (kd i)
abbrev adb (b : Nat) : Nat → Nat := fun i => b + i
def wdR (b n : Nat) (cA : Nat → ClassId) (h : PH) (Q : RF) : va_W := (List.range n).map (fun i => (b + i, enR cA (adb b) h Q i))
def WN (D : va_G) (cA : Nat → ClassId) (b n : Nat) (h : PH) (Q : RF) (H : Heap) : Prop := H.size = b + n ∧ va_P D vwCl (wdR b n cA h Q) H
def Ab (b : Nat) : Nat → Prop := fun q => b ≤ q
theorem wdR_get {b n : Nat} {cA : Nat → ClassId} {h : PH} {Q : RF} {i : Nat} (hi : i < n) : (wdR b n cA h Q)[i]? = some (b + i, enR cA (adb b) h Q i) := by
  simp [wdR, hi]
theorem wdR_lt {b n : Nat} {cA : Nat → ClassId} {h : PH} {Q : RF} {i : Nat} {q : Nat × va_E} (hq : (wdR b n cA h Q)[i]? = some q) : i < n ∧ q = (b + i, enR cA (adb b) h Q i) := by
  have hl : i < (wdR b n cA h Q).length := (List.getElem?_eq_some_iff.mp hq).1
  have hi : i < n := by simpa [wdR] using hl
  exact ⟨hi, (Option.some.inj (hq.symm.trans (wdR_get hi)))⟩
theorem wdR_D {b n : Nat} {cA : Nat → ClassId} {h : PH} {Q : RF} : va_D (Ab b) (wdR b n cA h Q) := by
  refine ⟨fun i j p q hp hq e => ?_, fun k q hq => ?_⟩
  · obtain ⟨a1, rfl⟩ := wdR_lt hp
    obtain ⟨a2, rfl⟩ := wdR_lt hq
    have e : b + i = b + j := e
    omega
  · obtain ⟨a1, rfl⟩ := wdR_lt hq
    exact Nat.le_add_right _ _
theorem wdR_set {b n : Nat} {cA : Nat → ClassId} {h h' : PH} {Q Q' : RF} {i : Nat} {e : va_E} (he : enR cA (adb b) h' Q' i = e) (ho : ∀ a, a ≠ i → enR cA (adb b) h' Q' a = enR cA (adb b) h Q a) : (wdR b n cA h Q).set i (b + i, e) = wdR b n cA h' Q' := by
  apply List.ext_getElem?
  intro k
  by_cases hk : k < n
  · by_cases hki : k = i
    · subst hki
      rw [List.getElem?_set_self (by simp [wdR, hk]), wdR_get hk, he]
    · rw [List.getElem?_set_ne (Ne.symm hki), wdR_get hk, wdR_get hk, ho k hki]
  · have h1 : ((wdR b n cA h Q).set i (b + i, e))[k]? = none := by
      rw [List.getElem?_eq_none_iff]; simp [wdR]; omega
    have h2 : (wdR b n cA h' Q')[k]? = none := by
      rw [List.getElem?_eq_none_iff]; simp [wdR]; omega
    rw [h1, h2]
theorem wdR_push {b n : Nat} {cA : Nat → ClassId} {h : PH} {Q : RF} : wdR b (n + 1) cA h Q = wdR b n cA h Q ++ [(b + n, enR cA (adb b) h Q n)] := by
  simp [wdR, List.range_succ]
theorem fvR_other {ad : Nat → Nat} {h h' : PH} {Q Q' : RF} {a j t : Nat} (h1 : h'.1 a j = h.1 a j) (h2 : h'.2 a j = h.2 a j) (h3 : Q' a j = Q a j) : fvR ad h' Q' a j t = fvR ad h Q a j t := by
  unfold fvR
  split <;> simp [h1, h2, h3]
theorem enR_other {cA : Nat → ClassId} {ad : Nat → Nat} {h h' : PH} {Q Q' : RF} {a : Nat} (h1 : ∀ j, h'.1 a j = h.1 a j) (h2 : ∀ j, h'.2 a j = h.2 a j) (h3 : ∀ j, Q' a j = Q a j) : enR cA ad h' Q' a = enR cA ad h Q a := by
  have e1 : h'.1 a = h.1 a := funext h1
  have e2 : h'.2 a = h.2 a := funext h2
  unfold enR enkR
  rw [e1, e2]
  have e3 : flR ad h' Q' a (ft (kd a).1) = flR ad h Q a (ft (kd a).1) := by
    unfold flR
    apply List.map_congr_left
    intro j _
    exact fvR_other (h1 j) (h2 j) (h3 j)
  have e4 : (fun j => (Q' a j).map ad) = fun j => (Q a j).map ad := funext fun j => by rw [h3 j]
  rw [e3, e4]
theorem enR_obj {cA : Nat → ClassId} {ad : Nat → Nat} {h : PH} {Q : RF} {i c : Nat} (hk : (kd i).1 = c) (hc : c < 13) : enR cA ad h Q i = .inr (c, flR ad h Q i (ft c)) := by
  subst hk
  unfold enR enkR
  rw [if_pos hc]
theorem enR_ints {cA : Nat → ClassId} {ad : Nat → Nat} {h : PH} {Q : RF} {i c n : Nat} (hk : kd i = (c, n)) (h1 : ¬ c < 13) (h2 : c < 16) : enR cA ad h Q i = .inl (cA c, n, .inl (h.1 i)) := by
  unfold enR enkR
  rw [hk, if_neg h1, if_pos h2]
theorem enR_longs {cA : Nat → ClassId} {ad : Nat → Nat} {h : PH} {Q : RF} {i n : Nat} (hk : kd i = (16, n)) : enR cA ad h Q i = .inl (cA 16, n, .inr (.inl (h.2 i))) := by
  unfold enR enkR
  rw [hk]
  rfl
theorem enR_outk {cA : Nat → ClassId} {ad : Nat → Nat} {h : PH} {Q : RF} {i n : Nat} (hk : kd i = (22, n)) : enR cA ad h Q i = .inl (cA 16, n, .inr (.inl (h.2 i))) := by
  unfold enR enkR
  rw [hk]
  rfl
theorem enR_refs {cA : Nat → ClassId} {ad : Nat → Nat} {h : PH} {Q : RF} {i c n : Nat} (hk : kd i = (c, n)) (h1 : 16 < c) (h2 : c < 22) : enR cA ad h Q i = .inl (cA c, n, .inr (.inr (.inr (.inr (fun j => (Q i j).map ad))))) := by
  unfold enR enkR
  rw [hk, if_neg (by show ¬ c < 13; omega), if_neg (by show ¬ c < 16; omega), if_neg (by show ¬ c = 16; omega), if_neg (by show ¬ c = 22; omega)]
theorem flR_pI {ad : Nat → Nat} {h : PH} {Q : RF} {i k : Nat} {v : Int32} {ts : List Nat} (ht : ts.getD k 0 = 0) : (flR ad h Q i ts).set k (.int v) = flR ad (pI h i k v) Q i ts := by
  apply List.ext_getElem?
  intro j
  by_cases hj : j < ts.length
  · by_cases hjk : j = k
    · subst hjk
      rw [List.getElem?_set_self (by rw [flR_len]; exact hj), flR_get hj, ht]
      simp [fvR, pI]
    · rw [List.getElem?_set_ne (Ne.symm hjk), flR_get hj, flR_get hj]
      have e9 : fvR ad (pI h i k v) Q i j (ts.getD j 0) = fvR ad h Q i j (ts.getD j 0) := fvR_other (by simp [pI, hjk]) rfl rfl
      rw [e9]
  · rw [List.getElem?_eq_none_iff.mpr (by simp [flR]; omega), List.getElem?_eq_none_iff.mpr (by simp [flR]; omega)]
theorem flR_rU {ad : Nat → Nat} {h : PH} {Q : RF} {i k v : Nat} {ts : List Nat} (ht : ts.getD k 0 = 2) : (flR ad h Q i ts).set k (.ref (ad v)) = flR ad h (rU Q i k v) i ts := by
  apply List.ext_getElem?
  intro j
  by_cases hj : j < ts.length
  · by_cases hjk : j = k
    · subst hjk
      rw [List.getElem?_set_self (by rw [flR_len]; exact hj), flR_get hj, ht]
      simp [fvR, rU, va_rf]
    · rw [List.getElem?_set_ne (Ne.symm hjk), flR_get hj, flR_get hj]
      have e9 : fvR ad h (rU Q i k v) i j (ts.getD j 0) = fvR ad h Q i j (ts.getD j 0) := fvR_other rfl rfl (by simp [rU, hjk])
      rw [e9]
  · rw [List.getElem?_eq_none_iff.mpr (by simp [flR]; omega), List.getElem?_eq_none_iff.mpr (by simp [flR]; omega)]
/-- what is not made yet holds nothing -/
def ZZ (n : Nat) (h : PH) (Q : RF) : Prop := ∀ i, n ≤ i → ∀ j, h.1 i j = 0 ∧ h.2 i j = 0 ∧ Q i j = none
theorem ZZ.up {n m : Nat} {h : PH} {Q : RF} (z : ZZ n h Q) (hm : n ≤ m) : ZZ m h Q := fun i hi => z i (Nat.le_trans hm hi)
theorem ZZ_pI {n : Nat} {h : PH} {Q : RF} {a j : Nat} {x : Int32} (z : ZZ n h Q) (ha : a < n) : ZZ n (pI h a j x) Q := fun i hi k => by
  have e : i ≠ a := by omega
  have := z i hi k
  simpa [pI, e] using this
theorem ZZ_rU {n : Nat} {h : PH} {Q : RF} {a j v : Nat} (z : ZZ n h Q) (ha : a < n) : ZZ n h (rU Q a j v) := fun i hi k => by
  have e : i ≠ a := by omega
  have := z i hi k
  simpa [rU, e] using this
theorem ZZ_rM {n : Nat} {h : PH} {Q : RF} {a N : Nat} (z : ZZ n h Q) (ha : a < n) : ZZ n h (rM Q a N) := fun i hi k => by
  have e : i ≠ a := by omega
  have := z i hi k
  simpa [rM, e] using this
def nnL : List (Nat × MethodName) := [(19, ⟨"RainWishes$Sky", "<init>", "()V"⟩), (38, ⟨"RainWishes$Book", "<init>", "()V"⟩), (88, ⟨"RainWishes$Holding", "<init>", "()V"⟩), (99, ⟨"RainWishes$Tray", "<init>", "()V"⟩)]
def aoL : List FieldType := [.array .int, .array .long, .object "RainWishes$Tray", .object "RainWishes$Sky", .object "RainWishes$Book"]
def va_AOT (ty : FieldType) (U : State) : Prop := (Cond.arrayOver ty).before #[] U = true
theorem va_AOT.use {ty : FieldType} {A : Array Value} {U : State} (h : va_AOT ty U) : (Cond.arrayOver ty).before A U = true := h
theorem va_AOT.of {ty : FieldType} {A : Array Value} {U : State} (h : (Cond.arrayOver ty).before A U = true) : va_AOT ty U := h
theorem va_AOT.moved {ty : FieldType} {u U : State} (hvm : u.vm.Alike U.vm) (h : va_AOT ty u) : va_AOT ty U := by
  have e := Cond.arrayOver_setVmC (args := #[]) hvm ty
  exact (show (Cond.arrayOver ty).before #[] (u.setVm U.vm) = true from e.trans h)
def adx (b : Nat) (st : Nat → Nat) : Nat → Nat := fun i => if i < 178 then b + i else st i
def OO (b : Nat) (U : State) (H : Heap) : Prop := (∀ q ∈ nnL, va_Nw (.methodLinkNest "RainWishes" q.1 q.2 "RainWishes") U) ∧ (∀ ty ∈ aoL, va_AOT ty U) ∧ ∃ st : Nat → Nat, RO (adx b st) (Ab b) U H
theorem OO.same {b : Nat} {U V : State} {H : Heap} (h : OO b U H) (hv : V.vm = U.vm) : OO b V H :=
  ⟨fun q hq => va_Nw.same rfl hv.symm (h.1 q hq), fun ty hty => va_AOT.moved (by rw [hv]; exact Vm.Alike.refl _) (h.2.1 ty hty), h.2.2.elim fun st z => ⟨st, z.same hv⟩⟩
theorem OO.step {b : Nat} {s U : State} {H : Heap} {locs : List Loc} (h : OO b s s.heap) (hS : va_S (Ab b) s.heap H locs) (hW : s.WarmedH U.vm) : OO b U H :=
  ⟨fun q hq => va_Nw.warmM hW (h.1 q hq), fun ty hty => va_AOT.moved hW.alike (h.2.1 ty hty), h.2.2.elim fun st z => ⟨st, z.step hS (fun _ q => q) hW⟩⟩
def Cc (p : Program) (s : State) (m : MethodId) (args : Array Value) (c : Code) (own : String) (cc : ByteArray) (nL : Nat) (D : va_G) (cA : Nat → ClassId) (b : Nat) : Prop :=
  p.tables.exec = Jvm.exec ∧ c.code = cc ∧ c.maxLocals = nL ∧ s.vm.findClass own = some m.cls ∧ (∀ w ∈ WSG, w.before args s = true) ∧ va_K D vwCl (tyl cA) s ∧ b ≤ s.heap.size ∧ OO b s s.heap
def SWc (QQ : State → Prop) (p : Program) (l : Launch) (e : Env) (R : Room) (s : State) (m : MethodId) (args : Array Value) (below : List Frame) (meth : Method) (c : Code) (cells slots nL : Nat) (D : va_G) (cA : Nat → ClassId) (b : Nat) (pc : Nat) (L : List (Nat × Value)) (st : List Value) (n : Nat) (Q : RF) (h : PH) : Prop :=
  ZZ n h Q → ∀ (H : Heap) (locs : List Loc) (ls : Array Slot), WN D cA b n h Q H → va_S (Ab b) s.heap H locs → lv_has ls nL (L.map (tq (adb b))) → W p l e R s m args below meth c H locs cells slots QQ (F0 m pc ls (st.map (tv (adb b))))
section SCs
variable {p : Program} {l : Launch} {e : Env} {R : Room} {s : State} {m : MethodId} {args : Array Value} {below : List Frame} {meth : Method} {c : Code} {cells slots nL : Nat} {D : va_G} {cA : Nat → ClassId} {b : Nat} {own : String} {cc : ByteArray} {pc tgt n : Nat} {L L' : List (Nat × Value)} {st : List Value} {h : PH} {Q : RF} {QQ : State → Prop}
theorem sc_iconst (X : Cc p s m args c own cc nL D cA b) {z : Int} {v : Int32} (d : decode cc pc = .ok (.iconst z, 1)) (hv : Int32.ofInt z = v) (k : SWc QQ p l e R s m args below meth c cells slots nL D cA b (pc + 1) (L) (.int v :: st) (n) (Q) (h)) : SWc QQ p l e R s m args below meth c cells slots nL D cA b (pc) (L) (st) (n) (Q) (h) :=
  fun hZ H locs ls hN hS hl => lv_iconst X.1 X.2.1 d hv (k hZ H locs ls hN hS hl)
theorem sc_bipush (X : Cc p s m args c own cc nL D cA b) {z : Int} {v : Int32} (d : decode cc pc = .ok (.bipush z, 2)) (hv : (Int8.ofInt z).toInt32 = v) (k : SWc QQ p l e R s m args below meth c cells slots nL D cA b (pc + 2) (L) (.int v :: st) (n) (Q) (h)) : SWc QQ p l e R s m args below meth c cells slots nL D cA b (pc) (L) (st) (n) (Q) (h) :=
  fun hZ H locs ls hN hS hl => lv_bipush X.1 X.2.1 d hv (k hZ H locs ls hN hS hl)
theorem sc_sipush (X : Cc p s m args c own cc nL D cA b) {z : Int} {v : Int32} (d : decode cc pc = .ok (.sipush z, 3)) (hv : (Int16.ofInt z).toInt32 = v) (k : SWc QQ p l e R s m args below meth c cells slots nL D cA b (pc + 3) (L) (.int v :: st) (n) (Q) (h)) : SWc QQ p l e R s m args below meth c cells slots nL D cA b (pc) (L) (st) (n) (Q) (h) :=
  fun hZ H locs ls hN hS hl => lv_sipush X.1 X.2.1 d hv (k hZ H locs ls hN hS hl)
theorem sc_ldc (X : Cc p s m args c own cc nL D cA b) {ix : Nat} {v : Int32} (hc : Cond.constant own ix v ∈ WSG) (d : decode cc pc = .ok (.ldc ix, 2)) (k : SWc QQ p l e R s m args below meth c cells slots nL D cA b (pc + 2) (L) (.int v :: st) (n) (Q) (h)) : SWc QQ p l e R s m args below meth c cells slots nL D cA b (pc) (L) (st) (n) (Q) (h) :=
  fun hZ H locs ls hN hS hl => lv_ldc X.1 X.2.1 X.2.2.2.1 (X.2.2.2.2.1 _ hc) d (k hZ H locs ls hN hS hl)
theorem sc_iload_n (X : Cc p s m args c own cc nL D cA b) {k4 : Fin 4} {i : Nat} {x : Int32} (q : Nat) (d : decode cc pc = .ok (.iload_n k4, 1)) (hi : (k4 : Nat) = i) (hL : L[q]? = some (i, .int x)) (k : SWc QQ p l e R s m args below meth c cells slots nL D cA b (pc + 1) (L) (.int x :: st) (n) (Q) (h)) : SWc QQ p l e R s m args below meth c cells slots nL D cA b (pc) (L) (st) (n) (Q) (h) :=
  fun hZ H locs ls hN hS hl => lv_iload_n X.1 X.2.1 d hi (lv_at (v := .int x) hl q (by rw [List.getElem?_map, hL]; rfl)) (k hZ H locs ls hN hS hl)
theorem sc_aload_n (X : Cc p s m args c own cc nL D cA b) {k4 : Fin 4} {i : Nat} {x : Nat} (q : Nat) (d : decode cc pc = .ok (.aload_n k4, 1)) (hi : (k4 : Nat) = i) (hL : L[q]? = some (i, .ref x)) (k : SWc QQ p l e R s m args below meth c cells slots nL D cA b (pc + 1) (L) (.ref x :: st) (n) (Q) (h)) : SWc QQ p l e R s m args below meth c cells slots nL D cA b (pc) (L) (st) (n) (Q) (h) :=
  fun hZ H locs ls hN hS hl => lv_aload_n X.1 X.2.1 d hi (lv_at (v := .ref (b + x)) hl q (by rw [List.getElem?_map, hL]; rfl)) (k hZ H locs ls hN hS hl)
theorem sc_istore_n (X : Cc p s m args c own cc nL D cA b) {k4 : Fin 4} {i : Nat} {x : Int32} (d : decode cc pc = .ok (.istore_n k4, 1)) (hi : (k4 : Nat) = i) (hn : i < nL) (hL : lset L i (.int x) = L') (k : SWc QQ p l e R s m args below meth c cells slots nL D cA b (pc + 1) (L') (st) (n) (Q) (h)) : SWc QQ p l e R s m args below meth c cells slots nL D cA b (pc) (L) (.int x :: st) (n) (Q) (h) :=
  fun hZ H locs ls hN hS hl => lv_istore_n X.1 X.2.1 d hi hl hn (lv' := L'.map (tq (adb b))) (by rw [← hL]; exact lset_map (v := .int x)) (fun ls' hl' => k hZ H locs ls' hN hS hl')
theorem sc_astore_n (X : Cc p s m args c own cc nL D cA b) {k4 : Fin 4} {i : Nat} {x : Nat} (d : decode cc pc = .ok (.astore_n k4, 1)) (hi : (k4 : Nat) = i) (hn : i < nL) (hL : lset L i (.ref x) = L') (k : SWc QQ p l e R s m args below meth c cells slots nL D cA b (pc + 1) (L') (st) (n) (Q) (h)) : SWc QQ p l e R s m args below meth c cells slots nL D cA b (pc) (L) (.ref x :: st) (n) (Q) (h) :=
  fun hZ H locs ls hN hS hl => lv_astore_n X.1 X.2.1 d hi hl hn (lv' := L'.map (tq (adb b))) (by rw [← hL]; exact lset_map (v := .ref x)) (fun ls' hl' => k hZ H locs ls' hN hS hl')
theorem sc_iinc (X : Cc p s m args c own cc nL D cA b) {i : Nat} {z : Int} {x v : Int32} (q : Nat) (d : decode cc pc = .ok (.iinc i z, 3)) (hq : L[q]? = some (i, .int x)) (hv : x + Int32.ofInt z = v) (hn : i < nL) (hL : lset L i (.int v) = L') (k : SWc QQ p l e R s m args below meth c cells slots nL D cA b (pc + 3) (L') (st) (n) (Q) (h)) : SWc QQ p l e R s m args below meth c cells slots nL D cA b (pc) (L) (st) (n) (Q) (h) :=
  fun hZ H locs ls hN hS hl => lv_iinc (k := q) X.1 X.2.1 d hl (by rw [List.getElem?_map, hq]; rfl) hv hn (lv' := L'.map (tq (adb b))) (by rw [← hL]; exact lset_map (v := .int v)) (fun ls' hl' => k hZ H locs ls' hN hS hl')
theorem sc_dup (X : Cc p s m args c own cc nL D cA b) {va : Value} (d : decode cc pc = .ok (.dup, 1)) (h1 : va.category = 1) (k : SWc QQ p l e R s m args below meth c cells slots nL D cA b (pc + 1) (L) (va :: va :: st) (n) (Q) (h)) : SWc QQ p l e R s m args below meth c cells slots nL D cA b (pc) (L) (va :: st) (n) (Q) (h) :=
  fun hZ H locs ls hN hS hl => lv_dup X.1 X.2.1 d (by rw [tv_cat]; exact h1) (k hZ H locs ls hN hS hl)
theorem sc_goto (X : Cc p s m args c own cc nL D cA b) {off : Int} (d : decode cc pc = .ok (.goto off, 3)) (ht : (pc : Int) + off = (tgt : Int)) (k : SWc QQ p l e R s m args below meth c cells slots nL D cA b (tgt) (L) (st) (n) (Q) (h)) : SWc QQ p l e R s m args below meth c cells slots nL D cA b (pc) (L) (st) (n) (Q) (h) :=
  fun hZ H locs ls hN hS hl => lv_goto X.1 X.2.1 d ht (k hZ H locs ls hN hS hl)
theorem sc_geT (X : Cc p s m args c own cc nL D cA b) {x y : Int32} {off : Int} (d : decode cc pc = .ok (.if_icmp .ge off, 3)) (ht : (pc : Int) + off = (tgt : Int)) (hc : y ≤ x) (k : SWc QQ p l e R s m args below meth c cells slots nL D cA b (tgt) (L) (st) (n) (Q) (h)) : SWc QQ p l e R s m args below meth c cells slots nL D cA b (pc) (L) (.int y :: .int x :: st) (n) (Q) (h) :=
  fun hZ H locs ls hN hS hl => lv_icmp_ge X.1 X.2.1 d ht (fun _ => (k hZ H locs ls hN hS hl)) (fun hn => absurd hc hn)
theorem sc_geF (X : Cc p s m args c own cc nL D cA b) {x y : Int32} {off : Int} (d : decode cc pc = .ok (.if_icmp .ge off, 3)) (ht : (pc : Int) + off = (tgt : Int)) (hc : ¬ y ≤ x) (k : SWc QQ p l e R s m args below meth c cells slots nL D cA b (pc + 3) (L) (st) (n) (Q) (h)) : SWc QQ p l e R s m args below meth c cells slots nL D cA b (pc) (L) (.int y :: .int x :: st) (n) (Q) (h) :=
  fun hZ H locs ls hN hS hl => lv_icmp_ge X.1 X.2.1 d ht (fun hn => absurd hn hc) (fun _ => (k hZ H locs ls hN hS hl))
theorem sc_pick (X : Cc p s m args c own cc nL D cA b) (ks : List Nat) (hL : lv_pick L ks = L') (k : SWc QQ p l e R s m args below meth c cells slots nL D cA b (pc) (L') (st) (n) (Q) (h)) : SWc QQ p l e R s m args below meth c cells slots nL D cA b (pc) (L) (st) (n) (Q) (h) :=
  fun hZ H locs ls hN hS hl => k hZ H locs ls hN hS (lv_sub hl ks (by rw [← hL]; simp [lv_pick, List.map_filterMap]))
theorem sc_widen {c1 s1 : Nat} (h1 : cells ≤ c1) (h2 : slots ≤ s1) (k : SWc QQ p l e R s m args below meth c c1 s1 nL D cA b (pc) (L) (st) (n) (Q) (h)) : SWc QQ p l e R s m args below meth c cells slots nL D cA b (pc) (L) (st) (n) (Q) (h) :=
  fun hZ H locs ls hN hS hl => W.widen h1 h2 (k hZ H locs ls hN hS hl)
theorem sc_objInit (X : Cc p s m args c own cc nL D cA b) {idx i : Nat} (w1 : Cond.methodLink own idx Lib.objectInit ∈ WSG) (w2 : Cond.instanceMethod Lib.objectInit ∈ WSG) (w3 : Cond.code Lib.objectInit ⟨#[0xb1]⟩ 1 none ∈ WSG) (d : decode cc pc = .ok (.invokespecial idx, 3)) (hf : 1 ≤ R.frames) (hlo : (st.map fun v => v.category).sum + 12 ≤ R.locals) (k : SWc QQ p l e R s m args below meth c cells slots nL D cA b (pc + 3) (L) (st) (n) (Q) (h)) : SWc QQ p l e R s m args below meth c cells slots nL D cA b (pc) (L) (.ref i :: st) (n) (Q) (h) :=
  fun hZ H locs ls hN hS hl => W.objInit X.1 X.2.1 X.2.2.2.1 (X.2.2.2.2.1 _ w1) (X.2.2.2.2.1 _ w2) (X.2.2.2.2.1 _ w3) rfl (hl.1.trans X.2.2.1.symm) rfl d hf (by show 2 * 0 + _ + 12 ≤ _; rw [cat_tv]; omega) (k hZ H locs ls hN hS hl)
theorem W_bound {H : Heap} {locs : List Loc} {g : JFrame} (k : H.size ≤ s.heap.size + cells → W p l e R s m args below meth c H locs cells slots QQ g) : W p l e R s m args below meth c H locs cells slots QQ g := fun T hT X => k (by rw [← hT]; exact X.same.2.2.1) T hT X
theorem WN_of {H : Heap} (hP : va_P D vwCl (wdR b n cA h Q) H) (hn : 0 < n) (hz : H.size ≤ b + n) : WN D cA b n h Q H := by
  have h1 := (hP (n - 1) _ (wdR_get (by omega))).lt
  have h1 : b + (n - 1) < H.size := h1
  exact ⟨by omega, hP⟩
theorem WN_grow {H H1 : Heap} (hN : WN D cA b n h Q H) (hz : H1.size = H.size + 1) (ho : ∀ q, q < H.size → H1[q]? = H[q]?) (he : va_at D vwCl (b + n, enR cA (adb b) h Q n) H1) : WN D cA b (n + 1) h Q H1 := by
  refine ⟨by rw [hz, hN.1]; omega, ?_⟩
  rw [wdR_push]
  refine (hN.2.kept (fun k q hq => ho q.1 ((hN.2 k q hq).lt))).app (fun k q hq => ?_)
  have hk : k < 1 := (List.getElem?_eq_some_iff.mp hq).1
  rw [show k = 0 by omega] at hq
  cases hq
  exact he
theorem vaS_grow {H0 H H1 : Heap} {locs : List Loc} (hS : va_S (Ab b) H0 H locs) (hz : H.size ≤ H1.size) (ho : ∀ q, q < H.size → H1[q]? = H[q]?) : va_S (Ab b) H0 H1 locs :=
  ⟨Nat.le_trans hS.1 hz, fun x h1 h2 => (ho x (Nat.lt_of_lt_of_le h1 hS.1)).trans (hS.2.1 x h1 h2), hS.2.2⟩
def DV (ci N : Nat) (ty : Nat → FieldType) : Prop := ∀ j, j < N → j < (ft ci).length ∧ (((ft ci).getD j 0 = 0 ∧ defaultValue (ty j) = .int 0) ∨ ((ft ci).getD j 0 = 1 ∧ defaultValue (ty j) = .long 0) ∨ ((ft ci).getD j 0 = 2 ∧ defaultValue (ty j) = .null))
theorem dv_of {ci N : Nat} {ty : Nat → FieldType} (hd : DV ci N ty) {ad : Nat → Nat} {i : Nat} (hz : ∀ j, h.1 i j = 0 ∧ h.2 i j = 0 ∧ Q i j = none) (j : Nat) (hj : j < N) : defaultValue (ty j) = vp_V (flR ad h Q i (ft ci)) j := by
  obtain ⟨h1, h2⟩ := hd j hj
  unfold vp_V
  rw [List.getD_eq_getElem?_getD, flR_get h1]
  obtain ⟨z1, z2, z3⟩ := hz j
  rcases h2 with ⟨e1, e2⟩ | ⟨e1, e2⟩ | ⟨e1, e2⟩ <;> rw [e1, e2] <;> simp [fvR, z1, z2, z3, va_rf]
theorem mo_outer (c : ClassId) (N h0 : Nat) : ∀ i : Nat, Jvm.Free.Multi.outerC c N h0 i = arrV c N (fun j => va_rf (if j < i then some (h0 + 1 + j) else none))
  | 0 => by
    show ({ cls := c, slots := Array.replicate N .null, vm := .none } : Cell) = _
    rw [arrV_new]
    exact congrArg (arrV c N) (funext fun j => by simp [va_rf])
  | i + 1 => by
    show (Jvm.Free.Multi.outerC c N h0 i).setSlot i (.ref (h0 + 1 + i)) = _
    rw [mo_outer c N h0 i, arrV_store]
    refine congrArg (arrV c N) (funext fun j => ?_)
    by_cases e : j = i
    · subst e
      simp [updV, va_rf]
    · by_cases h : j < i
      · simp [updV, e, h, Nat.lt_succ_of_lt h]
      · simp [updV, e, h, show ¬ j < i + 1 by omega]
theorem sc_new (X : Cc p s m args c own cc nL D cA b) {ci N ix : Nat} {C : String} {T : u_T} {ty : Nat → FieldType} (hin : ∀ w ∈ u_ws C T N, w ∈ WSG) (hcl : vwCl[ci]? = some (C, T, N)) (hty : ∀ k, k < N → parseFieldDescriptor (T k).2.2.1 = some (ty k)) (hdv : DV ci N ty) (hci : ci < 13) (w1 : Cond.classLink own ix C ∈ WSG) (w2 : Cond.instantiable C N ∈ WSG) (w3 : Cond.initialized C ∈ WSG) (hk : (kd n).1 = ci) (hcells : cells + 1 ≤ R.cells) (hslots : slots + N ≤ R.slots) (d : decode cc pc = .ok (.new ix, 3)) (k : SWc QQ p l e R s m args below meth c (cells + 1) (slots + N) nL D cA b (pc + 3) (L) (.ref n :: st) (n + 1) (Q) (h)) : SWc QQ p l e R s m args below meth c cells slots nL D cA b (pc) (L) (st) (n) (Q) (h) := by
  intro hZ H locs ls hN hS hl
  have hKn := X.2.2.2.2.2.1.1 ci _ hcl
  refine W.newcK X.1 X.2.1 X.2.2.2.1 (X.2.2.2.2.1 _ w1) (X.2.2.2.2.1 _ w2) (X.2.2.2.2.1 _ w3) rfl d hcells hslots hKn.2.1 hN.1 fun H1 kC hkC e1 z1 o1 => ?_
  have z2 : H1.size = H.size + 1 := by rw [z1, hN.1]
  have o2 : ∀ q, q < H.size → H1[q]? = H[q]? := fun q hq => o1 q (by rw [← hN.1]; exact hq)
  refine k (hZ.up (Nat.le_succ n)) H1 locs ls (WN_grow hN z2 o2 ?_) (vaS_grow hS (by omega) o2) hl
  rw [enR_obj hk hci]
  exact ⟨_, hcl, (u_born ty X.2.2.2.2.1 hin hKn hkC e1 hty).to (fun j hj => dv_of hdv (hZ n (Nat.le_refl n)) j hj)⟩
theorem sc_newI (X : Cc p s m args c own cc nL D cA b) {v : Int32} {N : Nat} (w1 : Cond.arrayClass .int ∈ WSG) (hk : kd n = (13, N)) (hn : ¬ v < 0) (hv : v.toNatClampNeg = N) (hbytes : N * componentBytes .int ≤ 536870912) (hcells : cells + 1 ≤ R.cells) (hslots : slots + N ≤ R.slots) (d : decode cc pc = .ok (.newarray .int, 2)) (k : SWc QQ p l e R s m args below meth c (cells + 1) (slots + N) nL D cA b (pc + 2) (L) (.ref n :: st) (n + 1) (Q) (h)) : SWc QQ p l e R s m args below meth c cells slots nL D cA b (pc) (L) (.int v :: st) (n) (Q) (h) := by
  intro hZ H locs ls hN hS hl
  refine va_newaK (atype := .int) X.1 X.2.1 (X.2.2.2.2.1 _ w1) rfl d rfl hn hv hbytes hcells hslots hN.1 fun H1 cA1 e1 z1 o1 hAr hNm => ?_
  have z2 : H1.size = H.size + 1 := by rw [z1, hN.1]
  have o2 : ∀ q, q < H.size → H1[q]? = H[q]? := fun q hq => o1 q (by rw [← hN.1]; exact hq)
  refine k (hZ.up (Nat.le_succ n)) H1 locs ls (WN_grow hN z2 o2 ?_) (vaS_grow hS (by omega) o2) hl
  have hc : cA1 = cA 13 := Option.some.inj (hNm.symm.trans ((X.2.2.2.2.2.1.2 0 (cA 13, .int) rfl).2))
  have hf : h.1 n = fun _ => (0 : Int32) := funext fun j => (hZ n (Nat.le_refl n) j).1
  rw [enR_ints hk (by decide) (by decide), hf, ← hc]
  exact e1
theorem sc_newB (X : Cc p s m args c own cc nL D cA b) {v : Int32} {N : Nat} (w1 : Cond.arrayClass .byte ∈ WSG) (hk : kd n = (14, N)) (hn : ¬ v < 0) (hv : v.toNatClampNeg = N) (hbytes : N * componentBytes .byte ≤ 536870912) (hcells : cells + 1 ≤ R.cells) (hslots : slots + N ≤ R.slots) (d : decode cc pc = .ok (.newarray .byte, 2)) (k : SWc QQ p l e R s m args below meth c (cells + 1) (slots + N) nL D cA b (pc + 2) (L) (.ref n :: st) (n + 1) (Q) (h)) : SWc QQ p l e R s m args below meth c cells slots nL D cA b (pc) (L) (.int v :: st) (n) (Q) (h) := by
  intro hZ H locs ls hN hS hl
  refine va_newaK (atype := .byte) X.1 X.2.1 (X.2.2.2.2.1 _ w1) rfl d rfl hn hv hbytes hcells hslots hN.1 fun H1 cA1 e1 z1 o1 hAr hNm => ?_
  have z2 : H1.size = H.size + 1 := by rw [z1, hN.1]
  have o2 : ∀ q, q < H.size → H1[q]? = H[q]? := fun q hq => o1 q (by rw [← hN.1]; exact hq)
  refine k (hZ.up (Nat.le_succ n)) H1 locs ls (WN_grow hN z2 o2 ?_) (vaS_grow hS (by omega) o2) hl
  have hc : cA1 = cA 14 := Option.some.inj (hNm.symm.trans ((X.2.2.2.2.2.1.2 1 (cA 14, .byte) rfl).2))
  have hf : h.1 n = fun _ => (0 : Int32) := funext fun j => (hZ n (Nat.le_refl n) j).1
  rw [enR_ints hk (by decide) (by decide), hf, ← hc]
  exact e1
theorem sc_newZ (X : Cc p s m args c own cc nL D cA b) {v : Int32} {N : Nat} (w1 : Cond.arrayClass .boolean ∈ WSG) (hk : kd n = (15, N)) (hn : ¬ v < 0) (hv : v.toNatClampNeg = N) (hbytes : N * componentBytes .boolean ≤ 536870912) (hcells : cells + 1 ≤ R.cells) (hslots : slots + N ≤ R.slots) (d : decode cc pc = .ok (.newarray .boolean, 2)) (k : SWc QQ p l e R s m args below meth c (cells + 1) (slots + N) nL D cA b (pc + 2) (L) (.ref n :: st) (n + 1) (Q) (h)) : SWc QQ p l e R s m args below meth c cells slots nL D cA b (pc) (L) (.int v :: st) (n) (Q) (h) := by
  intro hZ H locs ls hN hS hl
  refine va_newaK (atype := .boolean) X.1 X.2.1 (X.2.2.2.2.1 _ w1) rfl d rfl hn hv hbytes hcells hslots hN.1 fun H1 cA1 e1 z1 o1 hAr hNm => ?_
  have z2 : H1.size = H.size + 1 := by rw [z1, hN.1]
  have o2 : ∀ q, q < H.size → H1[q]? = H[q]? := fun q hq => o1 q (by rw [← hN.1]; exact hq)
  refine k (hZ.up (Nat.le_succ n)) H1 locs ls (WN_grow hN z2 o2 ?_) (vaS_grow hS (by omega) o2) hl
  have hc : cA1 = cA 15 := Option.some.inj (hNm.symm.trans ((X.2.2.2.2.2.1.2 2 (cA 15, .boolean) rfl).2))
  have hf : h.1 n = fun _ => (0 : Int32) := funext fun j => (hZ n (Nat.le_refl n) j).1
  rw [enR_ints hk (by decide) (by decide), hf, ← hc]
  exact e1
theorem sc_newL (X : Cc p s m args c own cc nL D cA b) {v : Int32} {N : Nat} (w1 : Cond.arrayClass .long ∈ WSG) (hk : kd n = (16, N)) (hn : ¬ v < 0) (hv : v.toNatClampNeg = N) (hbytes : N * componentBytes .long ≤ 536870912) (hcells : cells + 1 ≤ R.cells) (hslots : slots + N ≤ R.slots) (d : decode cc pc = .ok (.newarray .long, 2)) (k : SWc QQ p l e R s m args below meth c (cells + 1) (slots + N) nL D cA b (pc + 2) (L) (.ref n :: st) (n + 1) (Q) (h)) : SWc QQ p l e R s m args below meth c cells slots nL D cA b (pc) (L) (.int v :: st) (n) (Q) (h) := by
  intro hZ H locs ls hN hS hl
  refine va_newaK (atype := .long) X.1 X.2.1 (X.2.2.2.2.1 _ w1) rfl d rfl hn hv hbytes hcells hslots hN.1 fun H1 cA1 e1 z1 o1 hAr hNm => ?_
  have z2 : H1.size = H.size + 1 := by rw [z1, hN.1]
  have o2 : ∀ q, q < H.size → H1[q]? = H[q]? := fun q hq => o1 q (by rw [← hN.1]; exact hq)
  refine k (hZ.up (Nat.le_succ n)) H1 locs ls (WN_grow hN z2 o2 ?_) (vaS_grow hS (by omega) o2) hl
  have hc : cA1 = cA 16 := Option.some.inj (hNm.symm.trans ((X.2.2.2.2.2.1.2 3 (cA 16, .long) rfl).2))
  have hf : h.2 n = fun _ => (0 : Int64) := funext fun j => (hZ n (Nat.le_refl n) j).2.1
  rw [enR_longs hk, hf, ← hc]
  exact e1
theorem sc_newO (X : Cc p s m args c own cc nL D cA b) {v : Int32} {N : Nat} (w1 : Cond.arrayClass .long ∈ WSG) (hk : kd n = (22, N)) (hn : ¬ v < 0) (hv : v.toNatClampNeg = N) (hbytes : N * componentBytes .long ≤ 536870912) (hcells : cells + 1 ≤ R.cells) (hslots : slots + N ≤ R.slots) (d : decode cc pc = .ok (.newarray .long, 2)) (k : SWc QQ p l e R s m args below meth c (cells + 1) (slots + N) nL D cA b (pc + 2) (L) (.ref n :: st) (n + 1) (Q) (h)) : SWc QQ p l e R s m args below meth c cells slots nL D cA b (pc) (L) (.int v :: st) (n) (Q) (h) := by
  intro hZ H locs ls hN hS hl
  refine va_newaK (atype := .long) X.1 X.2.1 (X.2.2.2.2.1 _ w1) rfl d rfl hn hv hbytes hcells hslots hN.1 fun H1 cA1 e1 z1 o1 hAr hNm => ?_
  have z2 : H1.size = H.size + 1 := by rw [z1, hN.1]
  have o2 : ∀ q, q < H.size → H1[q]? = H[q]? := fun q hq => o1 q (by rw [← hN.1]; exact hq)
  refine k (hZ.up (Nat.le_succ n)) H1 locs ls (WN_grow hN z2 o2 ?_) (vaS_grow hS (by omega) o2) hl
  have hc : cA1 = cA 16 := Option.some.inj (hNm.symm.trans ((X.2.2.2.2.2.1.2 3 (cA 16, .long) rfl).2))
  have hf : h.2 n = fun _ => (0 : Int64) := funext fun j => (hZ n (Nat.le_refl n) j).2.1
  rw [enR_outk hk, hf, ← hc]
  exact e1
theorem sc_newR (X : Cc p s m args c own cc nL D cA b) {ix c0 t0 N : Nat} {v : Int32} {C : String} (w1 : Cond.classLink own ix C ∈ WSG) (hao : .object C ∈ aoL) (h16 : 16 < c0) (h22 : c0 < 22) (ht : ∀ cA : Nat → ClassId, (tyl cA)[t0]? = some (cA c0, .object C)) (hk : kd n = (c0, N)) (hn : ¬ v < 0) (hv : v.toNatClampNeg = N) (hbytes : N * 4 ≤ 536870912) (hcells : cells + 1 ≤ R.cells) (hslots : slots + N ≤ R.slots) (d : decode cc pc = .ok (.anewarray ix, 3)) (k : SWc QQ p l e R s m args below meth c (cells + 1) (slots + N) nL D cA b (pc + 3) (L) (.ref n :: st) (n + 1) (Q) (h)) : SWc QQ p l e R s m args below meth c cells slots nL D cA b (pc) (L) (.int v :: st) (n) (Q) (h) := by
  intro hZ H locs ls hN hS hl
  subst hv
  refine W.anew X.1 X.2.1 X.2.2.2.1 (X.2.2.2.2.1 _ w1) (X.2.2.2.2.2.2.2.2.1 _ hao).use rfl d rfl hn hbytes hcells hslots fun cA1 kA comp f1 f2 f3 f4 => ?_
  generalize hH1 : H.push ({ cls := cA1, slots := Array.replicate v.toNatClampNeg .null, vm := .none } : Cell) = H1
  have z2 : H1.size = H.size + 1 := by rw [← hH1, Array.size_push]
  have e1 : H1[H.size]? = some (arrV cA1 v.toNatClampNeg (fun _ => .null)) := by rw [← hH1, Array.getElem?_push_size, ← arrV_new]
  have o2 : ∀ q : Nat, q < H.size → H1[q]? = H[q]? := fun q hq => by rw [← hH1, Array.getElem?_push, if_neg (Nat.ne_of_lt hq)]
  have hz : H.size = b + n := hN.1
  have hgoal : W p l e R s m args below meth c H1 locs (cells + 1) (slots + v.toNatClampNeg) QQ (F0 m (pc + 3) ls ((.ref n :: st).map (tv (adb b)))) := by
    refine k (hZ.up (Nat.le_succ n)) H1 locs ls (WN_grow hN z2 o2 ?_) (vaS_grow hS (by omega) o2) hl
    obtain ⟨kA2, comp2, -, -, -, f5⟩ := (X.2.2.2.2.2.1.2 t0 _ (ht cA)).2
    have hc : cA1 = cA c0 := Option.some.inj (f1.symm.trans f5)
    have hf : (fun j => (Q n j).map (adb b)) = fun _ => none := funext fun j => by rw [(hZ n (Nat.le_refl n) j).2.2]; rfl
    rw [enR_refs hk h16 h22, hf, ← hc]
    show H1[b + n]? = some (vp_cell _ _)
    rw [vp_cell_q, ← hz]
    exact e1
  rw [show H.size = b + n from hz]
  exact hgoal
theorem sc_mnaI (X : Cc p s m args c own cc nL D cA b) {ix N M : Nat} {v u : Int32} (w1 : Cond.classLink own ix ("[" ++ (FieldType.array .int).toString) ∈ WSG) (hao : .array .int ∈ aoL) (wa : Cond.arrayClass .int ∈ WSG) (hk : kd n = (17, N)) (hkj : ∀ j, j < N → kd (n + 1 + j) = (13, M)) (hn : ¬ v < 0) (hv : v.toNatClampNeg = N) (hn2 : ¬ u < 0) (hu : u.toNatClampNeg = M) (hb1 : N * 4 ≤ 536870912) (hb2 : M * componentBytes .int ≤ 536870912) (hb3 : M ≤ 536870912) (hcells : cells + (1 + N) ≤ R.cells) (hslots : slots + (N + N * M) ≤ R.slots) (d : decode cc pc = .ok (.multianewarray ix 2, 4)) (k : SWc QQ p l e R s m args below meth c (cells + 1 + N) (slots + N + N * M) nL D cA b (pc + 4) (L) (.ref n :: st) (n + 1 + N) (rM Q n N) (h)) : SWc QQ p l e R s m args below meth c cells slots nL D cA b (pc) (L) (.int u :: .int v :: st) (n) (Q) (h) := by
  subst hv
  subst hu
  intro hZ H locs ls hN hS hl T hT Xs
  obtain ⟨vm₁, cA1, comp, -, fA, fC, hO, -, X', step⟩ := Stand.multianewarray2F Xs X.1 X.2.2.2.1 (X.2.2.2.2.1 _ w1) (X.2.2.2.2.2.2.2.2.1 _ hao).use (X.2.2.2.2.1 _ wa) (g := F0 m pc ls (.int u :: .int v :: st.map (tv (adb b)))) rfl (by rw [X.2.1]; exact d) rfl hn hn2 hb1 hb2 hb3 rfl rfl hcells hslots
  generalize hF : Jvm.Free.Multi.fill (T.setVm vm₁) cA1 comp v.toNatClampNeg u.toNatClampNeg (defaultValue .int) v.toNatClampNeg = F at X' step
  have hTh : (T.setVm vm₁).heap = H := hT
  obtain ⟨f1, f2, -, -⟩ := Jvm.Free.Multi.fill_facts (T.setVm vm₁) cA1 comp v.toNatClampNeg u.toNatClampNeg (defaultValue .int) v.toNatClampNeg
  rw [hF, hTh] at f1 f2
  have hold : ∀ x : Nat, x < H.size → F.heap[x]? = H[x]? := fun x hx => by
    have := Jvm.Free.Multi.fill_old (T.setVm vm₁) cA1 comp v.toNatClampNeg u.toNatClampNeg (defaultValue .int) (a := x) (by rw [hTh]; exact hx) v.toNatClampNeg
    rw [hF, hTh] at this
    exact this
  have hrow : ∀ j : Nat, j < v.toNatClampNeg → F.heap[H.size + 1 + j]? = some (Jvm.Free.Multi.innerC comp u.toNatClampNeg (defaultValue .int)) := fun j hj => by
    have := Jvm.Free.Multi.fill_inner (T.setVm vm₁) cA1 comp v.toNatClampNeg u.toNatClampNeg (defaultValue .int) v.toNatClampNeg j hj
    rw [hF, hTh] at this
    exact this
  rw [mo_outer] at f2
  have hz : H.size = b + n := hN.1
  have hc1 : comp = cA 13 := Option.some.inj (fC.symm.trans ((X.2.2.2.2.2.1.2 0 (cA 13, .int) rfl).2))
  have hc2 : cA1 = cA 17 := Option.some.inj (fA.symm.trans ((X.2.2.2.2.2.1.2 4 (cA 17, .array .int) rfl).2))
  subst hc1
  subst hc2
  have hZ' : ZZ (n + 1 + v.toNatClampNeg) h (rM Q n v.toNatClampNeg) := ZZ_rM (hZ.up (by omega)) (by omega)
  have hfz : F.heap.size = b + (n + 1 + v.toNatClampNeg) := by rw [f1, hz]; omega
  have hWN : WN D cA b (n + 1 + v.toNatClampNeg) h (rM Q n v.toNatClampNeg) F.heap := by
    refine ⟨hfz, fun i q hq => ?_⟩
    obtain ⟨hi, rfl⟩ := wdR_lt hq
    by_cases hi1 : i < n
    · have e9 : enR cA (adb b) h (rM Q n v.toNatClampNeg) i = enR cA (adb b) h Q i := enR_other (fun _ => rfl) (fun _ => rfl) (fun j => by simp [rM, show i ≠ n by omega])
      rw [e9]
      have hq0 := hN.2 i _ (wdR_get hi1)
      exact hq0.kept (hold _ hq0.lt)
    · by_cases hi2 : i = n
      · subst hi2
        rw [enR_refs hk (by decide) (by decide)]
        show F.heap[b + i]? = some (vp_cell _ _)
        rw [vp_cell_q, ← hz, f2]
        refine congrArg (fun z => some (arrV _ _ z)) (funext fun j => ?_)
        by_cases hj : j < v.toNatClampNeg
        · rw [if_pos hj]
          have e9 : rM Q i v.toNatClampNeg i j = some (i + 1 + j) := if_pos ⟨rfl, hj⟩
          rw [e9]
          show Value.ref (H.size + 1 + j) = Value.ref (b + (i + 1 + j))
          rw [hz, show b + i + 1 + j = b + (i + 1 + j) by omega]
        · simp [rM, hj, va_rf, (hZ i (Nat.le_refl i) j).2.2]
      · obtain ⟨j, rfl⟩ : ∃ j, i = n + 1 + j := ⟨i - (n + 1), by omega⟩
        have hj : j < v.toNatClampNeg := by omega
        have hf : h.1 (n + 1 + j) = fun _ => 0 := funext fun k => (hZ (n + 1 + j) (by omega) k).1
        rw [enR_ints (hkj j hj) (by decide) (by decide), hf]
        show F.heap[b + (n + 1 + j)]? = some (vp_cell _ _)
        rw [show b + (n + 1 + j) = H.size + 1 + j by omega, hrow j hj]
        simp only [vp_cell, Jvm.Free.Multi.innerC]
        rw [arrV_new]
        rfl
  have hS1 : va_S (Ab b) s.heap F.heap locs := vaS_grow hS (by omega) hold
  obtain ⟨t, a1, b1⟩ := k hZ' F.heap locs ls hWN hS1 hl F rfl X'
  refine ⟨t, step t ?_, b1⟩
  rw [hT, hz]
  exact a1
theorem sc_mnaL (X : Cc p s m args c own cc nL D cA b) {ix N M : Nat} {v u : Int32} (w1 : Cond.classLink own ix ("[" ++ (FieldType.array .long).toString) ∈ WSG) (hao : .array .long ∈ aoL) (wa : Cond.arrayClass .long ∈ WSG) (hk : kd n = (18, N)) (hkj : ∀ j, j < N → kd (n + 1 + j) = (16, M)) (hn : ¬ v < 0) (hv : v.toNatClampNeg = N) (hn2 : ¬ u < 0) (hu : u.toNatClampNeg = M) (hb1 : N * 4 ≤ 536870912) (hb2 : M * componentBytes .long ≤ 536870912) (hb3 : M ≤ 536870912) (hcells : cells + (1 + N) ≤ R.cells) (hslots : slots + (N + N * M) ≤ R.slots) (d : decode cc pc = .ok (.multianewarray ix 2, 4)) (k : SWc QQ p l e R s m args below meth c (cells + 1 + N) (slots + N + N * M) nL D cA b (pc + 4) (L) (.ref n :: st) (n + 1 + N) (rM Q n N) (h)) : SWc QQ p l e R s m args below meth c cells slots nL D cA b (pc) (L) (.int u :: .int v :: st) (n) (Q) (h) := by
  subst hv
  subst hu
  intro hZ H locs ls hN hS hl T hT Xs
  obtain ⟨vm₁, cA1, comp, -, fA, fC, hO, -, X', step⟩ := Stand.multianewarray2F Xs X.1 X.2.2.2.1 (X.2.2.2.2.1 _ w1) (X.2.2.2.2.2.2.2.2.1 _ hao).use (X.2.2.2.2.1 _ wa) (g := F0 m pc ls (.int u :: .int v :: st.map (tv (adb b)))) rfl (by rw [X.2.1]; exact d) rfl hn hn2 hb1 hb2 hb3 rfl rfl hcells hslots
  generalize hF : Jvm.Free.Multi.fill (T.setVm vm₁) cA1 comp v.toNatClampNeg u.toNatClampNeg (defaultValue .long) v.toNatClampNeg = F at X' step
  have hTh : (T.setVm vm₁).heap = H := hT
  obtain ⟨f1, f2, -, -⟩ := Jvm.Free.Multi.fill_facts (T.setVm vm₁) cA1 comp v.toNatClampNeg u.toNatClampNeg (defaultValue .long) v.toNatClampNeg
  rw [hF, hTh] at f1 f2
  have hold : ∀ x : Nat, x < H.size → F.heap[x]? = H[x]? := fun x hx => by
    have := Jvm.Free.Multi.fill_old (T.setVm vm₁) cA1 comp v.toNatClampNeg u.toNatClampNeg (defaultValue .long) (a := x) (by rw [hTh]; exact hx) v.toNatClampNeg
    rw [hF, hTh] at this
    exact this
  have hrow : ∀ j : Nat, j < v.toNatClampNeg → F.heap[H.size + 1 + j]? = some (Jvm.Free.Multi.innerC comp u.toNatClampNeg (defaultValue .long)) := fun j hj => by
    have := Jvm.Free.Multi.fill_inner (T.setVm vm₁) cA1 comp v.toNatClampNeg u.toNatClampNeg (defaultValue .long) v.toNatClampNeg j hj
    rw [hF, hTh] at this
    exact this
  rw [mo_outer] at f2
  have hz : H.size = b + n := hN.1
  have hc1 : comp = cA 16 := Option.some.inj (fC.symm.trans ((X.2.2.2.2.2.1.2 3 (cA 16, .long) rfl).2))
  have hc2 : cA1 = cA 18 := Option.some.inj (fA.symm.trans ((X.2.2.2.2.2.1.2 5 (cA 18, .array .long) rfl).2))
  subst hc1
  subst hc2
  have hZ' : ZZ (n + 1 + v.toNatClampNeg) h (rM Q n v.toNatClampNeg) := ZZ_rM (hZ.up (by omega)) (by omega)
  have hfz : F.heap.size = b + (n + 1 + v.toNatClampNeg) := by rw [f1, hz]; omega
  have hWN : WN D cA b (n + 1 + v.toNatClampNeg) h (rM Q n v.toNatClampNeg) F.heap := by
    refine ⟨hfz, fun i q hq => ?_⟩
    obtain ⟨hi, rfl⟩ := wdR_lt hq
    by_cases hi1 : i < n
    · have e9 : enR cA (adb b) h (rM Q n v.toNatClampNeg) i = enR cA (adb b) h Q i := enR_other (fun _ => rfl) (fun _ => rfl) (fun j => by simp [rM, show i ≠ n by omega])
      rw [e9]
      have hq0 := hN.2 i _ (wdR_get hi1)
      exact hq0.kept (hold _ hq0.lt)
    · by_cases hi2 : i = n
      · subst hi2
        rw [enR_refs hk (by decide) (by decide)]
        show F.heap[b + i]? = some (vp_cell _ _)
        rw [vp_cell_q, ← hz, f2]
        refine congrArg (fun z => some (arrV _ _ z)) (funext fun j => ?_)
        by_cases hj : j < v.toNatClampNeg
        · rw [if_pos hj]
          have e9 : rM Q i v.toNatClampNeg i j = some (i + 1 + j) := if_pos ⟨rfl, hj⟩
          rw [e9]
          show Value.ref (H.size + 1 + j) = Value.ref (b + (i + 1 + j))
          rw [hz, show b + i + 1 + j = b + (i + 1 + j) by omega]
        · simp [rM, hj, va_rf, (hZ i (Nat.le_refl i) j).2.2]
      · obtain ⟨j, rfl⟩ : ∃ j, i = n + 1 + j := ⟨i - (n + 1), by omega⟩
        have hj : j < v.toNatClampNeg := by omega
        have hf : h.2 (n + 1 + j) = fun _ => 0 := funext fun k => (hZ (n + 1 + j) (by omega) k).2.1
        rw [enR_longs (hkj j hj), hf]
        show F.heap[b + (n + 1 + j)]? = some (vp_cell _ _)
        rw [show b + (n + 1 + j) = H.size + 1 + j by omega, hrow j hj]
        simp only [vp_cell, Jvm.Free.Multi.innerC]
        rw [arrV_new]
        rfl
  have hS1 : va_S (Ab b) s.heap F.heap locs := vaS_grow hS (by omega) hold
  obtain ⟨t, a1, b1⟩ := k hZ' F.heap locs ls hWN hS1 hl F rfl X'
  refine ⟨t, step t ?_, b1⟩
  rw [hT, hz]
  exact a1
theorem sc_getR (X : Cc p s m args c own cc nL D cA b) {ci j N ix a : Nat} {C : String} {T : u_T} (F : FF ci j C T N 2) (hlink : Cond.fieldLink own ix (T j).1 (T j).2.1 (T j).2.2.1 ∈ WSG) (hk : (kd a).1 = ci) (ha : a < n) {v : Nat} (hv : Q a j = some v) (d : decode cc pc = .ok (.getfield ix, 3)) (k : SWc QQ p l e R s m args below meth c cells slots nL D cA b (pc + 3) (L) (.ref v :: st) (n) (Q) (h)) : SWc QQ p l e R s m args below meth c cells slots nL D cA b (pc) (L) (.ref a :: st) (n) (Q) (h) := by
  intro hZ H locs ls hN hS hl
  obtain ⟨hin, hcl, hj, hjl, hft, hci⟩ := F
  refine va_get (v := .ref (b + v)) X.1 X.2.1 X.2.2.2.2.1 hin X.2.2.2.1 X.2.2.2.2.2.1 hN.2 a (by rw [wdR_get ha, enR_obj hk hci]) hcl j hj (X.2.2.2.2.1 _ hlink) (fun _ q => q) ?_ d (k hZ H locs ls hN hS hl)
  rw [flR_get hjl, hft]
  simp [fvR, hv, va_rf]
theorem sc_putI (X : Cc p s m args c own cc nL D cA b) {ci j N ix a : Nat} {C : String} {T : u_T} (F : FF ci j C T N 0) (hlink : Cond.fieldLink own ix (T j).1 (T j).2.1 (T j).2.2.1 ∈ WSG) (hk : (kd a).1 = ci) (ha : a < n) {ty0 : Nat → FieldType} (G : FT T N ty0) (hfin : (T j).2.2.2 = false) {x : Int32} (hn : narrow (ty0 j) (.int x) = .int x) (hfit : fits (ty0 j) (.int x) = true) (d : decode cc pc = .ok (.putfield ix, 3)) (hbn : s.heap.size + cells = b + n) (k : SWc QQ p l e R s m args below meth c cells slots nL D cA b (pc + 3) (L) (st) (n) (Q) (pI h a j x)) : SWc QQ p l e R s m args below meth c cells slots nL D cA b (pc) (L) (.int x :: .ref a :: st) (n) (Q) (h) := by
  intro hZ H locs ls hN hS hl
  obtain ⟨hin, hcl, hj, hjl, hft, hci⟩ := F
  refine va_put (v := .int x) X.1 X.2.1 X.2.2.2.2.1 hin ty0 G.1 G.2 X.2.2.2.1 X.2.2.2.2.2.1 hN.2 wdR_D hS a (by rw [wdR_get ha, enR_obj hk hci]) hcl j hj (X.2.2.2.2.1 _ hlink) (fun _ q => q) hfin (G.1 j hj) hn hfit (by rw [flR_len]; exact hjl) d (fun H1 locs1 hP1 _ hS1 => ?_)
  change va_P D vwCl ((wdR b n cA h Q).set a (b + a, _)) H1 at hP1
  rw [wdR_set (b := b) (n := n) (cA := cA) (h := h) (Q := Q) (i := a) (h' := pI h a j x) (Q' := Q) (by rw [enR_obj hk hci, flR_pI hft]) (fun a2 hne => enR_other (fun _ => by simp [pI, hne]) (fun _ => rfl) (fun _ => rfl))] at hP1
  exact W_bound (fun hsz => k (ZZ_pI hZ ha) H1 locs1 ls (WN_of hP1 (by omega) (by omega)) hS1 hl)
theorem sc_putR (X : Cc p s m args c own cc nL D cA b) {ci j N ix a : Nat} {C : String} {T : u_T} (F : FF ci j C T N 2) (hlink : Cond.fieldLink own ix (T j).1 (T j).2.1 (T j).2.2.1 ∈ WSG) (hk : (kd a).1 = ci) (ha : a < n) {ty0 : Nat → FieldType} (G : FT T N ty0) (hfin : (T j).2.2.2 = false) {v : Nat} (hn : ∀ z : Nat, narrow (ty0 j) (.ref z) = .ref z) (hfit : ∀ z : Nat, fits (ty0 j) (.ref z) = true) (d : decode cc pc = .ok (.putfield ix, 3)) (hbn : s.heap.size + cells = b + n) (k : SWc QQ p l e R s m args below meth c cells slots nL D cA b (pc + 3) (L) (st) (n) (rU Q a j v) (h)) : SWc QQ p l e R s m args below meth c cells slots nL D cA b (pc) (L) (.ref v :: .ref a :: st) (n) (Q) (h) := by
  intro hZ H locs ls hN hS hl
  obtain ⟨hin, hcl, hj, hjl, hft, hci⟩ := F
  refine va_put (v := .ref (b + v)) X.1 X.2.1 X.2.2.2.2.1 hin ty0 G.1 G.2 X.2.2.2.1 X.2.2.2.2.2.1 hN.2 wdR_D hS a (by rw [wdR_get ha, enR_obj hk hci]) hcl j hj (X.2.2.2.2.1 _ hlink) (fun _ q => q) hfin (G.1 j hj) (hn _) (hfit _) (by rw [flR_len]; exact hjl) d (fun H1 locs1 hP1 _ hS1 => ?_)
  change va_P D vwCl ((wdR b n cA h Q).set a (b + a, _)) H1 at hP1
  rw [wdR_set (b := b) (n := n) (cA := cA) (h := h) (Q := Q) (i := a) (h' := h) (Q' := rU Q a j v) (by rw [enR_obj hk hci, ← flR_rU hft]) (fun a2 hne => enR_other (fun _ => rfl) (fun _ => rfl) (fun _ => by simp [rU, hne]))] at hP1
  exact W_bound (fun hsz => k (ZZ_rU hZ ha) H1 locs1 ls (WN_of hP1 (by omega) (by omega)) hS1 hl)
theorem sc_putFI (X : Cc p s m args c own cc nL D cA b) {ci j N ix a : Nat} {C : String} {T : u_T} (F : FF ci j C T N 0) (hlink : Cond.fieldLink own ix (T j).1 (T j).2.1 (T j).2.2.1 ∈ WSG) (hk : (kd a).1 = ci) (ha : a < n) {ty0 : Nat → FieldType} (G : FT T N ty0) (hfin : (T j).2.2.2 = true) (hmi : meth.name = "<init>") (hdecl : (T j).1 = own) {x : Int32} (hn : narrow (ty0 j) (.int x) = .int x) (hfit : fits (ty0 j) (.int x) = true) (d : decode cc pc = .ok (.putfield ix, 3)) (hbn : s.heap.size + cells = b + n) (k : SWc QQ p l e R s m args below meth c cells slots nL D cA b (pc + 3) (L) (st) (n) (Q) (pI h a j x)) : SWc QQ p l e R s m args below meth c cells slots nL D cA b (pc) (L) (.int x :: .ref a :: st) (n) (Q) (h) := by
  intro hZ H locs ls hN hS hl
  obtain ⟨hin, hcl, hj, hjl, hft, hci⟩ := F
  refine va_putF (v := .int x) X.1 X.2.1 X.2.2.2.2.1 hin ty0 G.1 G.2 X.2.2.2.1 X.2.2.2.2.2.1 hN.2 wdR_D hS a (by rw [wdR_get ha, enR_obj hk hci]) hcl j hj (X.2.2.2.2.1 _ hlink) (fun _ q => q) hfin hmi hdecl (G.1 j hj) hn hfit (by rw [flR_len]; exact hjl) d (fun H1 locs1 hP1 _ hS1 => ?_)
  change va_P D vwCl ((wdR b n cA h Q).set a (b + a, _)) H1 at hP1
  rw [wdR_set (b := b) (n := n) (cA := cA) (h := h) (Q := Q) (i := a) (h' := pI h a j x) (Q' := Q) (by rw [enR_obj hk hci, flR_pI hft]) (fun a2 hne => enR_other (fun _ => by simp [pI, hne]) (fun _ => rfl) (fun _ => rfl))] at hP1
  exact W_bound (fun hsz => k (ZZ_pI hZ ha) H1 locs1 ls (WN_of hP1 (by omega) (by omega)) hS1 hl)
theorem sc_putFR (X : Cc p s m args c own cc nL D cA b) {ci j N ix a : Nat} {C : String} {T : u_T} (F : FF ci j C T N 2) (hlink : Cond.fieldLink own ix (T j).1 (T j).2.1 (T j).2.2.1 ∈ WSG) (hk : (kd a).1 = ci) (ha : a < n) {ty0 : Nat → FieldType} (G : FT T N ty0) (hfin : (T j).2.2.2 = true) (hmi : meth.name = "<init>") (hdecl : (T j).1 = own) {v : Nat} (hn : ∀ z : Nat, narrow (ty0 j) (.ref z) = .ref z) (hfit : ∀ z : Nat, fits (ty0 j) (.ref z) = true) (d : decode cc pc = .ok (.putfield ix, 3)) (hbn : s.heap.size + cells = b + n) (k : SWc QQ p l e R s m args below meth c cells slots nL D cA b (pc + 3) (L) (st) (n) (rU Q a j v) (h)) : SWc QQ p l e R s m args below meth c cells slots nL D cA b (pc) (L) (.ref v :: .ref a :: st) (n) (Q) (h) := by
  intro hZ H locs ls hN hS hl
  obtain ⟨hin, hcl, hj, hjl, hft, hci⟩ := F
  refine va_putF (v := .ref (b + v)) X.1 X.2.1 X.2.2.2.2.1 hin ty0 G.1 G.2 X.2.2.2.1 X.2.2.2.2.2.1 hN.2 wdR_D hS a (by rw [wdR_get ha, enR_obj hk hci]) hcl j hj (X.2.2.2.2.1 _ hlink) (fun _ q => q) hfin hmi hdecl (G.1 j hj) (hn _) (hfit _) (by rw [flR_len]; exact hjl) d (fun H1 locs1 hP1 _ hS1 => ?_)
  change va_P D vwCl ((wdR b n cA h Q).set a (b + a, _)) H1 at hP1
  rw [wdR_set (b := b) (n := n) (cA := cA) (h := h) (Q := Q) (i := a) (h' := h) (Q' := rU Q a j v) (by rw [enR_obj hk hci, ← flR_rU hft]) (fun a2 hne => enR_other (fun _ => rfl) (fun _ => rfl) (fun _ => by simp [rU, hne]))] at hP1
  exact W_bound (fun hsz => k (ZZ_rU hZ ha) H1 locs1 ls (WN_of hP1 (by omega) (by omega)) hS1 hl)
theorem sc_iast (X : Cc p s m args c own cc nL D cA b) {a N iN : Nat} {i x : Int32} (hiN : i.toNatClampNeg = iN) (hk : kd a = (13, N)) (ha : a < n) (hx : 0 ≤ i.toInt ∧ i.toInt < (N : Int)) (d : decode cc pc = .ok (.iastore, 1)) (hbn : s.heap.size + cells = b + n) (k : SWc QQ p l e R s m args below meth c cells slots nL D cA b (pc + 1) (L) (st) (n) (Q) (pI h a iN x)) : SWc QQ p l e R s m args below meth c cells slots nL D cA b (pc) (L) (.int x :: .int i :: .ref a :: st) (n) (Q) (h) := by
  subst hiN
  intro hZ H locs ls hN hS hl
  refine va_iast X.1 X.2.1 X.2.2.2.2.2.1 hN.2 wdR_D hS a 0 (by rw [wdR_get ha, enR_ints hk (by decide) (by decide)]) rfl (ix_in hx) d (fun H1 locs1 hP1 _ hS1 => ?_)
  change va_P D vwCl ((wdR b n cA h Q).set a (b + a, _)) H1 at hP1
  rw [wdR_set (b := b) (n := n) (cA := cA) (h := h) (Q := Q) (i := a) (h' := pI h a i.toNatClampNeg x) (Q' := Q) (by rw [enR_ints hk (by decide) (by decide), upd_pI]) (fun a2 hne => enR_other (fun _ => by simp [pI, hne]) (fun _ => rfl) (fun _ => rfl))] at hP1
  exact W_bound (fun hsz => k (ZZ_pI hZ ha) H1 locs1 ls (WN_of hP1 (by omega) (by omega)) hS1 hl)
theorem sc_alen (X : Cc p s m args c own cc nL D cA b) {a N : Nat} (hk : kd a = (13, N)) (ha : a < n) (d : decode cc pc = .ok (.arraylength, 1)) (k : SWc QQ p l e R s m args below meth c cells slots nL D cA b (pc + 1) (L) (.int (Int32.ofNat N) :: st) (n) (Q) (h)) : SWc QQ p l e R s m args below meth c cells slots nL D cA b (pc) (L) (.ref a :: st) (n) (Q) (h) := by
  intro hZ H locs ls hN hS hl
  exact va_alen (x := ((N, .inl (h.1 a)) : vp_A)) X.1 X.2.1 X.2.2.2.2.2.1 hN.2 a 0 (by rw [wdR_get ha, enR_ints hk (by decide) (by decide)]) rfl rfl d (k hZ H locs ls hN hS hl)
theorem sc_aast (X : Cc p s m args c own cc nL D cA b) {a N v c0 ci t0 iN : Nat} {i : Int32} {r : vw_C} (hiN : i.toNatClampNeg = iN) (hk : kd a = (c0, N)) (h16 : 16 < c0) (h22 : c0 < 22) (ha : a < n) (hkv : (kd v).1 = ci) (hci : ci < 13) (hv : v < n) (hcl : vwCl[ci]? = some r) (ht : ∀ cA : Nat → ClassId, (tyl cA)[t0]? = some (cA c0, .object r.1)) (hx : 0 ≤ i.toInt ∧ i.toInt < (N : Int)) (d : decode cc pc = .ok (.aastore, 1)) (hbn : s.heap.size + cells = b + n) (k : SWc QQ p l e R s m args below meth c cells slots nL D cA b (pc + 1) (L) (st) (n) (rU Q a iN v) (h)) : SWc QQ p l e R s m args below meth c cells slots nL D cA b (pc) (L) (.ref v :: .int i :: .ref a :: st) (n) (Q) (h) := by
  subst hiN
  intro hZ H locs ls hN hS hl
  refine va_astq X.1 X.2.1 X.2.2.2.2.2.1 hN.2 wdR_D hS a t0 v ci (by rw [wdR_get ha, enR_refs hk h16 h22]) (ht cA) (by rw [wdR_get hv, enR_obj hkv hci]) hcl (ix_in hx) d (fun H1 locs1 hP1 _ hS1 => ?_)
  change va_P D vwCl ((wdR b n cA h Q).set a (b + a, _)) H1 at hP1
  rw [wdR_set (b := b) (n := n) (cA := cA) (h := h) (Q := Q) (i := a) (h' := h) (Q' := rU Q a i.toNatClampNeg v) (by rw [enR_refs hk h16 h22]; congr; funext j; by_cases hj : j = i.toNatClampNeg <;> simp [rU, va_up, hj]) (fun a2 hne => enR_other (fun _ => rfl) (fun _ => rfl) (fun _ => by simp [rU, hne]))] at hP1
  exact W_bound (fun hsz => k (ZZ_rU hZ ha) H1 locs1 ls (WN_of hP1 (by omega) (by omega)) hS1 hl)
end SCs
def PreK (D : va_G) (cA : Nat → ClassId) (b : Nat) (As : List Value) (n : Nat) (Q : RF) (h : PH) : Array Value → State → Prop := va_Pc (As.map (tv (adb b))) (fun U => WN D cA b n h Q U.heap ∧ va_K D vwCl (tyl cA) U ∧ OO b U U.heap)
def PstK (D : va_G) (cA : Nat → ClassId) (b : Nat) (n : Nat) (Q : RF) (h : PH) : Array Value → State → Outcome → State → Prop := fun _ st oc t => oc = .returned none ∧ WN D cA b n h Q t.heap ∧ va_F (Ab b) st t
/-- a constructor (or another method that answers nothing), called where n cells are made, over h and Q: then n' are, over h' and Q' -/
def CTc (l : Launch) (y : MethodName) (bytes : ByteArray) (maxL : Nat) (rm : Room) (As : List Value) (n : Nat) (Q : RF) (h : PH) (n' : Nat) (Q' : RF) (h' : PH) (mc ms : Nat) : Prop :=
  ZZ n h Q → ZZ n' h' Q' ∧ ∀ (D : va_G) (cA : Nat → ClassId) (b : Nat), nc cA = NC → Met l y (.code y bytes maxL none :: WSG) rm (PreK D cA b As n Q h) (PstK D cA b n' Q' h') mc ms (Ab b)
theorem ctc_of {l : Launch} {y : MethodName} {bytes : ByteArray} {maxL : Nat} {rm : Room} {As : List Value} {n n' mc ms : Nat} {Q Q' : RF} {h h' : PH} (hy : plainName y.cls = true) (hlen : (lg_sl As).length ≤ maxL) (hzz : ZZ n h Q → ZZ n' h' Q')
    (body : ∀ (p : Program) (e : Env) (s : State) (m : MethodId) (args : Array Value) (below : List Frame) (meth : Method) (c : Code) (D : va_G) (cA : Nat → ClassId) (b : Nat), nc cA = NC → Cc p s m args c y.cls bytes maxL D cA b → meth.sig.returnType = none → meth.locks = false → meth.name = y.name → s.heap.size = b + n → SWc (MQ below (PstK D cA b n' Q' h') args s mc ms (Ab b)) p l e rm s m args below meth c 0 0 maxL D cA b 0 (lv_args 0 As) [] n Q h) : CTc l y bytes maxL rm As n Q h n' Q' h' mc ms := by
  intro hZ
  refine ⟨hzz hZ, fun D cA b hnc => ?_⟩
  refine Met.ofW (cc := bytes) (maxL := maxL) (ret := none) hy rfl ?_
  intro p e s m args below meth c s₁ B hml hv
  obtain ⟨rfl, hN, hK, hO⟩ := hv
  have hts := atoms_spec (ws := .code y bytes maxL none :: WSG) B.pre
  have hown : s.vm.findClass y.cls = some m.cls := findClass_of_methodNamed B.named
  have hl := lv_entry (As.map (tv (adb b))) (n := maxL) (by rw [lg_sl_tv]; exact hlen)
  rw [lg_entry_eq]
  rw [lv_args_tq] at hl
  exact body p e s m _ below meth c D cA b hnc ⟨B.exec, B.bytes, hml, hown, fun w hw => hts w (List.mem_cons_of_mem _ hw), hK, by rw [hN.1]; exact Nat.le_add_right _ _, hO⟩ B.returns B.notSynchronized (name_of_methodNamed B.named B.method).1 hN.1 hZ s.heap [] _ hN va_S.rf hl
theorem preK_blind {D : va_G} {cA : Nat → ClassId} {b n : Nat} {As : List Value} {h : PH} {Q : RF} : FrameBlind (PreK D cA b As n Q h) := fun a U g mk q => by
  obtain ⟨q0, qP, qK, qO⟩ := q
  exact ⟨q0, qP, va_K.moved (u := U) (U := U.calling g mk a) (Vm.Alike.refl U.vm) qK, qO.same (U := U) (V := U.calling g mk a) rfl⟩
section SCk
variable {p : Program} {l : Launch} {e : Env} {R : Room} {s : State} {m : MethodId} {args : Array Value} {below : List Frame} {meth : Method} {c : Code} {cells slots nL : Nat} {D : va_G} {cA : Nat → ClassId} {b : Nat} {own : String} {cc : ByteArray} {pc tgt n : Nat} {L L' : List (Nat × Value)} {st : List Value} {h : PH} {Q : RF} {QQ : State → Prop}
theorem sc_vret (X : Cc p s m args c own cc nL D cA b) (hr : meth.sig.returnType = none) (hlk : meth.locks = false) (d : decode cc pc = .ok (.return_, 1)) : SWc (MQ below (PstK D cA b n Q h) args s cells slots (Ab b)) p l e R s m args below meth c cells slots nL D cA b pc L [] n Q h := by
  intro hZ H locs ls hN hS hl
  exact W.vret X.1 X.2.1 hr (fun t ht hW => ⟨rfl, by rw [ht]; exact hN, hS.F ht⟩) hS.2.2 d hlk
theorem sc_callI (X : Cc p s m args c own cc nL D cA b) (hnc : nc cA = NC) {y : MethodName} {bytes : ByteArray} {maxL ix na n1 mc1 ms1 : Nat} {rm : Room} {As : List Value} {Q1 : RF} {h1 : PH} {a : Nat} (hM : CTc l y bytes maxL rm (.ref a :: As) n Q h n1 Q1 h1 mc1 ms1) (hw1 : Cond.methodLink own ix y ∈ WSG) (hw2 : Cond.instanceMethod y ∈ WSG) (hw4 : Cond.initialized y.cls ∈ WSG) (hw5 : Cond.code y bytes maxL none ∈ WSG) (hy1 : y.name = "<init>") (hd : y.cls ≠ "java/lang/invoke/MethodHandle" ∧ y.cls ≠ "java/lang/invoke/VarHandle" ∧ (parseMethodDescriptor y.desc).map (fun d => d.parameters.length) = some na) (hn : As.length = na) (hrc : rm.cells = mc1) (hrs : rm.slots = ms1) (hR : rm.frames + 1 ≤ R.frames ∧ 8 + (maxL + 11) + rm.locals ≤ R.locals) (hcs : cells + mc1 ≤ R.cells ∧ slots + ms1 ≤ R.slots) (hst : (st.map fun v => v.category).sum ≤ 8) (d : decode cc pc = .ok (.invokespecial ix, 3)) (k : SWc QQ p l e R s m args below meth c (cells + mc1) (slots + ms1) nL D cA b (pc + 3) (L) (st) (n1) (Q1) (h1)) {st0 : List Value} (hs0 : st0 = As.reverse ++ .ref a :: st) : SWc QQ p l e R s m args below meth c cells slots nL D cA b (pc) (L) (st0) (n) (Q) (h) := by
  subst hs0
  intro hZ H locs ls hN hS hl
  obtain ⟨hZ1, hM⟩ := hM hZ
  intro T hT XS
  obtain ⟨v, st₀, t, T', Lc, h0, X', hLc, e1', e2', ⟨hv, hN1, hF⟩, go⟩ := (va_runI (p := p) (l := l) (e := e) (R := R) (below := below) (meth := meth) (locs := locs) (cells := cells) (slots := slots) (b := b + a) (As := As.map (tv (adb b))) (rest := st.map (tv (adb b))) (g := F0 m pc ls ((As.reverse ++ .ref a :: st).map (tv (adb b)))) ⟨X.1, X.2.1, X.2.2.1, X.2.2.2.1, X.2.2.2.2.1⟩ (hM D cA b hnc) (cwI na X.2.2.2.2.1 (wsg_cons hw5) rfl hrc hrs (X.2.2.2.2.1 _ hw4) (X.2.2.2.2.1 _ hw1) (X.2.2.2.2.1 _ hw2) hy1 hd hR) ⟨preK_blind, fun U hU hW => ⟨rfl, by rw [hU]; exact hN, va_K.moved hW.alike X.2.2.2.2.2.1, by rw [hU]; exact OO.step X.2.2.2.2.2.2.2 hS hW⟩⟩ rfl (by rw [List.length_map]; exact hn) hl.1 (by show List.map _ _ = _; simp [tv]) (lv_room (by rw [cat_tv]; exact hst)) d ⟨hcs.1, hcs.2⟩) T hT XS
  cases hv
  obtain ⟨k1, k2, k3⟩ := vx_keep h0 e1' hS (fun q _ hq => hq) (fun q hq => hq) hLc hF
  obtain ⟨t2, a1, b1⟩ := k hZ1 T'.heap (locs ++ Lc) ls (by rw [e1']; exact hN1) k3 hl T' rfl X'
  exact ⟨t2, go t2 a1, b1⟩
theorem sc_callN (X : Cc p s m args c own cc nL D cA b) (hnc : nc cA = NC) {y : MethodName} {bytes : ByteArray} {maxL ix na n1 mc1 ms1 : Nat} {rm : Room} {As : List Value} {Q1 : RF} {h1 : PH} {a : Nat} (hM : CTc l y bytes maxL rm (.ref a :: As) n Q h n1 Q1 h1 mc1 ms1) (hown : "RainWishes" = own) (hw1 : (ix, y) ∈ nnL) (hw2 : Cond.instanceMethod y ∈ WSG) (hw4 : Cond.initialized y.cls ∈ WSG) (hw5 : Cond.code y bytes maxL none ∈ WSG) (hy1 : y.name = "<init>") (hd : y.cls ≠ "java/lang/invoke/MethodHandle" ∧ y.cls ≠ "java/lang/invoke/VarHandle" ∧ (parseMethodDescriptor y.desc).map (fun d => d.parameters.length) = some na) (hn : As.length = na) (hrc : rm.cells = mc1) (hrs : rm.slots = ms1) (hR : rm.frames + 1 ≤ R.frames ∧ 8 + (maxL + 11) + rm.locals ≤ R.locals) (hcs : cells + mc1 ≤ R.cells ∧ slots + ms1 ≤ R.slots) (hst : (st.map fun v => v.category).sum ≤ 8) (d : decode cc pc = .ok (.invokespecial ix, 3)) (k : SWc QQ p l e R s m args below meth c (cells + mc1) (slots + ms1) nL D cA b (pc + 3) (L) (st) (n1) (Q1) (h1)) {st0 : List Value} (hs0 : st0 = As.reverse ++ .ref a :: st) : SWc QQ p l e R s m args below meth c cells slots nL D cA b (pc) (L) (st0) (n) (Q) (h) := by
  subst hs0
  intro hZ H locs ls hN hS hl
  obtain ⟨hZ1, hM⟩ := hM hZ
  intro T hT XS
  obtain ⟨v, st₀, t, T', Lc, h0, X', hLc, e1', e2', ⟨hv, hN1, hF⟩, go⟩ := (va_runIN (p := p) (l := l) (e := e) (R := R) (below := below) (meth := meth) (locs := locs) (cells := cells) (slots := slots) (b := b + a) (As := As.map (tv (adb b))) (rest := st.map (tv (adb b))) (g := F0 m pc ls ((As.reverse ++ .ref a :: st).map (tv (adb b)))) ⟨X.1, X.2.1, X.2.2.1, X.2.2.2.1, X.2.2.2.2.1⟩ (hM D cA b hnc) (⟨va_cnB na X.2.2.2.2.1 (wsg_cons hw5) rfl hrc hrs (hown ▸ X.2.2.2.2.2.2.2.1 _ hw1) (X.2.2.2.2.1 _ hw4) hd hR, hy1, X.2.2.2.2.1 _ hw2⟩) ⟨preK_blind, fun U hU hW => ⟨rfl, by rw [hU]; exact hN, va_K.moved hW.alike X.2.2.2.2.2.1, by rw [hU]; exact OO.step X.2.2.2.2.2.2.2 hS hW⟩⟩ rfl (by rw [List.length_map]; exact hn) hl.1 (by show List.map _ _ = _; simp [tv]) (lv_room (by rw [cat_tv]; exact hst)) d ⟨hcs.1, hcs.2⟩) T hT XS
  cases hv
  obtain ⟨k1, k2, k3⟩ := vx_keep h0 e1' hS (fun q _ hq => hq) (fun q hq => hq) hLc hF
  obtain ⟨t2, a1, b1⟩ := k hZ1 T'.heap (locs ++ Lc) ls (by rw [e1']; exact hN1) k3 hl T' rfl X'
  exact ⟨t2, go t2 a1, b1⟩
theorem sc_callS (X : Cc p s m args c own cc nL D cA b) (hnc : nc cA = NC) {y : MethodName} {bytes : ByteArray} {maxL ix na n1 mc1 ms1 : Nat} {rm : Room} {As : List Value} {Q1 : RF} {h1 : PH} (hM : CTc l y bytes maxL rm As n Q h n1 Q1 h1 mc1 ms1) (hw1 : Cond.methodLink own ix y ∈ WSG) (hw2 : Cond.static y ∈ WSG) (hw4 : Cond.initialized y.cls ∈ WSG) (hw5 : Cond.code y bytes maxL none ∈ WSG) (hd : y.cls ≠ "java/lang/invoke/MethodHandle" ∧ y.cls ≠ "java/lang/invoke/VarHandle" ∧ (parseMethodDescriptor y.desc).map (fun d => d.parameters.length) = some na) (hn : As.length = na) (hrc : rm.cells = mc1) (hrs : rm.slots = ms1) (hR : rm.frames + 1 ≤ R.frames ∧ 8 + (maxL + 11) + rm.locals ≤ R.locals) (hcs : cells + mc1 ≤ R.cells ∧ slots + ms1 ≤ R.slots) (hst : (st.map fun v => v.category).sum ≤ 8) (d : decode cc pc = .ok (.invokestatic ix, 3)) (k : SWc QQ p l e R s m args below meth c (cells + mc1) (slots + ms1) nL D cA b (pc + 3) (L) (st) (n1) (Q1) (h1)) {st0 : List Value} (hs0 : st0 = As.reverse ++ st) : SWc QQ p l e R s m args below meth c cells slots nL D cA b (pc) (L) (st0) (n) (Q) (h) := by
  subst hs0
  intro hZ H locs ls hN hS hl
  obtain ⟨hZ1, hM⟩ := hM hZ
  intro T hT XS
  obtain ⟨v, st₀, t, T', Lc, h0, X', hLc, e1', e2', ⟨hv, hN1, hF⟩, go⟩ := (va_runS (p := p) (l := l) (e := e) (R := R) (below := below) (meth := meth) (locs := locs) (cells := cells) (slots := slots) (As := As.map (tv (adb b))) (rest := st.map (tv (adb b))) (g := F0 m pc ls ((As.reverse ++ st).map (tv (adb b)))) ⟨X.1, X.2.1, X.2.2.1, X.2.2.2.1, X.2.2.2.2.1⟩ (hM D cA b hnc) ⟨callB_of na X.2.2.2.2.1 (wsg_cons hw5) rfl hrc hrs (X.2.2.2.2.1 _ hw4) (X.2.2.2.2.1 _ hw1) hd hR, X.2.2.2.2.1 _ hw2⟩ ⟨preK_blind, fun U hU hW => ⟨rfl, by rw [hU]; exact hN, va_K.moved hW.alike X.2.2.2.2.2.1, by rw [hU]; exact OO.step X.2.2.2.2.2.2.2 hS hW⟩⟩ rfl (by rw [List.length_map]; exact hn) hl.1 (by show List.map _ _ = _; simp) (lv_room (by rw [cat_tv]; exact hst)) d ⟨hcs.1, hcs.2⟩) T hT XS
  cases hv
  obtain ⟨k1, k2, k3⟩ := vx_keep h0 e1' hS (fun q _ hq => hq) (fun q hq => hq) hLc hF
  obtain ⟨t2, a1, b1⟩ := k hZ1 T'.heap (locs ++ Lc) ls (by rw [e1']; exact hN1) k3 hl T' rfl X'
  exact ⟨t2, go t2 a1, b1⟩
theorem sc_callV (X : Cc p s m args c own cc nL D cA b) (hnc : nc cA = NC) {y : MethodName} {bytes : ByteArray} {maxL ix na n1 mc1 ms1 : Nat} {rm : Room} {As : List Value} {Q1 : RF} {h1 : PH} {a ci N : Nat} {C : String} {T : u_T} (hM : CTc l y bytes maxL rm (.ref a :: As) n Q h n1 Q1 h1 mc1 ms1) (hk : (kd a).1 = ci) (ha : a < n) (hci : ci < 13) (hcl : vwCl[ci]? = some (C, T, N)) (hC : y.cls = C) (hw1 : Cond.methodLink own ix y ∈ WSG) (hw2 : Cond.instanceMethod y ∈ WSG) (hw3 : Cond.selects C y y ∈ WSG) (hw4 : Cond.initialized C ∈ WSG) (hw5 : Cond.code y bytes maxL none ∈ WSG) (hd : y.cls ≠ "java/lang/invoke/MethodHandle" ∧ y.cls ≠ "java/lang/invoke/VarHandle" ∧ (parseMethodDescriptor y.desc).map (fun d => d.parameters.length) = some na) (hn : As.length = na) (hrc : rm.cells = mc1) (hrs : rm.slots = ms1) (hR : rm.frames + 1 ≤ R.frames ∧ 8 + (maxL + 11) + rm.locals ≤ R.locals) (hcs : cells + mc1 ≤ R.cells ∧ slots + ms1 ≤ R.slots) (hst : (st.map fun v => v.category).sum ≤ 8) (d : decode cc pc = .ok (.invokevirtual ix, 3)) (k : SWc QQ p l e R s m args below meth c (cells + mc1) (slots + ms1) nL D cA b (pc + 3) (L) (st) (n1) (Q1) (h1)) {st0 : List Value} (hs0 : st0 = As.reverse ++ .ref a :: st) : SWc QQ p l e R s m args below meth c cells slots nL D cA b (pc) (L) (st0) (n) (Q) (h) := by
  subst hs0
  intro hZ H locs ls hN hS hl
  have hG : GoodIn WSG (wsV own ix C y (.code y bytes maxL none :: WSG)) := by
    intro w hw
    simp only [wsV, List.mem_append, List.mem_cons, List.not_mem_nil, or_false] at hw
    rcases hw with (rfl | rfl | rfl | rfl) | rfl | hw
    · exact wsg_in hw1
    · exact wsg_in hw2
    · exact wsg_in hw3
    · exact wsg_in hw4
    · exact wsg_in hw5
    · exact wsg_in hw
  obtain ⟨hZ1, hM⟩ := hM hZ
  intro T hT XS
  obtain ⟨v, st₀, t, T', Lc, h0, X', hLc, e1', e2', ⟨hv, hN1, hF⟩, go⟩ := (va_runV (p := p) (l := l) (e := e) (R := R) (below := below) (meth := meth) (locs := locs) (cells := cells) (slots := slots) (C := C) (b := b + a) (As := As.map (tv (adb b))) (rest := st.map (tv (adb b))) (g := F0 m pc ls ((As.reverse ++ .ref a :: st).map (tv (adb b)))) ⟨X.1, X.2.1, X.2.2.1, X.2.2.2.1, X.2.2.2.2.1⟩ (hM D cA b hnc) (cwV na X.2.2.2.2.1 hG rfl hrc hrs ⟨hC, hd⟩ hR) ⟨preK_blind, va_recv X.2.2.2.2.2.1 hN.2 hcl (by rw [wdR_get ha, enR_obj hk hci]), fun U hU hW => ⟨rfl, by rw [hU]; exact hN, va_K.moved hW.alike X.2.2.2.2.2.1, by rw [hU]; exact OO.step X.2.2.2.2.2.2.2 hS hW⟩⟩ rfl (by rw [List.length_map]; exact hn) hl.1 (by show List.map _ _ = _; simp [tv]) (lv_room (by rw [cat_tv]; exact hst)) d ⟨hcs.1, hcs.2⟩) T hT XS
  cases hv
  obtain ⟨k1, k2, k3⟩ := vx_keep h0 e1' hS (fun q _ hq => hq) (fun q hq => hq) hLc hF
  obtain ⟨t2, a1, b1⟩ := k hZ1 T'.heap (locs ++ Lc) ls (by rw [e1']; exact hN1) k3 hl T' rfl X'
  exact ⟨t2, go t2 a1, b1⟩
end SCk
end

-- ===== PART A: goes FIRST, ahead of the names: the tables' words, and 'selects' of the private methods out of them =====
/-- a private method of a class that the tables say can be made, by its rows of tables_1 -/
def lw_okq (q : MethodName × Nat) : Prop := (q.1.cls ≠ "java/lang/invoke/MethodHandle" ∧ q.1.cls ≠ "java/lang/invoke/VarHandle") ∧ Cond.instantiable q.1.cls q.2 ∈ tables_1 ∧ Cond.privateMethod q.1 ∈ tables_1 ∧ Cond.instanceMethod q.1 ∈ tables_1
theorem lw_p0 : lw_okq (⟨"MagnetPoems", "readBuffer", "()I"⟩, 8) := ⟨⟨by decide +kernel, by decide +kernel⟩, List.mem_of_getElem? (i := 14) (by decide +kernel), List.mem_of_getElem? (i := 162) (by decide +kernel), List.mem_of_getElem? (i := 163) (by decide +kernel)⟩
theorem lw_p1 : lw_okq (⟨"MagnetPoems$PoemReader", "takesDigit", "(I)Z"⟩, 7) := ⟨⟨by decide +kernel, by decide +kernel⟩, List.mem_of_getElem? (i := 99) (by decide +kernel), List.mem_of_getElem? (i := 174) (by decide +kernel), List.mem_of_getElem? (i := 175) (by decide +kernel)⟩
theorem lw_p2 : lw_okq (⟨"MagnetPoems$PoemReader", "canBegin", "(I)Z"⟩, 7) := ⟨⟨by decide +kernel, by decide +kernel⟩, List.mem_of_getElem? (i := 99) (by decide +kernel), List.mem_of_getElem? (i := 178) (by decide +kernel), List.mem_of_getElem? (i := 179) (by decide +kernel)⟩
theorem lw_p3 : lw_okq (⟨"MagnetPoems$PoemReader", "isFree", "(I)Z"⟩, 7) := ⟨⟨by decide +kernel, by decide +kernel⟩, List.mem_of_getElem? (i := 99) (by decide +kernel), List.mem_of_getElem? (i := 182) (by decide +kernel), List.mem_of_getElem? (i := 183) (by decide +kernel)⟩
theorem lw_p4 : lw_okq (⟨"MagnetPoems$PoemReader", "setTold", "(I)V"⟩, 7) := ⟨⟨by decide +kernel, by decide +kernel⟩, List.mem_of_getElem? (i := 99) (by decide +kernel), List.mem_of_getElem? (i := 190) (by decide +kernel), List.mem_of_getElem? (i := 191) (by decide +kernel)⟩
theorem lw_p5 : lw_okq (⟨"MagnetPoems$Board", "doorOfThief", "()I"⟩, 13) := ⟨⟨by decide +kernel, by decide +kernel⟩, List.mem_of_getElem? (i := 22) (by decide +kernel), List.mem_of_getElem? (i := 203) (by decide +kernel), List.mem_of_getElem? (i := 204) (by decide +kernel)⟩
theorem lw_p6 : lw_okq (⟨"MagnetPoems$Board", "preyOn", "(I)I"⟩, 13) := ⟨⟨by decide +kernel, by decide +kernel⟩, List.mem_of_getElem? (i := 22) (by decide +kernel), List.mem_of_getElem? (i := 246) (by decide +kernel), List.mem_of_getElem? (i := 247) (by decide +kernel)⟩
theorem lw_p7 : lw_okq (⟨"MagnetPoems", "share", "()D"⟩, 8) := ⟨⟨by decide +kernel, by decide +kernel⟩, List.mem_of_getElem? (i := 14) (by decide +kernel), List.mem_of_getElem? (i := 254) (by decide +kernel), List.mem_of_getElem? (i := 255) (by decide +kernel)⟩
theorem lw_p8 : lw_okq (⟨"MagnetPoems$Board", "watchOneNightFewer", "()V"⟩, 13) := ⟨⟨by decide +kernel, by decide +kernel⟩, List.mem_of_getElem? (i := 22) (by decide +kernel), List.mem_of_getElem? (i := 278) (by decide +kernel), List.mem_of_getElem? (i := 279) (by decide +kernel)⟩
theorem lw_p9 : lw_okq (⟨"MagnetPoems$Board", "steal", "(II)V"⟩, 13) := ⟨⟨by decide +kernel, by decide +kernel⟩, List.mem_of_getElem? (i := 22) (by decide +kernel), List.mem_of_getElem? (i := 282) (by decide +kernel), List.mem_of_getElem? (i := 283) (by decide +kernel)⟩
theorem lw_p10 : lw_okq (⟨"MagnetPoems$Board", "endLoansOf", "(IZ)V"⟩, 13) := ⟨⟨by decide +kernel, by decide +kernel⟩, List.mem_of_getElem? (i := 22) (by decide +kernel), List.mem_of_getElem? (i := 298) (by decide +kernel), List.mem_of_getElem? (i := 299) (by decide +kernel)⟩
theorem lw_p11 : lw_okq (⟨"MagnetPoems", "numberOf", "(I)I"⟩, 8) := ⟨⟨by decide +kernel, by decide +kernel⟩, List.mem_of_getElem? (i := 14) (by decide +kernel), List.mem_of_getElem? (i := 307) (by decide +kernel), List.mem_of_getElem? (i := 308) (by decide +kernel)⟩
theorem lw_p12 : lw_okq (⟨"MagnetPoems", "mixDoor", "(JI)J"⟩, 8) := ⟨⟨by decide +kernel, by decide +kernel⟩, List.mem_of_getElem? (i := 14) (by decide +kernel), List.mem_of_getElem? (i := 335) (by decide +kernel), List.mem_of_getElem? (i := 336) (by decide +kernel)⟩
theorem lw_p13 : lw_okq (⟨"MagnetPoems$Board", "clashes", "(I)Z"⟩, 13) := ⟨⟨by decide +kernel, by decide +kernel⟩, List.mem_of_getElem? (i := 22) (by decide +kernel), List.mem_of_getElem? (i := 360) (by decide +kernel), List.mem_of_getElem? (i := 361) (by decide +kernel)⟩
theorem lw_p14 : lw_okq (⟨"MagnetPoems$Board", "wouldClash", "(III)Z"⟩, 13) := ⟨⟨by decide +kernel, by decide +kernel⟩, List.mem_of_getElem? (i := 22) (by decide +kernel), List.mem_of_getElem? (i := 376) (by decide +kernel), List.mem_of_getElem? (i := 377) (by decide +kernel)⟩
theorem lw_p15 : lw_okq (⟨"MagnetPoems", "isPlaceToPut", "(III)Z"⟩, 8) := ⟨⟨by decide +kernel, by decide +kernel⟩, List.mem_of_getElem? (i := 14) (by decide +kernel), List.mem_of_getElem? (i := 400) (by decide +kernel), List.mem_of_getElem? (i := 401) (by decide +kernel)⟩
def lw_privs_1 : List (MethodName × Nat) := [(⟨"MagnetPoems", "readBuffer", "()I"⟩, 8), (⟨"MagnetPoems$PoemReader", "takesDigit", "(I)Z"⟩, 7), (⟨"MagnetPoems$PoemReader", "canBegin", "(I)Z"⟩, 7), (⟨"MagnetPoems$PoemReader", "isFree", "(I)Z"⟩, 7), (⟨"MagnetPoems$PoemReader", "setTold", "(I)V"⟩, 7), (⟨"MagnetPoems$Board", "doorOfThief", "()I"⟩, 13), (⟨"MagnetPoems$Board", "preyOn", "(I)I"⟩, 13), (⟨"MagnetPoems", "share", "()D"⟩, 8), (⟨"MagnetPoems$Board", "watchOneNightFewer", "()V"⟩, 13), (⟨"MagnetPoems$Board", "steal", "(II)V"⟩, 13), (⟨"MagnetPoems$Board", "endLoansOf", "(IZ)V"⟩, 13), (⟨"MagnetPoems", "numberOf", "(I)I"⟩, 8), (⟨"MagnetPoems", "mixDoor", "(JI)J"⟩, 8), (⟨"MagnetPoems$Board", "clashes", "(I)Z"⟩, 13), (⟨"MagnetPoems$Board", "wouldClash", "(III)Z"⟩, 13), (⟨"MagnetPoems", "isPlaceToPut", "(III)Z"⟩, 8)]
theorem lw_r1 : ∀ q ∈ lw_privs_1, lw_okq q := List.forall_mem_cons.mpr ⟨lw_p0, List.forall_mem_cons.mpr ⟨lw_p1, List.forall_mem_cons.mpr ⟨lw_p2, List.forall_mem_cons.mpr ⟨lw_p3, List.forall_mem_cons.mpr ⟨lw_p4, List.forall_mem_cons.mpr ⟨lw_p5, List.forall_mem_cons.mpr ⟨lw_p6, List.forall_mem_cons.mpr ⟨lw_p7, List.forall_mem_cons.mpr ⟨lw_p8, List.forall_mem_cons.mpr ⟨lw_p9, List.forall_mem_cons.mpr ⟨lw_p10, List.forall_mem_cons.mpr ⟨lw_p11, List.forall_mem_cons.mpr ⟨lw_p12, List.forall_mem_cons.mpr ⟨lw_p13, List.forall_mem_cons.mpr ⟨lw_p14, List.forall_mem_cons.mpr ⟨lw_p15, fun _ h => absurd h List.not_mem_nil⟩⟩⟩⟩⟩⟩⟩⟩⟩⟩⟩⟩⟩⟩⟩⟩
theorem lw_p16 : lw_okq (⟨"java/lang/Throwable", "fillInStackTrace", "(I)Ljava/lang/Throwable;"⟩, 6) := ⟨⟨by decide +kernel, by decide +kernel⟩, List.mem_of_getElem? (i := 452) (by decide +kernel), List.mem_of_getElem? (i := 450) (by decide +kernel), List.mem_of_getElem? (i := 451) (by decide +kernel)⟩
theorem lw_p17 : lw_okq (⟨"MagnetPoems$History", "stateAt", "(I)LMagnetPoems$Board;"⟩, 3) := ⟨⟨by decide +kernel, by decide +kernel⟩, List.mem_of_getElem? (i := 79) (by decide +kernel), List.mem_of_getElem? (i := 506) (by decide +kernel), List.mem_of_getElem? (i := 507) (by decide +kernel)⟩
theorem lw_p18 : lw_okq (⟨"MagnetPoems", "addCode", "(I)V"⟩, 8) := ⟨⟨by decide +kernel, by decide +kernel⟩, List.mem_of_getElem? (i := 14) (by decide +kernel), List.mem_of_getElem? (i := 640) (by decide +kernel), List.mem_of_getElem? (i := 641) (by decide +kernel)⟩
theorem lw_p19 : lw_okq (⟨"MagnetPoems", "putPoem", "(I)I"⟩, 8) := ⟨⟨by decide +kernel, by decide +kernel⟩, List.mem_of_getElem? (i := 14) (by decide +kernel), List.mem_of_getElem? (i := 653) (by decide +kernel), List.mem_of_getElem? (i := 654) (by decide +kernel)⟩
theorem lw_p20 : lw_okq (⟨"MagnetPoems", "textLength", "(I)I"⟩, 8) := ⟨⟨by decide +kernel, by decide +kernel⟩, List.mem_of_getElem? (i := 14) (by decide +kernel), List.mem_of_getElem? (i := 673) (by decide +kernel), List.mem_of_getElem? (i := 674) (by decide +kernel)⟩
theorem lw_p21 : lw_okq (⟨"MagnetPoems", "addLine", "(I)V"⟩, 8) := ⟨⟨by decide +kernel, by decide +kernel⟩, List.mem_of_getElem? (i := 14) (by decide +kernel), List.mem_of_getElem? (i := 677) (by decide +kernel), List.mem_of_getElem? (i := 678) (by decide +kernel)⟩
theorem lw_p22 : lw_okq (⟨"MagnetPoems", "addNumber", "(I)V"⟩, 8) := ⟨⟨by decide +kernel, by decide +kernel⟩, List.mem_of_getElem? (i := 14) (by decide +kernel), List.mem_of_getElem? (i := 681) (by decide +kernel), List.mem_of_getElem? (i := 682) (by decide +kernel)⟩
theorem lw_p23 : lw_okq (⟨"MagnetPoemsModel", "fails", "(I)I"⟩, 17) := ⟨⟨by decide +kernel, by decide +kernel⟩, List.mem_of_getElem? (i := 784) (by decide +kernel), List.mem_of_getElem? (i := 862) (by decide +kernel), List.mem_of_getElem? (i := 863) (by decide +kernel)⟩
theorem lw_p24 : lw_okq (⟨"MagnetPoemsModel", "lineOfWord", "(I)I"⟩, 17) := ⟨⟨by decide +kernel, by decide +kernel⟩, List.mem_of_getElem? (i := 784) (by decide +kernel), List.mem_of_getElem? (i := 866) (by decide +kernel), List.mem_of_getElem? (i := 867) (by decide +kernel)⟩
theorem lw_p25 : lw_okq (⟨"MagnetPoemsModel", "wordAt", "(II)I"⟩, 17) := ⟨⟨by decide +kernel, by decide +kernel⟩, List.mem_of_getElem? (i := 784) (by decide +kernel), List.mem_of_getElem? (i := 870) (by decide +kernel), List.mem_of_getElem? (i := 871) (by decide +kernel)⟩
theorem lw_p26 : lw_okq (⟨"MagnetPoemsModel", "save", "()V"⟩, 17) := ⟨⟨by decide +kernel, by decide +kernel⟩, List.mem_of_getElem? (i := 784) (by decide +kernel), List.mem_of_getElem? (i := 874) (by decide +kernel), List.mem_of_getElem? (i := 875) (by decide +kernel)⟩
theorem lw_p27 : lw_okq (⟨"MagnetPoemsModel", "reason", "(III)I"⟩, 17) := ⟨⟨by decide +kernel, by decide +kernel⟩, List.mem_of_getElem? (i := 784) (by decide +kernel), List.mem_of_getElem? (i := 878) (by decide +kernel), List.mem_of_getElem? (i := 879) (by decide +kernel)⟩
theorem lw_p28 : lw_okq (⟨"MagnetPoemsModel", "beatsOn", "(I)I"⟩, 17) := ⟨⟨by decide +kernel, by decide +kernel⟩, List.mem_of_getElem? (i := 784) (by decide +kernel), List.mem_of_getElem? (i := 882) (by decide +kernel), List.mem_of_getElem? (i := 883) (by decide +kernel)⟩
theorem lw_p29 : lw_okq (⟨"MagnetPoemsModel", "wordWith", "(IIII)I"⟩, 17) := ⟨⟨by decide +kernel, by decide +kernel⟩, List.mem_of_getElem? (i := 784) (by decide +kernel), List.mem_of_getElem? (i := 889) (by decide +kernel), List.mem_of_getElem? (i := 890) (by decide +kernel)⟩
theorem lw_p30 : lw_okq (⟨"MagnetPoemsModel", "insert", "(III)V"⟩, 17) := ⟨⟨by decide +kernel, by decide +kernel⟩, List.mem_of_getElem? (i := 784) (by decide +kernel), List.mem_of_getElem? (i := 899) (by decide +kernel), List.mem_of_getElem? (i := 900) (by decide +kernel)⟩
theorem lw_p31 : lw_okq (⟨"MagnetPoemsModel", "lastOf", "(I)I"⟩, 17) := ⟨⟨by decide +kernel, by decide +kernel⟩, List.mem_of_getElem? (i := 784) (by decide +kernel), List.mem_of_getElem? (i := 903) (by decide +kernel), List.mem_of_getElem? (i := 904) (by decide +kernel)⟩
def lw_privs_2 : List (MethodName × Nat) := [(⟨"java/lang/Throwable", "fillInStackTrace", "(I)Ljava/lang/Throwable;"⟩, 6), (⟨"MagnetPoems$History", "stateAt", "(I)LMagnetPoems$Board;"⟩, 3), (⟨"MagnetPoems", "addCode", "(I)V"⟩, 8), (⟨"MagnetPoems", "putPoem", "(I)I"⟩, 8), (⟨"MagnetPoems", "textLength", "(I)I"⟩, 8), (⟨"MagnetPoems", "addLine", "(I)V"⟩, 8), (⟨"MagnetPoems", "addNumber", "(I)V"⟩, 8), (⟨"MagnetPoemsModel", "fails", "(I)I"⟩, 17), (⟨"MagnetPoemsModel", "lineOfWord", "(I)I"⟩, 17), (⟨"MagnetPoemsModel", "wordAt", "(II)I"⟩, 17), (⟨"MagnetPoemsModel", "save", "()V"⟩, 17), (⟨"MagnetPoemsModel", "reason", "(III)I"⟩, 17), (⟨"MagnetPoemsModel", "beatsOn", "(I)I"⟩, 17), (⟨"MagnetPoemsModel", "wordWith", "(IIII)I"⟩, 17), (⟨"MagnetPoemsModel", "insert", "(III)V"⟩, 17), (⟨"MagnetPoemsModel", "lastOf", "(I)I"⟩, 17)]
theorem lw_r2 : ∀ q ∈ lw_privs_2, lw_okq q := List.forall_mem_cons.mpr ⟨lw_p16, List.forall_mem_cons.mpr ⟨lw_p17, List.forall_mem_cons.mpr ⟨lw_p18, List.forall_mem_cons.mpr ⟨lw_p19, List.forall_mem_cons.mpr ⟨lw_p20, List.forall_mem_cons.mpr ⟨lw_p21, List.forall_mem_cons.mpr ⟨lw_p22, List.forall_mem_cons.mpr ⟨lw_p23, List.forall_mem_cons.mpr ⟨lw_p24, List.forall_mem_cons.mpr ⟨lw_p25, List.forall_mem_cons.mpr ⟨lw_p26, List.forall_mem_cons.mpr ⟨lw_p27, List.forall_mem_cons.mpr ⟨lw_p28, List.forall_mem_cons.mpr ⟨lw_p29, List.forall_mem_cons.mpr ⟨lw_p30, List.forall_mem_cons.mpr ⟨lw_p31, fun _ h => absurd h List.not_mem_nil⟩⟩⟩⟩⟩⟩⟩⟩⟩⟩⟩⟩⟩⟩⟩⟩
theorem lw_p32 : lw_okq (⟨"MagnetPoemsModel", "endLoans", "(II)V"⟩, 17) := ⟨⟨by decide +kernel, by decide +kernel⟩, List.mem_of_getElem? (i := 784) (by decide +kernel), List.mem_of_getElem? (i := 907) (by decide +kernel), List.mem_of_getElem? (i := 908) (by decide +kernel)⟩
theorem lw_p33 : lw_okq (⟨"MagnetPoemsModel", "placeOfWord", "(I)I"⟩, 17) := ⟨⟨by decide +kernel, by decide +kernel⟩, List.mem_of_getElem? (i := 784) (by decide +kernel), List.mem_of_getElem? (i := 915) (by decide +kernel), List.mem_of_getElem? (i := 916) (by decide +kernel)⟩
theorem lw_p34 : lw_okq (⟨"MagnetPoemsModel", "removeAt", "(II)V"⟩, 17) := ⟨⟨by decide +kernel, by decide +kernel⟩, List.mem_of_getElem? (i := 784) (by decide +kernel), List.mem_of_getElem? (i := 919) (by decide +kernel), List.mem_of_getElem? (i := 920) (by decide +kernel)⟩
theorem lw_p35 : lw_okq (⟨"MagnetPoemsModel", "emptyDoor", "(I)I"⟩, 17) := ⟨⟨by decide +kernel, by decide +kernel⟩, List.mem_of_getElem? (i := 784) (by decide +kernel), List.mem_of_getElem? (i := 931) (by decide +kernel), List.mem_of_getElem? (i := 932) (by decide +kernel)⟩
theorem lw_p36 : lw_okq (⟨"MagnetPoemsModel", "canLend", "(I)Z"⟩, 17) := ⟨⟨by decide +kernel, by decide +kernel⟩, List.mem_of_getElem? (i := 784) (by decide +kernel), List.mem_of_getElem? (i := 939) (by decide +kernel), List.mem_of_getElem? (i := 940) (by decide +kernel)⟩
theorem lw_p37 : lw_okq (⟨"MagnetPoemsModel", "borrowerOf", "(I)I"⟩, 17) := ⟨⟨by decide +kernel, by decide +kernel⟩, List.mem_of_getElem? (i := 784) (by decide +kernel), List.mem_of_getElem? (i := 943) (by decide +kernel), List.mem_of_getElem? (i := 944) (by decide +kernel)⟩
theorem lw_p38 : lw_okq (⟨"MagnetPoemsModel", "lineEnding", "(I)I"⟩, 17) := ⟨⟨by decide +kernel, by decide +kernel⟩, List.mem_of_getElem? (i := 784) (by decide +kernel), List.mem_of_getElem? (i := 947) (by decide +kernel), List.mem_of_getElem? (i := 948) (by decide +kernel)⟩
theorem lw_p39 : lw_okq (⟨"MagnetPoemsModel", "nights", "(I)I"⟩, 17) := ⟨⟨by decide +kernel, by decide +kernel⟩, List.mem_of_getElem? (i := 784) (by decide +kernel), List.mem_of_getElem? (i := 962) (by decide +kernel), List.mem_of_getElem? (i := 963) (by decide +kernel)⟩
theorem lw_p40 : lw_okq (⟨"MagnetPoemsModel", "night", "()I"⟩, 17) := ⟨⟨by decide +kernel, by decide +kernel⟩, List.mem_of_getElem? (i := 784) (by decide +kernel), List.mem_of_getElem? (i := 966) (by decide +kernel), List.mem_of_getElem? (i := 967) (by decide +kernel)⟩
theorem lw_p41 : lw_okq (⟨"MagnetPoemsModel", "preyNow", "()I"⟩, 17) := ⟨⟨by decide +kernel, by decide +kernel⟩, List.mem_of_getElem? (i := 784) (by decide +kernel), List.mem_of_getElem? (i := 970) (by decide +kernel), List.mem_of_getElem? (i := 971) (by decide +kernel)⟩
theorem lw_p42 : lw_okq (⟨"MagnetPoemsModel", "target", "()I"⟩, 17) := ⟨⟨by decide +kernel, by decide +kernel⟩, List.mem_of_getElem? (i := 784) (by decide +kernel), List.mem_of_getElem? (i := 974) (by decide +kernel), List.mem_of_getElem? (i := 975) (by decide +kernel)⟩
theorem lw_p43 : lw_okq (⟨"MagnetPoemsModel", "doorWords", "(I)I"⟩, 17) := ⟨⟨by decide +kernel, by decide +kernel⟩, List.mem_of_getElem? (i := 784) (by decide +kernel), List.mem_of_getElem? (i := 978) (by decide +kernel), List.mem_of_getElem? (i := 979) (by decide +kernel)⟩
theorem lw_p44 : lw_okq (⟨"MagnetPoemsModel", "doorWorth", "(I)I"⟩, 17) := ⟨⟨by decide +kernel, by decide +kernel⟩, List.mem_of_getElem? (i := 784) (by decide +kernel), List.mem_of_getElem? (i := 982) (by decide +kernel), List.mem_of_getElem? (i := 983) (by decide +kernel)⟩
theorem lw_p45 : lw_okq (⟨"MagnetPoemsModel", "pairs", "(I)I"⟩, 17) := ⟨⟨by decide +kernel, by decide +kernel⟩, List.mem_of_getElem? (i := 784) (by decide +kernel), List.mem_of_getElem? (i := 986) (by decide +kernel), List.mem_of_getElem? (i := 987) (by decide +kernel)⟩
theorem lw_p46 : lw_okq (⟨"MagnetPoemsModel", "rhymes", "(I)I"⟩, 17) := ⟨⟨by decide +kernel, by decide +kernel⟩, List.mem_of_getElem? (i := 784) (by decide +kernel), List.mem_of_getElem? (i := 990) (by decide +kernel), List.mem_of_getElem? (i := 991) (by decide +kernel)⟩
theorem lw_p47 : lw_okq (⟨"MagnetPoemsModel", "lineWorth", "(I)I"⟩, 17) := ⟨⟨by decide +kernel, by decide +kernel⟩, List.mem_of_getElem? (i := 784) (by decide +kernel), List.mem_of_getElem? (i := 994) (by decide +kernel), List.mem_of_getElem? (i := 995) (by decide +kernel)⟩
def lw_privs_3 : List (MethodName × Nat) := [(⟨"MagnetPoemsModel", "endLoans", "(II)V"⟩, 17), (⟨"MagnetPoemsModel", "placeOfWord", "(I)I"⟩, 17), (⟨"MagnetPoemsModel", "removeAt", "(II)V"⟩, 17), (⟨"MagnetPoemsModel", "emptyDoor", "(I)I"⟩, 17), (⟨"MagnetPoemsModel", "canLend", "(I)Z"⟩, 17), (⟨"MagnetPoemsModel", "borrowerOf", "(I)I"⟩, 17), (⟨"MagnetPoemsModel", "lineEnding", "(I)I"⟩, 17), (⟨"MagnetPoemsModel", "nights", "(I)I"⟩, 17), (⟨"MagnetPoemsModel", "night", "()I"⟩, 17), (⟨"MagnetPoemsModel", "preyNow", "()I"⟩, 17), (⟨"MagnetPoemsModel", "target", "()I"⟩, 17), (⟨"MagnetPoemsModel", "doorWords", "(I)I"⟩, 17), (⟨"MagnetPoemsModel", "doorWorth", "(I)I"⟩, 17), (⟨"MagnetPoemsModel", "pairs", "(I)I"⟩, 17), (⟨"MagnetPoemsModel", "rhymes", "(I)I"⟩, 17), (⟨"MagnetPoemsModel", "lineWorth", "(I)I"⟩, 17)]
theorem lw_r3 : ∀ q ∈ lw_privs_3, lw_okq q := List.forall_mem_cons.mpr ⟨lw_p32, List.forall_mem_cons.mpr ⟨lw_p33, List.forall_mem_cons.mpr ⟨lw_p34, List.forall_mem_cons.mpr ⟨lw_p35, List.forall_mem_cons.mpr ⟨lw_p36, List.forall_mem_cons.mpr ⟨lw_p37, List.forall_mem_cons.mpr ⟨lw_p38, List.forall_mem_cons.mpr ⟨lw_p39, List.forall_mem_cons.mpr ⟨lw_p40, List.forall_mem_cons.mpr ⟨lw_p41, List.forall_mem_cons.mpr ⟨lw_p42, List.forall_mem_cons.mpr ⟨lw_p43, List.forall_mem_cons.mpr ⟨lw_p44, List.forall_mem_cons.mpr ⟨lw_p45, List.forall_mem_cons.mpr ⟨lw_p46, List.forall_mem_cons.mpr ⟨lw_p47, fun _ h => absurd h List.not_mem_nil⟩⟩⟩⟩⟩⟩⟩⟩⟩⟩⟩⟩⟩⟩⟩⟩
theorem lw_p48 : lw_okq (⟨"MagnetPoemsModel", "hasKind", "(II)Z"⟩, 17) := ⟨⟨by decide +kernel, by decide +kernel⟩, List.mem_of_getElem? (i := 784) (by decide +kernel), List.mem_of_getElem? (i := 998) (by decide +kernel), List.mem_of_getElem? (i := 999) (by decide +kernel)⟩
theorem lw_p49 : lw_okq (⟨"MagnetPoemsModel", "preyOn", "(I)I"⟩, 17) := ⟨⟨by decide +kernel, by decide +kernel⟩, List.mem_of_getElem? (i := 784) (by decide +kernel), List.mem_of_getElem? (i := 1002) (by decide +kernel), List.mem_of_getElem? (i := 1003) (by decide +kernel)⟩
theorem lw_p50 : lw_okq (⟨"MagnetPoemsModel", "readPoem", "()Z"⟩, 17) := ⟨⟨by decide +kernel, by decide +kernel⟩, List.mem_of_getElem? (i := 784) (by decide +kernel), List.mem_of_getElem? (i := 1025) (by decide +kernel), List.mem_of_getElem? (i := 1026) (by decide +kernel)⟩
theorem lw_p51 : lw_okq (⟨"MagnetPoemsModel", "readNumber", "()I"⟩, 17) := ⟨⟨by decide +kernel, by decide +kernel⟩, List.mem_of_getElem? (i := 784) (by decide +kernel), List.mem_of_getElem? (i := 1029) (by decide +kernel), List.mem_of_getElem? (i := 1030) (by decide +kernel)⟩
theorem lw_p52 : lw_okq (⟨"MagnetPoemsModel", "digitAt", "(I)I"⟩, 17) := ⟨⟨by decide +kernel, by decide +kernel⟩, List.mem_of_getElem? (i := 784) (by decide +kernel), List.mem_of_getElem? (i := 1033) (by decide +kernel), List.mem_of_getElem? (i := 1034) (by decide +kernel)⟩
theorem lw_p53 : lw_okq (⟨"MagnetPoemsModel", "canBegin", "(I)Z"⟩, 17) := ⟨⟨by decide +kernel, by decide +kernel⟩, List.mem_of_getElem? (i := 784) (by decide +kernel), List.mem_of_getElem? (i := 1037) (by decide +kernel), List.mem_of_getElem? (i := 1038) (by decide +kernel)⟩
theorem lw_p54 : lw_okq (⟨"MagnetPoemsModel", "hasStood", "(I)Z"⟩, 17) := ⟨⟨by decide +kernel, by decide +kernel⟩, List.mem_of_getElem? (i := 784) (by decide +kernel), List.mem_of_getElem? (i := 1041) (by decide +kernel), List.mem_of_getElem? (i := 1042) (by decide +kernel)⟩
theorem lw_p55 : lw_okq (⟨"MagnetPoemsModel", "draftSign", "(I)V"⟩, 17) := ⟨⟨by decide +kernel, by decide +kernel⟩, List.mem_of_getElem? (i := 784) (by decide +kernel), List.mem_of_getElem? (i := 1053) (by decide +kernel), List.mem_of_getElem? (i := 1054) (by decide +kernel)⟩
theorem lw_p56 : lw_okq (⟨"MagnetPoemsModel", "draftLine", "(I)V"⟩, 17) := ⟨⟨by decide +kernel, by decide +kernel⟩, List.mem_of_getElem? (i := 784) (by decide +kernel), List.mem_of_getElem? (i := 1057) (by decide +kernel), List.mem_of_getElem? (i := 1058) (by decide +kernel)⟩
theorem lw_p57 : lw_okq (⟨"MagnetPoemsModel", "inBag", "()I"⟩, 17) := ⟨⟨by decide +kernel, by decide +kernel⟩, List.mem_of_getElem? (i := 784) (by decide +kernel), List.mem_of_getElem? (i := 1065) (by decide +kernel), List.mem_of_getElem? (i := 1066) (by decide +kernel)⟩
theorem lw_p58 : lw_okq (⟨"MagnetPoemsModel", "wordProperty", "(II)I"⟩, 17) := ⟨⟨by decide +kernel, by decide +kernel⟩, List.mem_of_getElem? (i := 784) (by decide +kernel), List.mem_of_getElem? (i := 1081) (by decide +kernel), List.mem_of_getElem? (i := 1082) (by decide +kernel)⟩
theorem lw_p59 : lw_okq (⟨"MagnetPoemsModel", "wordOrNone", "(II)I"⟩, 17) := ⟨⟨by decide +kernel, by decide +kernel⟩, List.mem_of_getElem? (i := 784) (by decide +kernel), List.mem_of_getElem? (i := 1089) (by decide +kernel), List.mem_of_getElem? (i := 1090) (by decide +kernel)⟩
theorem lw_p60 : lw_okq (⟨"MagnetPoemsModel", "lineProperty", "(II)I"⟩, 17) := ⟨⟨by decide +kernel, by decide +kernel⟩, List.mem_of_getElem? (i := 784) (by decide +kernel), List.mem_of_getElem? (i := 1097) (by decide +kernel), List.mem_of_getElem? (i := 1098) (by decide +kernel)⟩
theorem lw_p61 : lw_okq (⟨"MagnetPoemsModel", "isMixed", "(I)Z"⟩, 17) := ⟨⟨by decide +kernel, by decide +kernel⟩, List.mem_of_getElem? (i := 784) (by decide +kernel), List.mem_of_getElem? (i := 1104) (by decide +kernel), List.mem_of_getElem? (i := 1105) (by decide +kernel)⟩
theorem lw_p62 : lw_okq (⟨"MagnetPoemsModel", "doorProperty", "(II)I"⟩, 17) := ⟨⟨by decide +kernel, by decide +kernel⟩, List.mem_of_getElem? (i := 784) (by decide +kernel), List.mem_of_getElem? (i := 1112) (by decide +kernel), List.mem_of_getElem? (i := 1113) (by decide +kernel)⟩
theorem lw_p63 : lw_okq (⟨"MagnetPoemsModel", "number", "(I)I"⟩, 17) := ⟨⟨by decide +kernel, by decide +kernel⟩, List.mem_of_getElem? (i := 784) (by decide +kernel), List.mem_of_getElem? (i := 1120) (by decide +kernel), List.mem_of_getElem? (i := 1121) (by decide +kernel)⟩
def lw_privs_4 : List (MethodName × Nat) := [(⟨"MagnetPoemsModel", "hasKind", "(II)Z"⟩, 17), (⟨"MagnetPoemsModel", "preyOn", "(I)I"⟩, 17), (⟨"MagnetPoemsModel", "readPoem", "()Z"⟩, 17), (⟨"MagnetPoemsModel", "readNumber", "()I"⟩, 17), (⟨"MagnetPoemsModel", "digitAt", "(I)I"⟩, 17), (⟨"MagnetPoemsModel", "canBegin", "(I)Z"⟩, 17), (⟨"MagnetPoemsModel", "hasStood", "(I)Z"⟩, 17), (⟨"MagnetPoemsModel", "draftSign", "(I)V"⟩, 17), (⟨"MagnetPoemsModel", "draftLine", "(I)V"⟩, 17), (⟨"MagnetPoemsModel", "inBag", "()I"⟩, 17), (⟨"MagnetPoemsModel", "wordProperty", "(II)I"⟩, 17), (⟨"MagnetPoemsModel", "wordOrNone", "(II)I"⟩, 17), (⟨"MagnetPoemsModel", "lineProperty", "(II)I"⟩, 17), (⟨"MagnetPoemsModel", "isMixed", "(I)Z"⟩, 17), (⟨"MagnetPoemsModel", "doorProperty", "(II)I"⟩, 17), (⟨"MagnetPoemsModel", "number", "(I)I"⟩, 17)]
theorem lw_r4 : ∀ q ∈ lw_privs_4, lw_okq q := List.forall_mem_cons.mpr ⟨lw_p48, List.forall_mem_cons.mpr ⟨lw_p49, List.forall_mem_cons.mpr ⟨lw_p50, List.forall_mem_cons.mpr ⟨lw_p51, List.forall_mem_cons.mpr ⟨lw_p52, List.forall_mem_cons.mpr ⟨lw_p53, List.forall_mem_cons.mpr ⟨lw_p54, List.forall_mem_cons.mpr ⟨lw_p55, List.forall_mem_cons.mpr ⟨lw_p56, List.forall_mem_cons.mpr ⟨lw_p57, List.forall_mem_cons.mpr ⟨lw_p58, List.forall_mem_cons.mpr ⟨lw_p59, List.forall_mem_cons.mpr ⟨lw_p60, List.forall_mem_cons.mpr ⟨lw_p61, List.forall_mem_cons.mpr ⟨lw_p62, List.forall_mem_cons.mpr ⟨lw_p63, fun _ h => absurd h List.not_mem_nil⟩⟩⟩⟩⟩⟩⟩⟩⟩⟩⟩⟩⟩⟩⟩⟩
theorem lw_p64 : lw_okq (⟨"MagnetPoemsModel", "stolenInAll", "()I"⟩, 17) := ⟨⟨by decide +kernel, by decide +kernel⟩, List.mem_of_getElem? (i := 784) (by decide +kernel), List.mem_of_getElem? (i := 1124) (by decide +kernel), List.mem_of_getElem? (i := 1125) (by decide +kernel)⟩
theorem lw_p65 : lw_okq (⟨"MagnetPoemsModel", "lentNow", "()I"⟩, 17) := ⟨⟨by decide +kernel, by decide +kernel⟩, List.mem_of_getElem? (i := 784) (by decide +kernel), List.mem_of_getElem? (i := 1128) (by decide +kernel), List.mem_of_getElem? (i := 1129) (by decide +kernel)⟩
theorem lw_p66 : lw_okq (⟨"MagnetPoemsModel", "allWorth", "()I"⟩, 17) := ⟨⟨by decide +kernel, by decide +kernel⟩, List.mem_of_getElem? (i := 784) (by decide +kernel), List.mem_of_getElem? (i := 1132) (by decide +kernel), List.mem_of_getElem? (i := 1133) (by decide +kernel)⟩
theorem lw_p67 : lw_okq (⟨"MagnetPoemsModel", "bestFor", "(I)I"⟩, 17) := ⟨⟨by decide +kernel, by decide +kernel⟩, List.mem_of_getElem? (i := 784) (by decide +kernel), List.mem_of_getElem? (i := 1148) (by decide +kernel), List.mem_of_getElem? (i := 1149) (by decide +kernel)⟩
theorem lw_p68 : lw_okq (⟨"MagnetPoemsModel", "worthWith", "(II)I"⟩, 17) := ⟨⟨by decide +kernel, by decide +kernel⟩, List.mem_of_getElem? (i := 784) (by decide +kernel), List.mem_of_getElem? (i := 1152) (by decide +kernel), List.mem_of_getElem? (i := 1153) (by decide +kernel)⟩
theorem lw_p69 : lw_okq (⟨"MagnetPoemsModel", "putAside", "()V"⟩, 17) := ⟨⟨by decide +kernel, by decide +kernel⟩, List.mem_of_getElem? (i := 784) (by decide +kernel), List.mem_of_getElem? (i := 1156) (by decide +kernel), List.mem_of_getElem? (i := 1157) (by decide +kernel)⟩
theorem lw_p70 : lw_okq (⟨"MagnetPoemsModel", "putBack", "()V"⟩, 17) := ⟨⟨by decide +kernel, by decide +kernel⟩, List.mem_of_getElem? (i := 784) (by decide +kernel), List.mem_of_getElem? (i := 1160) (by decide +kernel), List.mem_of_getElem? (i := 1161) (by decide +kernel)⟩
theorem lw_p71 : lw_okq (⟨"MagnetPoemsModel", "worthBehind", "(II)I"⟩, 17) := ⟨⟨by decide +kernel, by decide +kernel⟩, List.mem_of_getElem? (i := 784) (by decide +kernel), List.mem_of_getElem? (i := 1172) (by decide +kernel), List.mem_of_getElem? (i := 1173) (by decide +kernel)⟩
theorem lw_p72 : lw_okq (⟨"MagnetPoemsModel", "share", "()D"⟩, 17) := ⟨⟨by decide +kernel, by decide +kernel⟩, List.mem_of_getElem? (i := 784) (by decide +kernel), List.mem_of_getElem? (i := 1180) (by decide +kernel), List.mem_of_getElem? (i := 1181) (by decide +kernel)⟩
theorem lw_p73 : lw_okq (⟨"MagnetPoemsModel", "mix", "(J)V"⟩, 17) := ⟨⟨by decide +kernel, by decide +kernel⟩, List.mem_of_getElem? (i := 784) (by decide +kernel), List.mem_of_getElem? (i := 1190) (by decide +kernel), List.mem_of_getElem? (i := 1191) (by decide +kernel)⟩
theorem lw_p74 : lw_okq (⟨"MagnetPoemsModel", "mixDoor", "(I)V"⟩, 17) := ⟨⟨by decide +kernel, by decide +kernel⟩, List.mem_of_getElem? (i := 784) (by decide +kernel), List.mem_of_getElem? (i := 1195) (by decide +kernel), List.mem_of_getElem? (i := 1196) (by decide +kernel)⟩
theorem lw_p75 : lw_okq (⟨"MagnetPoemsModel", "mixLine", "(I)V"⟩, 17) := ⟨⟨by decide +kernel, by decide +kernel⟩, List.mem_of_getElem? (i := 784) (by decide +kernel), List.mem_of_getElem? (i := 1199) (by decide +kernel), List.mem_of_getElem? (i := 1200) (by decide +kernel)⟩
def lw_privs_5 : List (MethodName × Nat) := [(⟨"MagnetPoemsModel", "stolenInAll", "()I"⟩, 17), (⟨"MagnetPoemsModel", "lentNow", "()I"⟩, 17), (⟨"MagnetPoemsModel", "allWorth", "()I"⟩, 17), (⟨"MagnetPoemsModel", "bestFor", "(I)I"⟩, 17), (⟨"MagnetPoemsModel", "worthWith", "(II)I"⟩, 17), (⟨"MagnetPoemsModel", "putAside", "()V"⟩, 17), (⟨"MagnetPoemsModel", "putBack", "()V"⟩, 17), (⟨"MagnetPoemsModel", "worthBehind", "(II)I"⟩, 17), (⟨"MagnetPoemsModel", "share", "()D"⟩, 17), (⟨"MagnetPoemsModel", "mix", "(J)V"⟩, 17), (⟨"MagnetPoemsModel", "mixDoor", "(I)V"⟩, 17), (⟨"MagnetPoemsModel", "mixLine", "(I)V"⟩, 17)]
theorem lw_r5 : ∀ q ∈ lw_privs_5, lw_okq q := List.forall_mem_cons.mpr ⟨lw_p64, List.forall_mem_cons.mpr ⟨lw_p65, List.forall_mem_cons.mpr ⟨lw_p66, List.forall_mem_cons.mpr ⟨lw_p67, List.forall_mem_cons.mpr ⟨lw_p68, List.forall_mem_cons.mpr ⟨lw_p69, List.forall_mem_cons.mpr ⟨lw_p70, List.forall_mem_cons.mpr ⟨lw_p71, List.forall_mem_cons.mpr ⟨lw_p72, List.forall_mem_cons.mpr ⟨lw_p73, List.forall_mem_cons.mpr ⟨lw_p74, List.forall_mem_cons.mpr ⟨lw_p75, fun _ h => absurd h List.not_mem_nil⟩⟩⟩⟩⟩⟩⟩⟩⟩⟩⟩⟩
def lw_privs : List (MethodName × Nat) := lw_privs_1 ++ (lw_privs_2 ++ (lw_privs_3 ++ (lw_privs_4 ++ (lw_privs_5))))
def lw_tbl : List Cond := k2_sels lw_privs ++ tables_1
theorem lw_privs_ok : ∀ q ∈ lw_privs, lw_okq q := by
  show ∀ q ∈ lw_privs_1 ++ (lw_privs_2 ++ (lw_privs_3 ++ (lw_privs_4 ++ (lw_privs_5)))), lw_okq q
  exact List.forall_mem_append.mpr ⟨lw_r1, List.forall_mem_append.mpr ⟨lw_r2, List.forall_mem_append.mpr ⟨lw_r3, List.forall_mem_append.mpr ⟨lw_r4, lw_r5⟩⟩⟩⟩
/-- the streams that the claim lets the run draw from -/
abbrev lw_cs : List Choice := [Jvm.Choice.named "NaN.bits"]
theorem lw_bits : nanBits ∈ lw_cs := by first | decide | exact List.mem_cons_self | simp [lw_cs, nanBits]
-- ===== end of PART A; then your names; then what follows =====
def RX0 : String := "MagnetPoems$Board"
def TX0 : u_T := fun k => match k with
  | 0 => ("MagnetPoems$Board", "homes", "[I", true)
  | 1 => ("MagnetPoems$Board", "words", "[I", true)
  | 2 => ("MagnetPoems$Board", "sizes", "[I", true)
  | 3 => ("MagnetPoems$Board", "lenders", "[I", true)
  | 4 => ("MagnetPoems$Board", "borrowers", "[I", true)
  | 5 => ("MagnetPoems$Board", "thefts", "[I", true)
  | 6 => ("MagnetPoems$Board", "watches", "[I", true)
  | 7 => ("MagnetPoems$Board", "losses", "[I", true)
  | 8 => ("MagnetPoems$Board", "settings", "[I", true)
  | 9 => ("MagnetPoems$Board", "nights", "I", false)
  | 10 => ("MagnetPoems$Board", "stolen", "I", false)
  | 11 => ("MagnetPoems$Board", "shown", "I", false)
  | _ => ("MagnetPoems$Board", "refused", "I", false)
def tyX0 : Nat → FieldType := fun k => match k with
  | 0 => .array .int
  | 1 => .array .int
  | 2 => .array .int
  | 3 => .array .int
  | 4 => .array .int
  | 5 => .array .int
  | 6 => .array .int
  | 7 => .array .int
  | 8 => .array .int
  | 9 => .int
  | 10 => .int
  | 11 => .int
  | _ => .int
abbrev wsX00 : List Cond := u_ws RX0 TX0 13
theorem nmX0 : ∀ a, a < 13 → ∀ b, b < 13 → a ≠ b → (TX0 a).2.1 ≠ (TX0 b).2.1 := by decide +kernel
theorem tyX0_ok : ∀ k, k < 13 → parseFieldDescriptor (TX0 k).2.2.1 = some (tyX0 k) := by decide +kernel
abbrev cX0_init : ByteArray := prog_2_method_1_code
def yX0_init : MethodName := ⟨RX0, "<init>", "()V"⟩
abbrev cX0_copyFrom : ByteArray := prog_2_method_2_code
def yX0_copyFrom : MethodName := ⟨RX0, "copyFrom", "(LMagnetPoems$Board;)V"⟩
abbrev cX0_homeOf : ByteArray := prog_2_method_3_code
def yX0_homeOf : MethodName := ⟨RX0, "homeOf", "(I)I"⟩
abbrev cX0_isInBag : ByteArray := prog_2_method_4_code
def yX0_isInBag : MethodName := ⟨RX0, "isInBag", "(I)Z"⟩
abbrev cX0_sizeOf : ByteArray := prog_2_method_5_code
def yX0_sizeOf : MethodName := ⟨RX0, "sizeOf", "(I)I"⟩
abbrev cX0_wordAt : ByteArray := prog_2_method_6_code
def yX0_wordAt : MethodName := ⟨RX0, "wordAt", "(II)I"⟩
abbrev cX0_setWordAt : ByteArray := prog_2_method_7_code
def yX0_setWordAt : MethodName := ⟨RX0, "setWordAt", "(III)V"⟩
abbrev cX0_placeOf : ByteArray := prog_2_method_8_code
def yX0_placeOf : MethodName := ⟨RX0, "placeOf", "(I)I"⟩
abbrev cX0_bagToldByWords : ByteArray := prog_2_method_9_code
def yX0_bagToldByWords : MethodName := ⟨RX0, "bagToldByWords", "()I"⟩
abbrev cX0_bagToldByLines : ByteArray := prog_2_method_10_code
def yX0_bagToldByLines : MethodName := ⟨RX0, "bagToldByLines", "()I"⟩
abbrev cX0_wordsOfDoor : ByteArray := prog_2_method_11_code
def yX0_wordsOfDoor : MethodName := ⟨RX0, "wordsOfDoor", "(I)I"⟩
abbrev cX0_insertWord : ByteArray := prog_2_method_12_code
def yX0_insertWord : MethodName := ⟨RX0, "insertWord", "(III)V"⟩
abbrev cX0_removeWord : ByteArray := prog_2_method_13_code
def yX0_removeWord : MethodName := ⟨RX0, "removeWord", "(I)V"⟩
abbrev cX0_emptyDoor : ByteArray := prog_2_method_14_code
def yX0_emptyDoor : MethodName := ⟨RX0, "emptyDoor", "(I)I"⟩
abbrev cX0_refusal : ByteArray := prog_2_method_15_code
def yX0_refusal : MethodName := ⟨RX0, "refusal", "(III)I"⟩
abbrev cX0_wouldClash : ByteArray := prog_2_method_16_code
def yX0_wouldClash : MethodName := ⟨RX0, "wouldClash", "(III)Z"⟩
abbrev cX0_clashes : ByteArray := prog_2_method_17_code
def yX0_clashes : MethodName := ⟨RX0, "clashes", "(I)Z"⟩
abbrev cX0_beatsOn : ByteArray := prog_2_method_18_code
def yX0_beatsOn : MethodName := ⟨RX0, "beatsOn", "(I)I"⟩
abbrev cX0_worthOfLine : ByteArray := prog_2_method_19_code
def yX0_worthOfLine : MethodName := ⟨RX0, "worthOfLine", "(II)I"⟩
abbrev cX0_endingOn : ByteArray := prog_2_method_20_code
def yX0_endingOn : MethodName := ⟨RX0, "endingOn", "(I)I"⟩
abbrev cX0_rhymesOf : ByteArray := prog_2_method_21_code
def yX0_rhymesOf : MethodName := ⟨RX0, "rhymesOf", "(II)I"⟩
abbrev cX0_rhymesOfDoor : ByteArray := prog_2_method_22_code
def yX0_rhymesOfDoor : MethodName := ⟨RX0, "rhymesOfDoor", "(I)I"⟩
abbrev cX0_worthOfDoor : ByteArray := prog_2_method_23_code
def yX0_worthOfDoor : MethodName := ⟨RX0, "worthOfDoor", "(I)I"⟩
abbrev cX0_worthOfAll : ByteArray := prog_2_method_24_code
def yX0_worthOfAll : MethodName := ⟨RX0, "worthOfAll", "()I"⟩
abbrev cX0_bestWordFor : ByteArray := prog_2_method_25_code
def yX0_bestWordFor : MethodName := ⟨RX0, "bestWordFor", "(I)I"⟩
abbrev cX0_borrows : ByteArray := prog_2_method_26_code
def yX0_borrows : MethodName := ⟨RX0, "borrows", "(I)Z"⟩
abbrev cX0_isFreeForLoan : ByteArray := prog_2_method_27_code
def yX0_isFreeForLoan : MethodName := ⟨RX0, "isFreeForLoan", "(I)Z"⟩
abbrev cX0_loans : ByteArray := prog_2_method_28_code
def yX0_loans : MethodName := ⟨RX0, "loans", "()I"⟩
abbrev cX0_startLoan : ByteArray := prog_2_method_29_code
def yX0_startLoan : MethodName := ⟨RX0, "startLoan", "(II)V"⟩
abbrev cX0_endLoan : ByteArray := prog_2_method_30_code
def yX0_endLoan : MethodName := ⟨RX0, "endLoan", "(I)V"⟩
abbrev cX0_endLoansOf : ByteArray := prog_2_method_31_code
def yX0_endLoansOf : MethodName := ⟨RX0, "endLoansOf", "(IZ)V"⟩
abbrev cX0_passNights : ByteArray := prog_2_method_32_code
def yX0_passNights : MethodName := ⟨RX0, "passNights", "(I)I"⟩
abbrev cX0_nextPrey : ByteArray := prog_2_method_33_code
def yX0_nextPrey : MethodName := ⟨RX0, "nextPrey", "()I"⟩
abbrev cX0_doorOfThief : ByteArray := prog_2_method_34_code
def yX0_doorOfThief : MethodName := ⟨RX0, "doorOfThief", "()I"⟩
abbrev cX0_preyOn : ByteArray := prog_2_method_35_code
def yX0_preyOn : MethodName := ⟨RX0, "preyOn", "(I)I"⟩
abbrev cX0_watchOneNightFewer : ByteArray := prog_2_method_36_code
def yX0_watchOneNightFewer : MethodName := ⟨RX0, "watchOneNightFewer", "()V"⟩
abbrev cX0_steal : ByteArray := prog_2_method_37_code
def yX0_steal : MethodName := ⟨RX0, "steal", "(II)V"⟩
abbrev cX0_settingValue : ByteArray := prog_2_method_38_code
def yX0_settingValue : MethodName := ⟨RX0, "settingValue", "(I)I"⟩
abbrev cX0_changeSetting : ByteArray := prog_2_method_39_code
def yX0_changeSetting : MethodName := ⟨RX0, "changeSetting", "(II)V"⟩
abbrev cX0_wordProperty : ByteArray := prog_2_method_40_code
def yX0_wordProperty : MethodName := ⟨RX0, "wordProperty", "(II)I"⟩
abbrev cX0_lineProperty : ByteArray := prog_2_method_41_code
def yX0_lineProperty : MethodName := ⟨RX0, "lineProperty", "(II)I"⟩
abbrev cX0_doorProperty : ByteArray := prog_2_method_42_code
def yX0_doorProperty : MethodName := ⟨RX0, "doorProperty", "(II)I"⟩
def RX1 : String := "MagnetPoems$History"
def TX1 : u_T := fun k => match k with
  | 0 => ("MagnetPoems$History", "states", "[LMagnetPoems$Board;", true)
  | 1 => ("MagnetPoems$History", "oldest", "I", false)
  | _ => ("MagnetPoems$History", "size", "I", false)
def tyX1 : Nat → FieldType := fun k => match k with
  | 0 => .array (.object "MagnetPoems$Board")
  | 1 => .int
  | _ => .int
abbrev wsX10 : List Cond := u_ws RX1 TX1 3
theorem nmX1 : ∀ a, a < 3 → ∀ b, b < 3 → a ≠ b → (TX1 a).2.1 ≠ (TX1 b).2.1 := by decide +kernel
theorem tyX1_ok : ∀ k, k < 3 → parseFieldDescriptor (TX1 k).2.2.1 = some (tyX1 k) := by decide +kernel
abbrev cX1_init : ByteArray := prog_3_method_1_code
def yX1_init : MethodName := ⟨RX1, "<init>", "()V"⟩
abbrev cX1_save : ByteArray := prog_3_method_2_code
def yX1_save : MethodName := ⟨RX1, "save", "(LMagnetPoems$Board;)V"⟩
abbrev cX1_restore : ByteArray := prog_3_method_3_code
def yX1_restore : MethodName := ⟨RX1, "restore", "(LMagnetPoems$Board;)V"⟩
abbrev cX1_stateAt : ByteArray := prog_3_method_4_code
def yX1_stateAt : MethodName := ⟨RX1, "stateAt", "(I)LMagnetPoems$Board;"⟩
def RX2 : String := "MagnetPoems$PoemReader"
def TX2 : u_T := fun k => match k with
  | 0 => ("MagnetPoems$PoemReader", "told", "[Z", true)
  | 1 => ("MagnetPoems$PoemReader", "words", "[I", true)
  | 2 => ("MagnetPoems$PoemReader", "lines", "[I", true)
  | 3 => ("MagnetPoems$PoemReader", "found", "I", false)
  | 4 => ("MagnetPoems$PoemReader", "line", "I", false)
  | 5 => ("MagnetPoems$PoemReader", "wordsOnLine", "I", false)
  | _ => ("MagnetPoems$PoemReader", "number", "I", false)
def tyX2 : Nat → FieldType := fun k => match k with
  | 0 => .array .boolean
  | 1 => .array .int
  | 2 => .array .int
  | 3 => .int
  | 4 => .int
  | 5 => .int
  | _ => .int
abbrev wsX20 : List Cond := u_ws RX2 TX2 7
theorem nmX2 : ∀ a, a < 7 → ∀ b, b < 7 → a ≠ b → (TX2 a).2.1 ≠ (TX2 b).2.1 := by decide +kernel
theorem tyX2_ok : ∀ k, k < 7 → parseFieldDescriptor (TX2 k).2.2.1 = some (tyX2 k) := by decide +kernel
abbrev cX2_init : ByteArray := prog_4_method_1_code
def yX2_init : MethodName := ⟨RX2, "<init>", "()V"⟩
abbrev cX2_restart : ByteArray := prog_4_method_2_code
def yX2_restart : MethodName := ⟨RX2, "restart", "()V"⟩
abbrev cX2_wordTold : ByteArray := prog_4_method_3_code
def yX2_wordTold : MethodName := ⟨RX2, "wordTold", "(I)I"⟩
abbrev cX2_lineTold : ByteArray := prog_4_method_4_code
def yX2_lineTold : MethodName := ⟨RX2, "lineTold", "(I)I"⟩
abbrev cX2_takes : ByteArray := prog_4_method_5_code
def yX2_takes : MethodName := ⟨RX2, "takes", "(I)Z"⟩
abbrev cX2_closesNumber : ByteArray := prog_4_method_6_code
def yX2_closesNumber : MethodName := ⟨RX2, "closesNumber", "()Z"⟩
abbrev cX2_takesDigit : ByteArray := prog_4_method_7_code
def yX2_takesDigit : MethodName := ⟨RX2, "takesDigit", "(I)Z"⟩
abbrev cX2_canBegin : ByteArray := prog_4_method_8_code
def yX2_canBegin : MethodName := ⟨RX2, "canBegin", "(I)Z"⟩
abbrev cX2_isFree : ByteArray := prog_4_method_9_code
def yX2_isFree : MethodName := ⟨RX2, "isFree", "(I)Z"⟩
abbrev cX2_setTold : ByteArray := prog_4_method_10_code
def yX2_setTold : MethodName := ⟨RX2, "setTold", "(I)V"⟩
def RX3 : String := "MagnetPoems"
def TX3 : u_T := fun k => match k with
  | 0 => ("MagnetPoems", "board", "LMagnetPoems$Board;", true)
  | 1 => ("MagnetPoems", "dream", "LMagnetPoems$Board;", true)
  | 2 => ("MagnetPoems", "history", "LMagnetPoems$History;", true)
  | 3 => ("MagnetPoems", "slots", "[LMagnetPoems$Board;", true)
  | 4 => ("MagnetPoems", "kept", "[Z", true)
  | 5 => ("MagnetPoems", "buffer", "[I", true)
  | 6 => ("MagnetPoems", "bufferLength", "I", false)
  | _ => ("MagnetPoems", "reader", "LMagnetPoems$PoemReader;", true)
def tyX3 : Nat → FieldType := fun k => match k with
  | 0 => .object "MagnetPoems$Board"
  | 1 => .object "MagnetPoems$Board"
  | 2 => .object "MagnetPoems$History"
  | 3 => .array (.object "MagnetPoems$Board")
  | 4 => .array .boolean
  | 5 => .array .int
  | 6 => .int
  | _ => .object "MagnetPoems$PoemReader"
abbrev wsX30 : List Cond := u_ws RX3 TX3 8
theorem nmX3 : ∀ a, a < 8 → ∀ b, b < 8 → a ≠ b → (TX3 a).2.1 ≠ (TX3 b).2.1 := by decide +kernel
theorem tyX3_ok : ∀ k, k < 8 → parseFieldDescriptor (TX3 k).2.2.1 = some (tyX3 k) := by decide +kernel
abbrev cX3_init : ByteArray := prog_1_method_1_code
def yX3_init : MethodName := ⟨RX3, "<init>", "()V"⟩
abbrev cX3_put : ByteArray := prog_1_method_2_code
def yX3_put : MethodName := ⟨RX3, "put", "(IIII)I"⟩
abbrev cX3_takeOff : ByteArray := prog_1_method_3_code
def yX3_takeOff : MethodName := ⟨RX3, "takeOff", "(I)I"⟩
abbrev cX3_move : ByteArray := prog_1_method_4_code
def yX3_move : MethodName := ⟨RX3, "move", "(III)I"⟩
abbrev cX3_clearDoor : ByteArray := prog_1_method_5_code
def yX3_clearDoor : MethodName := ⟨RX3, "clearDoor", "(I)I"⟩
abbrev cX3_borrow : ByteArray := prog_1_method_6_code
def yX3_borrow : MethodName := ⟨RX3, "borrow", "(IIII)I"⟩
abbrev cX3_bringBack : ByteArray := prog_1_method_7_code
def yX3_bringBack : MethodName := ⟨RX3, "bringBack", "(II)I"⟩
abbrev cX3_sleep : ByteArray := prog_1_method_8_code
def yX3_sleep : MethodName := ⟨RX3, "sleep", "(I)I"⟩
abbrev cX3_set : ByteArray := prog_1_method_9_code
def yX3_set : MethodName := ⟨RX3, "set", "(II)I"⟩
abbrev cX3_append : ByteArray := prog_1_method_10_code
def yX3_append : MethodName := ⟨RX3, "append", "(I)I"⟩
abbrev cX3_clearBuffer : ByteArray := prog_1_method_11_code
def yX3_clearBuffer : MethodName := ⟨RX3, "clearBuffer", "()I"⟩
abbrev cX3_firstError : ByteArray := prog_1_method_12_code
def yX3_firstError : MethodName := ⟨RX3, "firstError", "()I"⟩
abbrev cX3_load : ByteArray := prog_1_method_13_code
def yX3_load : MethodName := ⟨RX3, "load", "(I)I"⟩
abbrev cX3_write : ByteArray := prog_1_method_14_code
def yX3_write : MethodName := ⟨RX3, "write", "(I)I"⟩
abbrev cX3_keep : ByteArray := prog_1_method_15_code
def yX3_keep : MethodName := ⟨RX3, "keep", "(I)I"⟩
abbrev cX3_goBack : ByteArray := prog_1_method_16_code
def yX3_goBack : MethodName := ⟨RX3, "goBack", "(I)I"⟩
abbrev cX3_undo : ByteArray := prog_1_method_17_code
def yX3_undo : MethodName := ⟨RX3, "undo", "()I"⟩
abbrev cX3_wordOf : ByteArray := prog_1_method_18_code
def yX3_wordOf : MethodName := ⟨RX3, "wordOf", "(II)I"⟩
abbrev cX3_at : ByteArray := prog_1_method_19_code
def yX3_at : MethodName := ⟨RX3, "at", "(III)I"⟩
abbrev cX3_lineOf : ByteArray := prog_1_method_20_code
def yX3_lineOf : MethodName := ⟨RX3, "lineOf", "(III)I"⟩
abbrev cX3_doorOf : ByteArray := prog_1_method_21_code
def yX3_doorOf : MethodName := ⟨RX3, "doorOf", "(II)I"⟩
abbrev cX3_count : ByteArray := prog_1_method_22_code
def yX3_count : MethodName := ⟨RX3, "count", "(I)I"⟩
abbrev cX3_setting : ByteArray := prog_1_method_23_code
def yX3_setting : MethodName := ⟨RX3, "setting", "(I)I"⟩
abbrev cX3_whyNot : ByteArray := prog_1_method_24_code
def yX3_whyNot : MethodName := ⟨RX3, "whyNot", "(IIII)I"⟩
abbrev cX3_bestWord : ByteArray := prog_1_method_25_code
def yX3_bestWord : MethodName := ⟨RX3, "bestWord", "(II)I"⟩
abbrev cX3_prey : ByteArray := prog_1_method_26_code
def yX3_prey : MethodName := ⟨RX3, "prey", "()I"⟩
abbrev cX3_ifSlept : ByteArray := prog_1_method_27_code
def yX3_ifSlept : MethodName := ⟨RX3, "ifSlept", "(II)I"⟩
abbrev cX3_shownShare : ByteArray := prog_1_method_28_code
def yX3_shownShare : MethodName := ⟨RX3, "shownShare", "()D"⟩
abbrev cX3_digest : ByteArray := prog_1_method_29_code
def yX3_digest : MethodName := ⟨RX3, "digest", "()J"⟩
abbrev cX3_mix : ByteArray := prog_1_method_30_code
def yX3_mix : MethodName := ⟨RX3, "mix", "(JJ)J"⟩
abbrev cX3_mixDoor : ByteArray := prog_1_method_31_code
def yX3_mixDoor : MethodName := ⟨RX3, "mixDoor", "(JI)J"⟩
abbrev cX3_bitsOf : ByteArray := prog_1_method_32_code
def yX3_bitsOf : MethodName := ⟨RX3, "bitsOf", "(D)J"⟩
abbrev cX3_share : ByteArray := prog_1_method_33_code
def yX3_share : MethodName := ⟨RX3, "share", "()D"⟩
abbrev cX3_numberOf : ByteArray := prog_1_method_34_code
def yX3_numberOf : MethodName := ⟨RX3, "numberOf", "(I)I"⟩
abbrev cX3_addCode : ByteArray := prog_1_method_35_code
def yX3_addCode : MethodName := ⟨RX3, "addCode", "(I)V"⟩
abbrev cX3_readBuffer : ByteArray := prog_1_method_36_code
def yX3_readBuffer : MethodName := ⟨RX3, "readBuffer", "()I"⟩
abbrev cX3_putPoem : ByteArray := prog_1_method_37_code
def yX3_putPoem : MethodName := ⟨RX3, "putPoem", "(I)I"⟩
abbrev cX3_textLength : ByteArray := prog_1_method_38_code
def yX3_textLength : MethodName := ⟨RX3, "textLength", "(I)I"⟩
abbrev cX3_addLine : ByteArray := prog_1_method_39_code
def yX3_addLine : MethodName := ⟨RX3, "addLine", "(I)V"⟩
abbrev cX3_addNumber : ByteArray := prog_1_method_40_code
def yX3_addNumber : MethodName := ⟨RX3, "addNumber", "(I)V"⟩
abbrev cX3_isWord : ByteArray := prog_1_method_41_code
def yX3_isWord : MethodName := ⟨RX3, "isWord", "(I)Z"⟩
abbrev cX3_isDoor : ByteArray := prog_1_method_42_code
def yX3_isDoor : MethodName := ⟨RX3, "isDoor", "(I)Z"⟩
abbrev cX3_isLine : ByteArray := prog_1_method_43_code
def yX3_isLine : MethodName := ⟨RX3, "isLine", "(II)Z"⟩
abbrev cX3_isPlaceToPut : ByteArray := prog_1_method_44_code
def yX3_isPlaceToPut : MethodName := ⟨RX3, "isPlaceToPut", "(III)Z"⟩
abbrev cX3_isNights : ByteArray := prog_1_method_45_code
def yX3_isNights : MethodName := ⟨RX3, "isNights", "(I)Z"⟩
abbrev cX3_isSetting : ByteArray := prog_1_method_46_code
def yX3_isSetting : MethodName := ⟨RX3, "isSetting", "(I)Z"⟩
abbrev cX3_isSlot : ByteArray := prog_1_method_47_code
def yX3_isSlot : MethodName := ⟨RX3, "isSlot", "(I)Z"⟩
abbrev cX3_greatestOf : ByteArray := prog_1_method_48_code
def yX3_greatestOf : MethodName := ⟨RX3, "greatestOf", "(I)I"⟩
abbrev cX3_kindOf : ByteArray := prog_1_method_49_code
def yX3_kindOf : MethodName := ⟨RX3, "kindOf", "(I)I"⟩
abbrev cX3_endingOf : ByteArray := prog_1_method_50_code
def yX3_endingOf : MethodName := ⟨RX3, "endingOf", "(I)I"⟩
abbrev cX3_beatsOf : ByteArray := prog_1_method_51_code
def yX3_beatsOf : MethodName := ⟨RX3, "beatsOf", "(I)I"⟩
abbrev cX3_clash : ByteArray := prog_1_method_52_code
def yX3_clash : MethodName := ⟨RX3, "clash", "(II)Z"⟩
abbrev cX3_lineNumber : ByteArray := prog_1_method_53_code
def yX3_lineNumber : MethodName := ⟨RX3, "lineNumber", "(II)I"⟩
abbrev cX3_lineCode : ByteArray := prog_1_method_54_code
def yX3_lineCode : MethodName := ⟨RX3, "lineCode", "(I)I"⟩
abbrev cX3_cell : ByteArray := prog_1_method_55_code
def yX3_cell : MethodName := ⟨RX3, "cell", "([II)I"⟩
abbrev cX3_setCell : ByteArray := prog_1_method_56_code
def yX3_setCell : MethodName := ⟨RX3, "setCell", "([III)V"⟩
abbrev cX3_copyRow : ByteArray := prog_1_method_57_code
def yX3_copyRow : MethodName := ⟨RX3, "copyRow", "([I[I)V"⟩
abbrev cX3_fillRow : ByteArray := prog_1_method_58_code
def yX3_fillRow : MethodName := ⟨RX3, "fillRow", "([II)V"⟩
def RX4 : String := "MagnetPoemsModel"
def TX4 : u_T := fun k => match k with
  | 0 => ("MagnetPoemsModel", "row", "[I", true)
  | 1 => ("MagnetPoemsModel", "saved", "[I", true)
  | 2 => ("MagnetPoemsModel", "savedMany", "I", false)
  | 3 => ("MagnetPoemsModel", "slots", "[I", true)
  | 4 => ("MagnetPoemsModel", "filled", "[Z", true)
  | 5 => ("MagnetPoemsModel", "aside", "[I", true)
  | 6 => ("MagnetPoemsModel", "buffer", "[I", true)
  | 7 => ("MagnetPoemsModel", "length", "I", false)
  | 8 => ("MagnetPoemsModel", "thrown", "I", false)
  | 9 => ("MagnetPoemsModel", "spot", "I", false)
  | 10 => ("MagnetPoemsModel", "stood", "J", false)
  | 11 => ("MagnetPoemsModel", "poemMany", "I", false)
  | 12 => ("MagnetPoemsModel", "poemWord", "[I", true)
  | 13 => ("MagnetPoemsModel", "poemLine", "[I", true)
  | 14 => ("MagnetPoemsModel", "draft", "[I", true)
  | 15 => ("MagnetPoemsModel", "drafted", "I", false)
  | _ => ("MagnetPoemsModel", "hash", "J", false)
def tyX4 : Nat → FieldType := fun k => match k with
  | 0 => .array .int
  | 1 => .array .int
  | 2 => .int
  | 3 => .array .int
  | 4 => .array .boolean
  | 5 => .array .int
  | 6 => .array .int
  | 7 => .int
  | 8 => .int
  | 9 => .int
  | 10 => .long
  | 11 => .int
  | 12 => .array .int
  | 13 => .array .int
  | 14 => .array .int
  | 15 => .int
  | _ => .long
abbrev wsX40 : List Cond := u_ws RX4 TX4 17
theorem nmX4 : ∀ a, a < 17 → ∀ b, b < 17 → a ≠ b → (TX4 a).2.1 ≠ (TX4 b).2.1 := by decide +kernel
theorem tyX4_ok : ∀ k, k < 17 → parseFieldDescriptor (TX4 k).2.2.1 = some (tyX4 k) := by decide +kernel
abbrev cX4_init : ByteArray := prog_6_method_1_code
def yX4_init : MethodName := ⟨RX4, "<init>", "()V"⟩
abbrev cX4_thrown : ByteArray := prog_6_method_2_code
def yX4_thrown : MethodName := ⟨RX4, "thrown", "()I"⟩
abbrev cX4_fails : ByteArray := prog_6_method_3_code
def yX4_fails : MethodName := ⟨RX4, "fails", "(I)I"⟩
abbrev cX4_in : ByteArray := prog_6_method_4_code
def yX4_in : MethodName := ⟨RX4, "in", "(III)Z"⟩
abbrev cX4_isWord : ByteArray := prog_6_method_5_code
def yX4_isWord : MethodName := ⟨RX4, "isWord", "(I)Z"⟩
abbrev cX4_isDoor : ByteArray := prog_6_method_6_code
def yX4_isDoor : MethodName := ⟨RX4, "isDoor", "(I)Z"⟩
abbrev cX4_isLine : ByteArray := prog_6_method_7_code
def yX4_isLine : MethodName := ⟨RX4, "isLine", "(II)Z"⟩
abbrev cX4_save : ByteArray := prog_6_method_8_code
def yX4_save : MethodName := ⟨RX4, "save", "()V"⟩
abbrev cX4_putAside : ByteArray := prog_6_method_9_code
def yX4_putAside : MethodName := ⟨RX4, "putAside", "()V"⟩
abbrev cX4_putBack : ByteArray := prog_6_method_10_code
def yX4_putBack : MethodName := ⟨RX4, "putBack", "()V"⟩
abbrev cX4_kindOf : ByteArray := prog_6_method_11_code
def yX4_kindOf : MethodName := ⟨RX4, "kindOf", "(I)I"⟩
abbrev cX4_endingOf : ByteArray := prog_6_method_12_code
def yX4_endingOf : MethodName := ⟨RX4, "endingOf", "(I)I"⟩
abbrev cX4_beatsOf : ByteArray := prog_6_method_13_code
def yX4_beatsOf : MethodName := ⟨RX4, "beatsOf", "(I)I"⟩
abbrev cX4_wordAt : ByteArray := prog_6_method_14_code
def yX4_wordAt : MethodName := ⟨RX4, "wordAt", "(II)I"⟩
abbrev cX4_lastOf : ByteArray := prog_6_method_15_code
def yX4_lastOf : MethodName := ⟨RX4, "lastOf", "(I)I"⟩
abbrev cX4_lineOfWord : ByteArray := prog_6_method_16_code
def yX4_lineOfWord : MethodName := ⟨RX4, "lineOfWord", "(I)I"⟩
abbrev cX4_placeOfWord : ByteArray := prog_6_method_17_code
def yX4_placeOfWord : MethodName := ⟨RX4, "placeOfWord", "(I)I"⟩
abbrev cX4_inBag : ByteArray := prog_6_method_18_code
def yX4_inBag : MethodName := ⟨RX4, "inBag", "()I"⟩
abbrev cX4_endLoans : ByteArray := prog_6_method_19_code
def yX4_endLoans : MethodName := ⟨RX4, "endLoans", "(II)V"⟩
abbrev cX4_insert : ByteArray := prog_6_method_20_code
def yX4_insert : MethodName := ⟨RX4, "insert", "(III)V"⟩
abbrev cX4_removeAt : ByteArray := prog_6_method_21_code
def yX4_removeAt : MethodName := ⟨RX4, "removeAt", "(II)V"⟩
abbrev cX4_emptyDoor : ByteArray := prog_6_method_22_code
def yX4_emptyDoor : MethodName := ⟨RX4, "emptyDoor", "(I)I"⟩
abbrev cX4_beatsOn : ByteArray := prog_6_method_23_code
def yX4_beatsOn : MethodName := ⟨RX4, "beatsOn", "(I)I"⟩
abbrev cX4_wordWith : ByteArray := prog_6_method_24_code
def yX4_wordWith : MethodName := ⟨RX4, "wordWith", "(IIII)I"⟩
abbrev cX4_clash : ByteArray := prog_6_method_25_code
def yX4_clash : MethodName := ⟨RX4, "clash", "(II)Z"⟩
abbrev cX4_reason : ByteArray := prog_6_method_26_code
def yX4_reason : MethodName := ⟨RX4, "reason", "(III)I"⟩
abbrev cX4_hasKind : ByteArray := prog_6_method_27_code
def yX4_hasKind : MethodName := ⟨RX4, "hasKind", "(II)Z"⟩
abbrev cX4_lineWorth : ByteArray := prog_6_method_28_code
def yX4_lineWorth : MethodName := ⟨RX4, "lineWorth", "(I)I"⟩
abbrev cX4_lineEnding : ByteArray := prog_6_method_29_code
def yX4_lineEnding : MethodName := ⟨RX4, "lineEnding", "(I)I"⟩
abbrev cX4_rhymes : ByteArray := prog_6_method_30_code
def yX4_rhymes : MethodName := ⟨RX4, "rhymes", "(I)I"⟩
abbrev cX4_pairs : ByteArray := prog_6_method_31_code
def yX4_pairs : MethodName := ⟨RX4, "pairs", "(I)I"⟩
abbrev cX4_doorWorth : ByteArray := prog_6_method_32_code
def yX4_doorWorth : MethodName := ⟨RX4, "doorWorth", "(I)I"⟩
abbrev cX4_doorWords : ByteArray := prog_6_method_33_code
def yX4_doorWords : MethodName := ⟨RX4, "doorWords", "(I)I"⟩
abbrev cX4_borrowerOf : ByteArray := prog_6_method_34_code
def yX4_borrowerOf : MethodName := ⟨RX4, "borrowerOf", "(I)I"⟩
abbrev cX4_target : ByteArray := prog_6_method_35_code
def yX4_target : MethodName := ⟨RX4, "target", "()I"⟩
abbrev cX4_preyOn : ByteArray := prog_6_method_36_code
def yX4_preyOn : MethodName := ⟨RX4, "preyOn", "(I)I"⟩
abbrev cX4_preyNow : ByteArray := prog_6_method_37_code
def yX4_preyNow : MethodName := ⟨RX4, "preyNow", "()I"⟩
abbrev cX4_night : ByteArray := prog_6_method_38_code
def yX4_night : MethodName := ⟨RX4, "night", "()I"⟩
abbrev cX4_nights : ByteArray := prog_6_method_39_code
def yX4_nights : MethodName := ⟨RX4, "nights", "(I)I"⟩
abbrev cX4_put : ByteArray := prog_6_method_40_code
def yX4_put : MethodName := ⟨RX4, "put", "(IIII)I"⟩
abbrev cX4_takeOff : ByteArray := prog_6_method_41_code
def yX4_takeOff : MethodName := ⟨RX4, "takeOff", "(I)I"⟩
abbrev cX4_move : ByteArray := prog_6_method_42_code
def yX4_move : MethodName := ⟨RX4, "move", "(III)I"⟩
abbrev cX4_clearDoor : ByteArray := prog_6_method_43_code
def yX4_clearDoor : MethodName := ⟨RX4, "clearDoor", "(I)I"⟩
abbrev cX4_canLend : ByteArray := prog_6_method_44_code
def yX4_canLend : MethodName := ⟨RX4, "canLend", "(I)Z"⟩
abbrev cX4_borrow : ByteArray := prog_6_method_45_code
def yX4_borrow : MethodName := ⟨RX4, "borrow", "(IIII)I"⟩
abbrev cX4_bringBack : ByteArray := prog_6_method_46_code
def yX4_bringBack : MethodName := ⟨RX4, "bringBack", "(II)I"⟩
abbrev cX4_sleep : ByteArray := prog_6_method_47_code
def yX4_sleep : MethodName := ⟨RX4, "sleep", "(I)I"⟩
abbrev cX4_mostOf : ByteArray := prog_6_method_48_code
def yX4_mostOf : MethodName := ⟨RX4, "mostOf", "(I)I"⟩
abbrev cX4_set : ByteArray := prog_6_method_49_code
def yX4_set : MethodName := ⟨RX4, "set", "(II)I"⟩
abbrev cX4_append : ByteArray := prog_6_method_50_code
def yX4_append : MethodName := ⟨RX4, "append", "(I)I"⟩
abbrev cX4_clearBuffer : ByteArray := prog_6_method_51_code
def yX4_clearBuffer : MethodName := ⟨RX4, "clearBuffer", "()I"⟩
abbrev cX4_hasStood : ByteArray := prog_6_method_52_code
def yX4_hasStood : MethodName := ⟨RX4, "hasStood", "(I)Z"⟩
abbrev cX4_digitAt : ByteArray := prog_6_method_53_code
def yX4_digitAt : MethodName := ⟨RX4, "digitAt", "(I)I"⟩
abbrev cX4_canBegin : ByteArray := prog_6_method_54_code
def yX4_canBegin : MethodName := ⟨RX4, "canBegin", "(I)Z"⟩
abbrev cX4_readNumber : ByteArray := prog_6_method_55_code
def yX4_readNumber : MethodName := ⟨RX4, "readNumber", "()I"⟩
abbrev cX4_readPoem : ByteArray := prog_6_method_56_code
def yX4_readPoem : MethodName := ⟨RX4, "readPoem", "()Z"⟩
abbrev cX4_firstError : ByteArray := prog_6_method_57_code
def yX4_firstError : MethodName := ⟨RX4, "firstError", "()I"⟩
abbrev cX4_load : ByteArray := prog_6_method_58_code
def yX4_load : MethodName := ⟨RX4, "load", "(I)I"⟩
abbrev cX4_draftSign : ByteArray := prog_6_method_59_code
def yX4_draftSign : MethodName := ⟨RX4, "draftSign", "(I)V"⟩
abbrev cX4_draftLine : ByteArray := prog_6_method_60_code
def yX4_draftLine : MethodName := ⟨RX4, "draftLine", "(I)V"⟩
abbrev cX4_write : ByteArray := prog_6_method_61_code
def yX4_write : MethodName := ⟨RX4, "write", "(I)I"⟩
abbrev cX4_keep : ByteArray := prog_6_method_62_code
def yX4_keep : MethodName := ⟨RX4, "keep", "(I)I"⟩
abbrev cX4_goBack : ByteArray := prog_6_method_63_code
def yX4_goBack : MethodName := ⟨RX4, "goBack", "(I)I"⟩
abbrev cX4_undo : ByteArray := prog_6_method_64_code
def yX4_undo : MethodName := ⟨RX4, "undo", "()I"⟩
abbrev cX4_wordProperty : ByteArray := prog_6_method_65_code
def yX4_wordProperty : MethodName := ⟨RX4, "wordProperty", "(II)I"⟩
abbrev cX4_wordOf : ByteArray := prog_6_method_66_code
def yX4_wordOf : MethodName := ⟨RX4, "wordOf", "(II)I"⟩
abbrev cX4_wordOrNone : ByteArray := prog_6_method_67_code
def yX4_wordOrNone : MethodName := ⟨RX4, "wordOrNone", "(II)I"⟩
abbrev cX4_at : ByteArray := prog_6_method_68_code
def yX4_at : MethodName := ⟨RX4, "at", "(III)I"⟩
abbrev cX4_told : ByteArray := prog_6_method_69_code
def yX4_told : MethodName := ⟨RX4, "told", "(I)I"⟩
abbrev cX4_isMixed : ByteArray := prog_6_method_70_code
def yX4_isMixed : MethodName := ⟨RX4, "isMixed", "(I)Z"⟩
abbrev cX4_lineProperty : ByteArray := prog_6_method_71_code
def yX4_lineProperty : MethodName := ⟨RX4, "lineProperty", "(II)I"⟩
abbrev cX4_lineOf : ByteArray := prog_6_method_72_code
def yX4_lineOf : MethodName := ⟨RX4, "lineOf", "(III)I"⟩
abbrev cX4_doorProperty : ByteArray := prog_6_method_73_code
def yX4_doorProperty : MethodName := ⟨RX4, "doorProperty", "(II)I"⟩
abbrev cX4_doorOf : ByteArray := prog_6_method_74_code
def yX4_doorOf : MethodName := ⟨RX4, "doorOf", "(II)I"⟩
abbrev cX4_stolenInAll : ByteArray := prog_6_method_75_code
def yX4_stolenInAll : MethodName := ⟨RX4, "stolenInAll", "()I"⟩
abbrev cX4_lentNow : ByteArray := prog_6_method_76_code
def yX4_lentNow : MethodName := ⟨RX4, "lentNow", "()I"⟩
abbrev cX4_allWorth : ByteArray := prog_6_method_77_code
def yX4_allWorth : MethodName := ⟨RX4, "allWorth", "()I"⟩
abbrev cX4_number : ByteArray := prog_6_method_78_code
def yX4_number : MethodName := ⟨RX4, "number", "(I)I"⟩
abbrev cX4_count : ByteArray := prog_6_method_79_code
def yX4_count : MethodName := ⟨RX4, "count", "(I)I"⟩
abbrev cX4_setting : ByteArray := prog_6_method_80_code
def yX4_setting : MethodName := ⟨RX4, "setting", "(I)I"⟩
abbrev cX4_whyNot : ByteArray := prog_6_method_81_code
def yX4_whyNot : MethodName := ⟨RX4, "whyNot", "(IIII)I"⟩
abbrev cX4_worthWith : ByteArray := prog_6_method_82_code
def yX4_worthWith : MethodName := ⟨RX4, "worthWith", "(II)I"⟩
abbrev cX4_bestFor : ByteArray := prog_6_method_83_code
def yX4_bestFor : MethodName := ⟨RX4, "bestFor", "(I)I"⟩
abbrev cX4_bestWord : ByteArray := prog_6_method_84_code
def yX4_bestWord : MethodName := ⟨RX4, "bestWord", "(II)I"⟩
abbrev cX4_prey : ByteArray := prog_6_method_85_code
def yX4_prey : MethodName := ⟨RX4, "prey", "()I"⟩
abbrev cX4_worthBehind : ByteArray := prog_6_method_86_code
def yX4_worthBehind : MethodName := ⟨RX4, "worthBehind", "(II)I"⟩
abbrev cX4_ifSlept : ByteArray := prog_6_method_87_code
def yX4_ifSlept : MethodName := ⟨RX4, "ifSlept", "(II)I"⟩
abbrev cX4_share : ByteArray := prog_6_method_88_code
def yX4_share : MethodName := ⟨RX4, "share", "()D"⟩
abbrev cX4_shownShare : ByteArray := prog_6_method_89_code
def yX4_shownShare : MethodName := ⟨RX4, "shownShare", "()D"⟩
abbrev cX4_mix : ByteArray := prog_6_method_90_code
def yX4_mix : MethodName := ⟨RX4, "mix", "(J)V"⟩
abbrev cX4_mixLine : ByteArray := prog_6_method_91_code
def yX4_mixLine : MethodName := ⟨RX4, "mixLine", "(I)V"⟩
abbrev cX4_mixDoor : ByteArray := prog_6_method_92_code
def yX4_mixDoor : MethodName := ⟨RX4, "mixDoor", "(I)V"⟩
abbrev cX4_digest : ByteArray := prog_6_method_93_code
def yX4_digest : MethodName := ⟨RX4, "digest", "()J"⟩
def RJxe99ae : String := "java/lang/Double"
abbrev cJxe99ae_isNaN_b9ae7 : ByteArray := prog_7_method_6_code
def yJxe99ae_isNaN_b9ae7 : MethodName := ⟨RJxe99ae, "isNaN", "(D)Z"⟩
abbrev cJxe99ae_doubleToLongBits_ccdee : ByteArray := prog_7_method_23_code
def yJxe99ae_doubleToLongBits_ccdee : MethodName := ⟨RJxe99ae, "doubleToLongBits", "(D)J"⟩
def RL : String := "MagnetPoemsLaw"
abbrev cL_put : ByteArray := method_3_code
def yL_put : MethodName := ⟨RL, "put", "(LMagnetPoems;IIII[J)I"⟩
abbrev cL_takeOff : ByteArray := method_4_code
def yL_takeOff : MethodName := ⟨RL, "takeOff", "(LMagnetPoems;I[J)I"⟩
abbrev cL_move : ByteArray := method_5_code
def yL_move : MethodName := ⟨RL, "move", "(LMagnetPoems;III[J)I"⟩
abbrev cL_clearDoor : ByteArray := method_6_code
def yL_clearDoor : MethodName := ⟨RL, "clearDoor", "(LMagnetPoems;I[J)I"⟩
abbrev cL_borrow : ByteArray := method_7_code
def yL_borrow : MethodName := ⟨RL, "borrow", "(LMagnetPoems;IIII[J)I"⟩
abbrev cL_bringBack : ByteArray := method_8_code
def yL_bringBack : MethodName := ⟨RL, "bringBack", "(LMagnetPoems;II[J)I"⟩
abbrev cL_sleep : ByteArray := method_9_code
def yL_sleep : MethodName := ⟨RL, "sleep", "(LMagnetPoems;I[J)I"⟩
abbrev cL_set : ByteArray := method_10_code
def yL_set : MethodName := ⟨RL, "set", "(LMagnetPoems;II[J)I"⟩
abbrev cL_append : ByteArray := method_11_code
def yL_append : MethodName := ⟨RL, "append", "(LMagnetPoems;I[J)I"⟩
abbrev cL_load : ByteArray := method_12_code
def yL_load : MethodName := ⟨RL, "load", "(LMagnetPoems;I[J)I"⟩
abbrev cL_write : ByteArray := method_13_code
def yL_write : MethodName := ⟨RL, "write", "(LMagnetPoems;I[J)I"⟩
abbrev cL_keep : ByteArray := method_14_code
def yL_keep : MethodName := ⟨RL, "keep", "(LMagnetPoems;I[J)I"⟩
abbrev cL_goBack : ByteArray := method_15_code
def yL_goBack : MethodName := ⟨RL, "goBack", "(LMagnetPoems;I[J)I"⟩
abbrev cL_undo : ByteArray := method_16_code
def yL_undo : MethodName := ⟨RL, "undo", "(LMagnetPoems;[J)I"⟩
abbrev cL_wordOf : ByteArray := method_17_code
def yL_wordOf : MethodName := ⟨RL, "wordOf", "(LMagnetPoems;II[J)I"⟩
abbrev cL_at : ByteArray := method_18_code
def yL_at : MethodName := ⟨RL, "at", "(LMagnetPoems;III[J)I"⟩
abbrev cL_lineOf : ByteArray := method_19_code
def yL_lineOf : MethodName := ⟨RL, "lineOf", "(LMagnetPoems;III[J)I"⟩
abbrev cL_doorOf : ByteArray := method_20_code
def yL_doorOf : MethodName := ⟨RL, "doorOf", "(LMagnetPoems;II[J)I"⟩
abbrev cL_count : ByteArray := method_21_code
def yL_count : MethodName := ⟨RL, "count", "(LMagnetPoems;I[J)I"⟩
abbrev cL_setting : ByteArray := method_22_code
def yL_setting : MethodName := ⟨RL, "setting", "(LMagnetPoems;I[J)I"⟩
abbrev cL_whyNot : ByteArray := method_23_code
def yL_whyNot : MethodName := ⟨RL, "whyNot", "(LMagnetPoems;IIII[J)I"⟩
abbrev cL_bestWord : ByteArray := method_24_code
def yL_bestWord : MethodName := ⟨RL, "bestWord", "(LMagnetPoems;II[J)I"⟩
abbrev cL_ifSlept : ByteArray := method_25_code
def yL_ifSlept : MethodName := ⟨RL, "ifSlept", "(LMagnetPoems;II[J)I"⟩
abbrev cL_law : ByteArray := code
def yL_law : MethodName := ⟨RL, "law", "([I)Z"⟩
abbrev vwCl : List vw_C := [(RX0, TX0, 13), (RX1, TX1, 3), (RX2, TX2, 7), (RX3, TX3, 8), (RX4, TX4, 17)]

section
-- ===== PART A: goes FIRST, ahead of the names: the tables' words, and 'selects' of the private methods out of them =====
/-- a private method of a class that the tables say can be made, by its rows of tables_1 -/
def lw_okq (q : MethodName × Nat) : Prop := (q.1.cls ≠ "java/lang/invoke/MethodHandle" ∧ q.1.cls ≠ "java/lang/invoke/VarHandle") ∧ Cond.instantiable q.1.cls q.2 ∈ tables_1 ∧ Cond.privateMethod q.1 ∈ tables_1 ∧ Cond.instanceMethod q.1 ∈ tables_1
theorem lw_p0 : lw_okq (⟨"MagnetPoems", "readBuffer", "()I"⟩, 8) := ⟨⟨by decide +kernel, by decide +kernel⟩, List.mem_of_getElem? (i := 14) (by decide +kernel), List.mem_of_getElem? (i := 162) (by decide +kernel), List.mem_of_getElem? (i := 163) (by decide +kernel)⟩
theorem lw_p1 : lw_okq (⟨"MagnetPoems$PoemReader", "takesDigit", "(I)Z"⟩, 7) := ⟨⟨by decide +kernel, by decide +kernel⟩, List.mem_of_getElem? (i := 99) (by decide +kernel), List.mem_of_getElem? (i := 174) (by decide +kernel), List.mem_of_getElem? (i := 175) (by decide +kernel)⟩
theorem lw_p2 : lw_okq (⟨"MagnetPoems$PoemReader", "canBegin", "(I)Z"⟩, 7) := ⟨⟨by decide +kernel, by decide +kernel⟩, List.mem_of_getElem? (i := 99) (by decide +kernel), List.mem_of_getElem? (i := 178) (by decide +kernel), List.mem_of_getElem? (i := 179) (by decide +kernel)⟩
theorem lw_p3 : lw_okq (⟨"MagnetPoems$PoemReader", "isFree", "(I)Z"⟩, 7) := ⟨⟨by decide +kernel, by decide +kernel⟩, List.mem_of_getElem? (i := 99) (by decide +kernel), List.mem_of_getElem? (i := 182) (by decide +kernel), List.mem_of_getElem? (i := 183) (by decide +kernel)⟩
theorem lw_p4 : lw_okq (⟨"MagnetPoems$PoemReader", "setTold", "(I)V"⟩, 7) := ⟨⟨by decide +kernel, by decide +kernel⟩, List.mem_of_getElem? (i := 99) (by decide +kernel), List.mem_of_getElem? (i := 190) (by decide +kernel), List.mem_of_getElem? (i := 191) (by decide +kernel)⟩
theorem lw_p5 : lw_okq (⟨"MagnetPoems$Board", "doorOfThief", "()I"⟩, 13) := ⟨⟨by decide +kernel, by decide +kernel⟩, List.mem_of_getElem? (i := 22) (by decide +kernel), List.mem_of_getElem? (i := 203) (by decide +kernel), List.mem_of_getElem? (i := 204) (by decide +kernel)⟩
theorem lw_p6 : lw_okq (⟨"MagnetPoems$Board", "preyOn", "(I)I"⟩, 13) := ⟨⟨by decide +kernel, by decide +kernel⟩, List.mem_of_getElem? (i := 22) (by decide +kernel), List.mem_of_getElem? (i := 246) (by decide +kernel), List.mem_of_getElem? (i := 247) (by decide +kernel)⟩
theorem lw_p7 : lw_okq (⟨"MagnetPoems", "share", "()D"⟩, 8) := ⟨⟨by decide +kernel, by decide +kernel⟩, List.mem_of_getElem? (i := 14) (by decide +kernel), List.mem_of_getElem? (i := 254) (by decide +kernel), List.mem_of_getElem? (i := 255) (by decide +kernel)⟩
theorem lw_p8 : lw_okq (⟨"MagnetPoems$Board", "watchOneNightFewer", "()V"⟩, 13) := ⟨⟨by decide +kernel, by decide +kernel⟩, List.mem_of_getElem? (i := 22) (by decide +kernel), List.mem_of_getElem? (i := 278) (by decide +kernel), List.mem_of_getElem? (i := 279) (by decide +kernel)⟩
theorem lw_p9 : lw_okq (⟨"MagnetPoems$Board", "steal", "(II)V"⟩, 13) := ⟨⟨by decide +kernel, by decide +kernel⟩, List.mem_of_getElem? (i := 22) (by decide +kernel), List.mem_of_getElem? (i := 282) (by decide +kernel), List.mem_of_getElem? (i := 283) (by decide +kernel)⟩
theorem lw_p10 : lw_okq (⟨"MagnetPoems$Board", "endLoansOf", "(IZ)V"⟩, 13) := ⟨⟨by decide +kernel, by decide +kernel⟩, List.mem_of_getElem? (i := 22) (by decide +kernel), List.mem_of_getElem? (i := 298) (by decide +kernel), List.mem_of_getElem? (i := 299) (by decide +kernel)⟩
theorem lw_p11 : lw_okq (⟨"MagnetPoems", "numberOf", "(I)I"⟩, 8) := ⟨⟨by decide +kernel, by decide +kernel⟩, List.mem_of_getElem? (i := 14) (by decide +kernel), List.mem_of_getElem? (i := 307) (by decide +kernel), List.mem_of_getElem? (i := 308) (by decide +kernel)⟩
theorem lw_p12 : lw_okq (⟨"MagnetPoems", "mixDoor", "(JI)J"⟩, 8) := ⟨⟨by decide +kernel, by decide +kernel⟩, List.mem_of_getElem? (i := 14) (by decide +kernel), List.mem_of_getElem? (i := 335) (by decide +kernel), List.mem_of_getElem? (i := 336) (by decide +kernel)⟩
theorem lw_p13 : lw_okq (⟨"MagnetPoems$Board", "clashes", "(I)Z"⟩, 13) := ⟨⟨by decide +kernel, by decide +kernel⟩, List.mem_of_getElem? (i := 22) (by decide +kernel), List.mem_of_getElem? (i := 360) (by decide +kernel), List.mem_of_getElem? (i := 361) (by decide +kernel)⟩
theorem lw_p14 : lw_okq (⟨"MagnetPoems$Board", "wouldClash", "(III)Z"⟩, 13) := ⟨⟨by decide +kernel, by decide +kernel⟩, List.mem_of_getElem? (i := 22) (by decide +kernel), List.mem_of_getElem? (i := 376) (by decide +kernel), List.mem_of_getElem? (i := 377) (by decide +kernel)⟩
theorem lw_p15 : lw_okq (⟨"MagnetPoems", "isPlaceToPut", "(III)Z"⟩, 8) := ⟨⟨by decide +kernel, by decide +kernel⟩, List.mem_of_getElem? (i := 14) (by decide +kernel), List.mem_of_getElem? (i := 400) (by decide +kernel), List.mem_of_getElem? (i := 401) (by decide +kernel)⟩
def lw_privs_1 : List (MethodName × Nat) := [(⟨"MagnetPoems", "readBuffer", "()I"⟩, 8), (⟨"MagnetPoems$PoemReader", "takesDigit", "(I)Z"⟩, 7), (⟨"MagnetPoems$PoemReader", "canBegin", "(I)Z"⟩, 7), (⟨"MagnetPoems$PoemReader", "isFree", "(I)Z"⟩, 7), (⟨"MagnetPoems$PoemReader", "setTold", "(I)V"⟩, 7), (⟨"MagnetPoems$Board", "doorOfThief", "()I"⟩, 13), (⟨"MagnetPoems$Board", "preyOn", "(I)I"⟩, 13), (⟨"MagnetPoems", "share", "()D"⟩, 8), (⟨"MagnetPoems$Board", "watchOneNightFewer", "()V"⟩, 13), (⟨"MagnetPoems$Board", "steal", "(II)V"⟩, 13), (⟨"MagnetPoems$Board", "endLoansOf", "(IZ)V"⟩, 13), (⟨"MagnetPoems", "numberOf", "(I)I"⟩, 8), (⟨"MagnetPoems", "mixDoor", "(JI)J"⟩, 8), (⟨"MagnetPoems$Board", "clashes", "(I)Z"⟩, 13), (⟨"MagnetPoems$Board", "wouldClash", "(III)Z"⟩, 13), (⟨"MagnetPoems", "isPlaceToPut", "(III)Z"⟩, 8)]
theorem lw_r1 : ∀ q ∈ lw_privs_1, lw_okq q := List.forall_mem_cons.mpr ⟨lw_p0, List.forall_mem_cons.mpr ⟨lw_p1, List.forall_mem_cons.mpr ⟨lw_p2, List.forall_mem_cons.mpr ⟨lw_p3, List.forall_mem_cons.mpr ⟨lw_p4, List.forall_mem_cons.mpr ⟨lw_p5, List.forall_mem_cons.mpr ⟨lw_p6, List.forall_mem_cons.mpr ⟨lw_p7, List.forall_mem_cons.mpr ⟨lw_p8, List.forall_mem_cons.mpr ⟨lw_p9, List.forall_mem_cons.mpr ⟨lw_p10, List.forall_mem_cons.mpr ⟨lw_p11, List.forall_mem_cons.mpr ⟨lw_p12, List.forall_mem_cons.mpr ⟨lw_p13, List.forall_mem_cons.mpr ⟨lw_p14, List.forall_mem_cons.mpr ⟨lw_p15, fun _ h => absurd h List.not_mem_nil⟩⟩⟩⟩⟩⟩⟩⟩⟩⟩⟩⟩⟩⟩⟩⟩
theorem lw_p16 : lw_okq (⟨"java/lang/Throwable", "fillInStackTrace", "(I)Ljava/lang/Throwable;"⟩, 6) := ⟨⟨by decide +kernel, by decide +kernel⟩, List.mem_of_getElem? (i := 452) (by decide +kernel), List.mem_of_getElem? (i := 450) (by decide +kernel), List.mem_of_getElem? (i := 451) (by decide +kernel)⟩
theorem lw_p17 : lw_okq (⟨"MagnetPoems$History", "stateAt", "(I)LMagnetPoems$Board;"⟩, 3) := ⟨⟨by decide +kernel, by decide +kernel⟩, List.mem_of_getElem? (i := 79) (by decide +kernel), List.mem_of_getElem? (i := 506) (by decide +kernel), List.mem_of_getElem? (i := 507) (by decide +kernel)⟩
theorem lw_p18 : lw_okq (⟨"MagnetPoems", "addCode", "(I)V"⟩, 8) := ⟨⟨by decide +kernel, by decide +kernel⟩, List.mem_of_getElem? (i := 14) (by decide +kernel), List.mem_of_getElem? (i := 640) (by decide +kernel), List.mem_of_getElem? (i := 641) (by decide +kernel)⟩
theorem lw_p19 : lw_okq (⟨"MagnetPoems", "putPoem", "(I)I"⟩, 8) := ⟨⟨by decide +kernel, by decide +kernel⟩, List.mem_of_getElem? (i := 14) (by decide +kernel), List.mem_of_getElem? (i := 653) (by decide +kernel), List.mem_of_getElem? (i := 654) (by decide +kernel)⟩
theorem lw_p20 : lw_okq (⟨"MagnetPoems", "textLength", "(I)I"⟩, 8) := ⟨⟨by decide +kernel, by decide +kernel⟩, List.mem_of_getElem? (i := 14) (by decide +kernel), List.mem_of_getElem? (i := 673) (by decide +kernel), List.mem_of_getElem? (i := 674) (by decide +kernel)⟩
theorem lw_p21 : lw_okq (⟨"MagnetPoems", "addLine", "(I)V"⟩, 8) := ⟨⟨by decide +kernel, by decide +kernel⟩, List.mem_of_getElem? (i := 14) (by decide +kernel), List.mem_of_getElem? (i := 677) (by decide +kernel), List.mem_of_getElem? (i := 678) (by decide +kernel)⟩
theorem lw_p22 : lw_okq (⟨"MagnetPoems", "addNumber", "(I)V"⟩, 8) := ⟨⟨by decide +kernel, by decide +kernel⟩, List.mem_of_getElem? (i := 14) (by decide +kernel), List.mem_of_getElem? (i := 681) (by decide +kernel), List.mem_of_getElem? (i := 682) (by decide +kernel)⟩
theorem lw_p23 : lw_okq (⟨"MagnetPoemsModel", "fails", "(I)I"⟩, 17) := ⟨⟨by decide +kernel, by decide +kernel⟩, List.mem_of_getElem? (i := 784) (by decide +kernel), List.mem_of_getElem? (i := 862) (by decide +kernel), List.mem_of_getElem? (i := 863) (by decide +kernel)⟩
theorem lw_p24 : lw_okq (⟨"MagnetPoemsModel", "lineOfWord", "(I)I"⟩, 17) := ⟨⟨by decide +kernel, by decide +kernel⟩, List.mem_of_getElem? (i := 784) (by decide +kernel), List.mem_of_getElem? (i := 866) (by decide +kernel), List.mem_of_getElem? (i := 867) (by decide +kernel)⟩
theorem lw_p25 : lw_okq (⟨"MagnetPoemsModel", "wordAt", "(II)I"⟩, 17) := ⟨⟨by decide +kernel, by decide +kernel⟩, List.mem_of_getElem? (i := 784) (by decide +kernel), List.mem_of_getElem? (i := 870) (by decide +kernel), List.mem_of_getElem? (i := 871) (by decide +kernel)⟩
theorem lw_p26 : lw_okq (⟨"MagnetPoemsModel", "save", "()V"⟩, 17) := ⟨⟨by decide +kernel, by decide +kernel⟩, List.mem_of_getElem? (i := 784) (by decide +kernel), List.mem_of_getElem? (i := 874) (by decide +kernel), List.mem_of_getElem? (i := 875) (by decide +kernel)⟩
theorem lw_p27 : lw_okq (⟨"MagnetPoemsModel", "reason", "(III)I"⟩, 17) := ⟨⟨by decide +kernel, by decide +kernel⟩, List.mem_of_getElem? (i := 784) (by decide +kernel), List.mem_of_getElem? (i := 878) (by decide +kernel), List.mem_of_getElem? (i := 879) (by decide +kernel)⟩
theorem lw_p28 : lw_okq (⟨"MagnetPoemsModel", "beatsOn", "(I)I"⟩, 17) := ⟨⟨by decide +kernel, by decide +kernel⟩, List.mem_of_getElem? (i := 784) (by decide +kernel), List.mem_of_getElem? (i := 882) (by decide +kernel), List.mem_of_getElem? (i := 883) (by decide +kernel)⟩
theorem lw_p29 : lw_okq (⟨"MagnetPoemsModel", "wordWith", "(IIII)I"⟩, 17) := ⟨⟨by decide +kernel, by decide +kernel⟩, List.mem_of_getElem? (i := 784) (by decide +kernel), List.mem_of_getElem? (i := 889) (by decide +kernel), List.mem_of_getElem? (i := 890) (by decide +kernel)⟩
theorem lw_p30 : lw_okq (⟨"MagnetPoemsModel", "insert", "(III)V"⟩, 17) := ⟨⟨by decide +kernel, by decide +kernel⟩, List.mem_of_getElem? (i := 784) (by decide +kernel), List.mem_of_getElem? (i := 899) (by decide +kernel), List.mem_of_getElem? (i := 900) (by decide +kernel)⟩
theorem lw_p31 : lw_okq (⟨"MagnetPoemsModel", "lastOf", "(I)I"⟩, 17) := ⟨⟨by decide +kernel, by decide +kernel⟩, List.mem_of_getElem? (i := 784) (by decide +kernel), List.mem_of_getElem? (i := 903) (by decide +kernel), List.mem_of_getElem? (i := 904) (by decide +kernel)⟩
def lw_privs_2 : List (MethodName × Nat) := [(⟨"java/lang/Throwable", "fillInStackTrace", "(I)Ljava/lang/Throwable;"⟩, 6), (⟨"MagnetPoems$History", "stateAt", "(I)LMagnetPoems$Board;"⟩, 3), (⟨"MagnetPoems", "addCode", "(I)V"⟩, 8), (⟨"MagnetPoems", "putPoem", "(I)I"⟩, 8), (⟨"MagnetPoems", "textLength", "(I)I"⟩, 8), (⟨"MagnetPoems", "addLine", "(I)V"⟩, 8), (⟨"MagnetPoems", "addNumber", "(I)V"⟩, 8), (⟨"MagnetPoemsModel", "fails", "(I)I"⟩, 17), (⟨"MagnetPoemsModel", "lineOfWord", "(I)I"⟩, 17), (⟨"MagnetPoemsModel", "wordAt", "(II)I"⟩, 17), (⟨"MagnetPoemsModel", "save", "()V"⟩, 17), (⟨"MagnetPoemsModel", "reason", "(III)I"⟩, 17), (⟨"MagnetPoemsModel", "beatsOn", "(I)I"⟩, 17), (⟨"MagnetPoemsModel", "wordWith", "(IIII)I"⟩, 17), (⟨"MagnetPoemsModel", "insert", "(III)V"⟩, 17), (⟨"MagnetPoemsModel", "lastOf", "(I)I"⟩, 17)]
theorem lw_r2 : ∀ q ∈ lw_privs_2, lw_okq q := List.forall_mem_cons.mpr ⟨lw_p16, List.forall_mem_cons.mpr ⟨lw_p17, List.forall_mem_cons.mpr ⟨lw_p18, List.forall_mem_cons.mpr ⟨lw_p19, List.forall_mem_cons.mpr ⟨lw_p20, List.forall_mem_cons.mpr ⟨lw_p21, List.forall_mem_cons.mpr ⟨lw_p22, List.forall_mem_cons.mpr ⟨lw_p23, List.forall_mem_cons.mpr ⟨lw_p24, List.forall_mem_cons.mpr ⟨lw_p25, List.forall_mem_cons.mpr ⟨lw_p26, List.forall_mem_cons.mpr ⟨lw_p27, List.forall_mem_cons.mpr ⟨lw_p28, List.forall_mem_cons.mpr ⟨lw_p29, List.forall_mem_cons.mpr ⟨lw_p30, List.forall_mem_cons.mpr ⟨lw_p31, fun _ h => absurd h List.not_mem_nil⟩⟩⟩⟩⟩⟩⟩⟩⟩⟩⟩⟩⟩⟩⟩⟩
theorem lw_p32 : lw_okq (⟨"MagnetPoemsModel", "endLoans", "(II)V"⟩, 17) := ⟨⟨by decide +kernel, by decide +kernel⟩, List.mem_of_getElem? (i := 784) (by decide +kernel), List.mem_of_getElem? (i := 907) (by decide +kernel), List.mem_of_getElem? (i := 908) (by decide +kernel)⟩
theorem lw_p33 : lw_okq (⟨"MagnetPoemsModel", "placeOfWord", "(I)I"⟩, 17) := ⟨⟨by decide +kernel, by decide +kernel⟩, List.mem_of_getElem? (i := 784) (by decide +kernel), List.mem_of_getElem? (i := 915) (by decide +kernel), List.mem_of_getElem? (i := 916) (by decide +kernel)⟩
theorem lw_p34 : lw_okq (⟨"MagnetPoemsModel", "removeAt", "(II)V"⟩, 17) := ⟨⟨by decide +kernel, by decide +kernel⟩, List.mem_of_getElem? (i := 784) (by decide +kernel), List.mem_of_getElem? (i := 919) (by decide +kernel), List.mem_of_getElem? (i := 920) (by decide +kernel)⟩
theorem lw_p35 : lw_okq (⟨"MagnetPoemsModel", "emptyDoor", "(I)I"⟩, 17) := ⟨⟨by decide +kernel, by decide +kernel⟩, List.mem_of_getElem? (i := 784) (by decide +kernel), List.mem_of_getElem? (i := 931) (by decide +kernel), List.mem_of_getElem? (i := 932) (by decide +kernel)⟩
theorem lw_p36 : lw_okq (⟨"MagnetPoemsModel", "canLend", "(I)Z"⟩, 17) := ⟨⟨by decide +kernel, by decide +kernel⟩, List.mem_of_getElem? (i := 784) (by decide +kernel), List.mem_of_getElem? (i := 939) (by decide +kernel), List.mem_of_getElem? (i := 940) (by decide +kernel)⟩
theorem lw_p37 : lw_okq (⟨"MagnetPoemsModel", "borrowerOf", "(I)I"⟩, 17) := ⟨⟨by decide +kernel, by decide +kernel⟩, List.mem_of_getElem? (i := 784) (by decide +kernel), List.mem_of_getElem? (i := 943) (by decide +kernel), List.mem_of_getElem? (i := 944) (by decide +kernel)⟩
theorem lw_p38 : lw_okq (⟨"MagnetPoemsModel", "lineEnding", "(I)I"⟩, 17) := ⟨⟨by decide +kernel, by decide +kernel⟩, List.mem_of_getElem? (i := 784) (by decide +kernel), List.mem_of_getElem? (i := 947) (by decide +kernel), List.mem_of_getElem? (i := 948) (by decide +kernel)⟩
theorem lw_p39 : lw_okq (⟨"MagnetPoemsModel", "nights", "(I)I"⟩, 17) := ⟨⟨by decide +kernel, by decide +kernel⟩, List.mem_of_getElem? (i := 784) (by decide +kernel), List.mem_of_getElem? (i := 962) (by decide +kernel), List.mem_of_getElem? (i := 963) (by decide +kernel)⟩
theorem lw_p40 : lw_okq (⟨"MagnetPoemsModel", "night", "()I"⟩, 17) := ⟨⟨by decide +kernel, by decide +kernel⟩, List.mem_of_getElem? (i := 784) (by decide +kernel), List.mem_of_getElem? (i := 966) (by decide +kernel), List.mem_of_getElem? (i := 967) (by decide +kernel)⟩
theorem lw_p41 : lw_okq (⟨"MagnetPoemsModel", "preyNow", "()I"⟩, 17) := ⟨⟨by decide +kernel, by decide +kernel⟩, List.mem_of_getElem? (i := 784) (by decide +kernel), List.mem_of_getElem? (i := 970) (by decide +kernel), List.mem_of_getElem? (i := 971) (by decide +kernel)⟩
theorem lw_p42 : lw_okq (⟨"MagnetPoemsModel", "target", "()I"⟩, 17) := ⟨⟨by decide +kernel, by decide +kernel⟩, List.mem_of_getElem? (i := 784) (by decide +kernel), List.mem_of_getElem? (i := 974) (by decide +kernel), List.mem_of_getElem? (i := 975) (by decide +kernel)⟩
theorem lw_p43 : lw_okq (⟨"MagnetPoemsModel", "doorWords", "(I)I"⟩, 17) := ⟨⟨by decide +kernel, by decide +kernel⟩, List.mem_of_getElem? (i := 784) (by decide +kernel), List.mem_of_getElem? (i := 978) (by decide +kernel), List.mem_of_getElem? (i := 979) (by decide +kernel)⟩
theorem lw_p44 : lw_okq (⟨"MagnetPoemsModel", "doorWorth", "(I)I"⟩, 17) := ⟨⟨by decide +kernel, by decide +kernel⟩, List.mem_of_getElem? (i := 784) (by decide +kernel), List.mem_of_getElem? (i := 982) (by decide +kernel), List.mem_of_getElem? (i := 983) (by decide +kernel)⟩
theorem lw_p45 : lw_okq (⟨"MagnetPoemsModel", "pairs", "(I)I"⟩, 17) := ⟨⟨by decide +kernel, by decide +kernel⟩, List.mem_of_getElem? (i := 784) (by decide +kernel), List.mem_of_getElem? (i := 986) (by decide +kernel), List.mem_of_getElem? (i := 987) (by decide +kernel)⟩
theorem lw_p46 : lw_okq (⟨"MagnetPoemsModel", "rhymes", "(I)I"⟩, 17) := ⟨⟨by decide +kernel, by decide +kernel⟩, List.mem_of_getElem? (i := 784) (by decide +kernel), List.mem_of_getElem? (i := 990) (by decide +kernel), List.mem_of_getElem? (i := 991) (by decide +kernel)⟩
theorem lw_p47 : lw_okq (⟨"MagnetPoemsModel", "lineWorth", "(I)I"⟩, 17) := ⟨⟨by decide +kernel, by decide +kernel⟩, List.mem_of_getElem? (i := 784) (by decide +kernel), List.mem_of_getElem? (i := 994) (by decide +kernel), List.mem_of_getElem? (i := 995) (by decide +kernel)⟩
def lw_privs_3 : List (MethodName × Nat) := [(⟨"MagnetPoemsModel", "endLoans", "(II)V"⟩, 17), (⟨"MagnetPoemsModel", "placeOfWord", "(I)I"⟩, 17), (⟨"MagnetPoemsModel", "removeAt", "(II)V"⟩, 17), (⟨"MagnetPoemsModel", "emptyDoor", "(I)I"⟩, 17), (⟨"MagnetPoemsModel", "canLend", "(I)Z"⟩, 17), (⟨"MagnetPoemsModel", "borrowerOf", "(I)I"⟩, 17), (⟨"MagnetPoemsModel", "lineEnding", "(I)I"⟩, 17), (⟨"MagnetPoemsModel", "nights", "(I)I"⟩, 17), (⟨"MagnetPoemsModel", "night", "()I"⟩, 17), (⟨"MagnetPoemsModel", "preyNow", "()I"⟩, 17), (⟨"MagnetPoemsModel", "target", "()I"⟩, 17), (⟨"MagnetPoemsModel", "doorWords", "(I)I"⟩, 17), (⟨"MagnetPoemsModel", "doorWorth", "(I)I"⟩, 17), (⟨"MagnetPoemsModel", "pairs", "(I)I"⟩, 17), (⟨"MagnetPoemsModel", "rhymes", "(I)I"⟩, 17), (⟨"MagnetPoemsModel", "lineWorth", "(I)I"⟩, 17)]
theorem lw_r3 : ∀ q ∈ lw_privs_3, lw_okq q := List.forall_mem_cons.mpr ⟨lw_p32, List.forall_mem_cons.mpr ⟨lw_p33, List.forall_mem_cons.mpr ⟨lw_p34, List.forall_mem_cons.mpr ⟨lw_p35, List.forall_mem_cons.mpr ⟨lw_p36, List.forall_mem_cons.mpr ⟨lw_p37, List.forall_mem_cons.mpr ⟨lw_p38, List.forall_mem_cons.mpr ⟨lw_p39, List.forall_mem_cons.mpr ⟨lw_p40, List.forall_mem_cons.mpr ⟨lw_p41, List.forall_mem_cons.mpr ⟨lw_p42, List.forall_mem_cons.mpr ⟨lw_p43, List.forall_mem_cons.mpr ⟨lw_p44, List.forall_mem_cons.mpr ⟨lw_p45, List.forall_mem_cons.mpr ⟨lw_p46, List.forall_mem_cons.mpr ⟨lw_p47, fun _ h => absurd h List.not_mem_nil⟩⟩⟩⟩⟩⟩⟩⟩⟩⟩⟩⟩⟩⟩⟩⟩
theorem lw_p48 : lw_okq (⟨"MagnetPoemsModel", "hasKind", "(II)Z"⟩, 17) := ⟨⟨by decide +kernel, by decide +kernel⟩, List.mem_of_getElem? (i := 784) (by decide +kernel), List.mem_of_getElem? (i := 998) (by decide +kernel), List.mem_of_getElem? (i := 999) (by decide +kernel)⟩
theorem lw_p49 : lw_okq (⟨"MagnetPoemsModel", "preyOn", "(I)I"⟩, 17) := ⟨⟨by decide +kernel, by decide +kernel⟩, List.mem_of_getElem? (i := 784) (by decide +kernel), List.mem_of_getElem? (i := 1002) (by decide +kernel), List.mem_of_getElem? (i := 1003) (by decide +kernel)⟩
theorem lw_p50 : lw_okq (⟨"MagnetPoemsModel", "readPoem", "()Z"⟩, 17) := ⟨⟨by decide +kernel, by decide +kernel⟩, List.mem_of_getElem? (i := 784) (by decide +kernel), List.mem_of_getElem? (i := 1025) (by decide +kernel), List.mem_of_getElem? (i := 1026) (by decide +kernel)⟩
theorem lw_p51 : lw_okq (⟨"MagnetPoemsModel", "readNumber", "()I"⟩, 17) := ⟨⟨by decide +kernel, by decide +kernel⟩, List.mem_of_getElem? (i := 784) (by decide +kernel), List.mem_of_getElem? (i := 1029) (by decide +kernel), List.mem_of_getElem? (i := 1030) (by decide +kernel)⟩
theorem lw_p52 : lw_okq (⟨"MagnetPoemsModel", "digitAt", "(I)I"⟩, 17) := ⟨⟨by decide +kernel, by decide +kernel⟩, List.mem_of_getElem? (i := 784) (by decide +kernel), List.mem_of_getElem? (i := 1033) (by decide +kernel), List.mem_of_getElem? (i := 1034) (by decide +kernel)⟩
theorem lw_p53 : lw_okq (⟨"MagnetPoemsModel", "canBegin", "(I)Z"⟩, 17) := ⟨⟨by decide +kernel, by decide +kernel⟩, List.mem_of_getElem? (i := 784) (by decide +kernel), List.mem_of_getElem? (i := 1037) (by decide +kernel), List.mem_of_getElem? (i := 1038) (by decide +kernel)⟩
theorem lw_p54 : lw_okq (⟨"MagnetPoemsModel", "hasStood", "(I)Z"⟩, 17) := ⟨⟨by decide +kernel, by decide +kernel⟩, List.mem_of_getElem? (i := 784) (by decide +kernel), List.mem_of_getElem? (i := 1041) (by decide +kernel), List.mem_of_getElem? (i := 1042) (by decide +kernel)⟩
theorem lw_p55 : lw_okq (⟨"MagnetPoemsModel", "draftSign", "(I)V"⟩, 17) := ⟨⟨by decide +kernel, by decide +kernel⟩, List.mem_of_getElem? (i := 784) (by decide +kernel), List.mem_of_getElem? (i := 1053) (by decide +kernel), List.mem_of_getElem? (i := 1054) (by decide +kernel)⟩
theorem lw_p56 : lw_okq (⟨"MagnetPoemsModel", "draftLine", "(I)V"⟩, 17) := ⟨⟨by decide +kernel, by decide +kernel⟩, List.mem_of_getElem? (i := 784) (by decide +kernel), List.mem_of_getElem? (i := 1057) (by decide +kernel), List.mem_of_getElem? (i := 1058) (by decide +kernel)⟩
theorem lw_p57 : lw_okq (⟨"MagnetPoemsModel", "inBag", "()I"⟩, 17) := ⟨⟨by decide +kernel, by decide +kernel⟩, List.mem_of_getElem? (i := 784) (by decide +kernel), List.mem_of_getElem? (i := 1065) (by decide +kernel), List.mem_of_getElem? (i := 1066) (by decide +kernel)⟩
theorem lw_p58 : lw_okq (⟨"MagnetPoemsModel", "wordProperty", "(II)I"⟩, 17) := ⟨⟨by decide +kernel, by decide +kernel⟩, List.mem_of_getElem? (i := 784) (by decide +kernel), List.mem_of_getElem? (i := 1081) (by decide +kernel), List.mem_of_getElem? (i := 1082) (by decide +kernel)⟩
theorem lw_p59 : lw_okq (⟨"MagnetPoemsModel", "wordOrNone", "(II)I"⟩, 17) := ⟨⟨by decide +kernel, by decide +kernel⟩, List.mem_of_getElem? (i := 784) (by decide +kernel), List.mem_of_getElem? (i := 1089) (by decide +kernel), List.mem_of_getElem? (i := 1090) (by decide +kernel)⟩
theorem lw_p60 : lw_okq (⟨"MagnetPoemsModel", "lineProperty", "(II)I"⟩, 17) := ⟨⟨by decide +kernel, by decide +kernel⟩, List.mem_of_getElem? (i := 784) (by decide +kernel), List.mem_of_getElem? (i := 1097) (by decide +kernel), List.mem_of_getElem? (i := 1098) (by decide +kernel)⟩
theorem lw_p61 : lw_okq (⟨"MagnetPoemsModel", "isMixed", "(I)Z"⟩, 17) := ⟨⟨by decide +kernel, by decide +kernel⟩, List.mem_of_getElem? (i := 784) (by decide +kernel), List.mem_of_getElem? (i := 1104) (by decide +kernel), List.mem_of_getElem? (i := 1105) (by decide +kernel)⟩
theorem lw_p62 : lw_okq (⟨"MagnetPoemsModel", "doorProperty", "(II)I"⟩, 17) := ⟨⟨by decide +kernel, by decide +kernel⟩, List.mem_of_getElem? (i := 784) (by decide +kernel), List.mem_of_getElem? (i := 1112) (by decide +kernel), List.mem_of_getElem? (i := 1113) (by decide +kernel)⟩
theorem lw_p63 : lw_okq (⟨"MagnetPoemsModel", "number", "(I)I"⟩, 17) := ⟨⟨by decide +kernel, by decide +kernel⟩, List.mem_of_getElem? (i := 784) (by decide +kernel), List.mem_of_getElem? (i := 1120) (by decide +kernel), List.mem_of_getElem? (i := 1121) (by decide +kernel)⟩
def lw_privs_4 : List (MethodName × Nat) := [(⟨"MagnetPoemsModel", "hasKind", "(II)Z"⟩, 17), (⟨"MagnetPoemsModel", "preyOn", "(I)I"⟩, 17), (⟨"MagnetPoemsModel", "readPoem", "()Z"⟩, 17), (⟨"MagnetPoemsModel", "readNumber", "()I"⟩, 17), (⟨"MagnetPoemsModel", "digitAt", "(I)I"⟩, 17), (⟨"MagnetPoemsModel", "canBegin", "(I)Z"⟩, 17), (⟨"MagnetPoemsModel", "hasStood", "(I)Z"⟩, 17), (⟨"MagnetPoemsModel", "draftSign", "(I)V"⟩, 17), (⟨"MagnetPoemsModel", "draftLine", "(I)V"⟩, 17), (⟨"MagnetPoemsModel", "inBag", "()I"⟩, 17), (⟨"MagnetPoemsModel", "wordProperty", "(II)I"⟩, 17), (⟨"MagnetPoemsModel", "wordOrNone", "(II)I"⟩, 17), (⟨"MagnetPoemsModel", "lineProperty", "(II)I"⟩, 17), (⟨"MagnetPoemsModel", "isMixed", "(I)Z"⟩, 17), (⟨"MagnetPoemsModel", "doorProperty", "(II)I"⟩, 17), (⟨"MagnetPoemsModel", "number", "(I)I"⟩, 17)]
theorem lw_r4 : ∀ q ∈ lw_privs_4, lw_okq q := List.forall_mem_cons.mpr ⟨lw_p48, List.forall_mem_cons.mpr ⟨lw_p49, List.forall_mem_cons.mpr ⟨lw_p50, List.forall_mem_cons.mpr ⟨lw_p51, List.forall_mem_cons.mpr ⟨lw_p52, List.forall_mem_cons.mpr ⟨lw_p53, List.forall_mem_cons.mpr ⟨lw_p54, List.forall_mem_cons.mpr ⟨lw_p55, List.forall_mem_cons.mpr ⟨lw_p56, List.forall_mem_cons.mpr ⟨lw_p57, List.forall_mem_cons.mpr ⟨lw_p58, List.forall_mem_cons.mpr ⟨lw_p59, List.forall_mem_cons.mpr ⟨lw_p60, List.forall_mem_cons.mpr ⟨lw_p61, List.forall_mem_cons.mpr ⟨lw_p62, List.forall_mem_cons.mpr ⟨lw_p63, fun _ h => absurd h List.not_mem_nil⟩⟩⟩⟩⟩⟩⟩⟩⟩⟩⟩⟩⟩⟩⟩⟩
theorem lw_p64 : lw_okq (⟨"MagnetPoemsModel", "stolenInAll", "()I"⟩, 17) := ⟨⟨by decide +kernel, by decide +kernel⟩, List.mem_of_getElem? (i := 784) (by decide +kernel), List.mem_of_getElem? (i := 1124) (by decide +kernel), List.mem_of_getElem? (i := 1125) (by decide +kernel)⟩
theorem lw_p65 : lw_okq (⟨"MagnetPoemsModel", "lentNow", "()I"⟩, 17) := ⟨⟨by decide +kernel, by decide +kernel⟩, List.mem_of_getElem? (i := 784) (by decide +kernel), List.mem_of_getElem? (i := 1128) (by decide +kernel), List.mem_of_getElem? (i := 1129) (by decide +kernel)⟩
theorem lw_p66 : lw_okq (⟨"MagnetPoemsModel", "allWorth", "()I"⟩, 17) := ⟨⟨by decide +kernel, by decide +kernel⟩, List.mem_of_getElem? (i := 784) (by decide +kernel), List.mem_of_getElem? (i := 1132) (by decide +kernel), List.mem_of_getElem? (i := 1133) (by decide +kernel)⟩
theorem lw_p67 : lw_okq (⟨"MagnetPoemsModel", "bestFor", "(I)I"⟩, 17) := ⟨⟨by decide +kernel, by decide +kernel⟩, List.mem_of_getElem? (i := 784) (by decide +kernel), List.mem_of_getElem? (i := 1148) (by decide +kernel), List.mem_of_getElem? (i := 1149) (by decide +kernel)⟩
theorem lw_p68 : lw_okq (⟨"MagnetPoemsModel", "worthWith", "(II)I"⟩, 17) := ⟨⟨by decide +kernel, by decide +kernel⟩, List.mem_of_getElem? (i := 784) (by decide +kernel), List.mem_of_getElem? (i := 1152) (by decide +kernel), List.mem_of_getElem? (i := 1153) (by decide +kernel)⟩
theorem lw_p69 : lw_okq (⟨"MagnetPoemsModel", "putAside", "()V"⟩, 17) := ⟨⟨by decide +kernel, by decide +kernel⟩, List.mem_of_getElem? (i := 784) (by decide +kernel), List.mem_of_getElem? (i := 1156) (by decide +kernel), List.mem_of_getElem? (i := 1157) (by decide +kernel)⟩
theorem lw_p70 : lw_okq (⟨"MagnetPoemsModel", "putBack", "()V"⟩, 17) := ⟨⟨by decide +kernel, by decide +kernel⟩, List.mem_of_getElem? (i := 784) (by decide +kernel), List.mem_of_getElem? (i := 1160) (by decide +kernel), List.mem_of_getElem? (i := 1161) (by decide +kernel)⟩
theorem lw_p71 : lw_okq (⟨"MagnetPoemsModel", "worthBehind", "(II)I"⟩, 17) := ⟨⟨by decide +kernel, by decide +kernel⟩, List.mem_of_getElem? (i := 784) (by decide +kernel), List.mem_of_getElem? (i := 1172) (by decide +kernel), List.mem_of_getElem? (i := 1173) (by decide +kernel)⟩
theorem lw_p72 : lw_okq (⟨"MagnetPoemsModel", "share", "()D"⟩, 17) := ⟨⟨by decide +kernel, by decide +kernel⟩, List.mem_of_getElem? (i := 784) (by decide +kernel), List.mem_of_getElem? (i := 1180) (by decide +kernel), List.mem_of_getElem? (i := 1181) (by decide +kernel)⟩
theorem lw_p73 : lw_okq (⟨"MagnetPoemsModel", "mix", "(J)V"⟩, 17) := ⟨⟨by decide +kernel, by decide +kernel⟩, List.mem_of_getElem? (i := 784) (by decide +kernel), List.mem_of_getElem? (i := 1190) (by decide +kernel), List.mem_of_getElem? (i := 1191) (by decide +kernel)⟩
theorem lw_p74 : lw_okq (⟨"MagnetPoemsModel", "mixDoor", "(I)V"⟩, 17) := ⟨⟨by decide +kernel, by decide +kernel⟩, List.mem_of_getElem? (i := 784) (by decide +kernel), List.mem_of_getElem? (i := 1195) (by decide +kernel), List.mem_of_getElem? (i := 1196) (by decide +kernel)⟩
theorem lw_p75 : lw_okq (⟨"MagnetPoemsModel", "mixLine", "(I)V"⟩, 17) := ⟨⟨by decide +kernel, by decide +kernel⟩, List.mem_of_getElem? (i := 784) (by decide +kernel), List.mem_of_getElem? (i := 1199) (by decide +kernel), List.mem_of_getElem? (i := 1200) (by decide +kernel)⟩
def lw_privs_5 : List (MethodName × Nat) := [(⟨"MagnetPoemsModel", "stolenInAll", "()I"⟩, 17), (⟨"MagnetPoemsModel", "lentNow", "()I"⟩, 17), (⟨"MagnetPoemsModel", "allWorth", "()I"⟩, 17), (⟨"MagnetPoemsModel", "bestFor", "(I)I"⟩, 17), (⟨"MagnetPoemsModel", "worthWith", "(II)I"⟩, 17), (⟨"MagnetPoemsModel", "putAside", "()V"⟩, 17), (⟨"MagnetPoemsModel", "putBack", "()V"⟩, 17), (⟨"MagnetPoemsModel", "worthBehind", "(II)I"⟩, 17), (⟨"MagnetPoemsModel", "share", "()D"⟩, 17), (⟨"MagnetPoemsModel", "mix", "(J)V"⟩, 17), (⟨"MagnetPoemsModel", "mixDoor", "(I)V"⟩, 17), (⟨"MagnetPoemsModel", "mixLine", "(I)V"⟩, 17)]
theorem lw_r5 : ∀ q ∈ lw_privs_5, lw_okq q := List.forall_mem_cons.mpr ⟨lw_p64, List.forall_mem_cons.mpr ⟨lw_p65, List.forall_mem_cons.mpr ⟨lw_p66, List.forall_mem_cons.mpr ⟨lw_p67, List.forall_mem_cons.mpr ⟨lw_p68, List.forall_mem_cons.mpr ⟨lw_p69, List.forall_mem_cons.mpr ⟨lw_p70, List.forall_mem_cons.mpr ⟨lw_p71, List.forall_mem_cons.mpr ⟨lw_p72, List.forall_mem_cons.mpr ⟨lw_p73, List.forall_mem_cons.mpr ⟨lw_p74, List.forall_mem_cons.mpr ⟨lw_p75, fun _ h => absurd h List.not_mem_nil⟩⟩⟩⟩⟩⟩⟩⟩⟩⟩⟩⟩
def lw_privs : List (MethodName × Nat) := lw_privs_1 ++ (lw_privs_2 ++ (lw_privs_3 ++ (lw_privs_4 ++ (lw_privs_5))))
def lw_tbl : List Cond := k2_sels lw_privs ++ tables_1
theorem lw_privs_ok : ∀ q ∈ lw_privs, lw_okq q := by
  show ∀ q ∈ lw_privs_1 ++ (lw_privs_2 ++ (lw_privs_3 ++ (lw_privs_4 ++ (lw_privs_5)))), lw_okq q
  exact List.forall_mem_append.mpr ⟨lw_r1, List.forall_mem_append.mpr ⟨lw_r2, List.forall_mem_append.mpr ⟨lw_r3, List.forall_mem_append.mpr ⟨lw_r4, lw_r5⟩⟩⟩⟩
/-- the streams that the claim lets the run draw from -/
abbrev lw_cs : List Choice := [Jvm.Choice.named "NaN.bits"]
theorem lw_bits : nanBits ∈ lw_cs := by first | decide | exact List.mem_cons_self | simp [lw_cs, nanBits]
-- ===== end of PART A; then your names; then what follows =====
def RX0 : String := "MagnetPoems$Board"
def TX0 : u_T := fun k => match k with
  | 0 => ("MagnetPoems$Board", "homes", "[I", true)
  | 1 => ("MagnetPoems$Board", "words", "[I", true)
  | 2 => ("MagnetPoems$Board", "sizes", "[I", true)
  | 3 => ("MagnetPoems$Board", "lenders", "[I", true)
  | 4 => ("MagnetPoems$Board", "borrowers", "[I", true)
  | 5 => ("MagnetPoems$Board", "thefts", "[I", true)
  | 6 => ("MagnetPoems$Board", "watches", "[I", true)
  | 7 => ("MagnetPoems$Board", "losses", "[I", true)
  | 8 => ("MagnetPoems$Board", "settings", "[I", true)
  | 9 => ("MagnetPoems$Board", "nights", "I", false)
  | 10 => ("MagnetPoems$Board", "stolen", "I", false)
  | 11 => ("MagnetPoems$Board", "shown", "I", false)
  | _ => ("MagnetPoems$Board", "refused", "I", false)
def tyX0 : Nat → FieldType := fun k => match k with
  | 0 => .array .int
  | 1 => .array .int
  | 2 => .array .int
  | 3 => .array .int
  | 4 => .array .int
  | 5 => .array .int
  | 6 => .array .int
  | 7 => .array .int
  | 8 => .array .int
  | 9 => .int
  | 10 => .int
  | 11 => .int
  | _ => .int
abbrev wsX00 : List Cond := u_ws RX0 TX0 13
theorem nmX0 : ∀ a, a < 13 → ∀ b, b < 13 → a ≠ b → (TX0 a).2.1 ≠ (TX0 b).2.1 := by decide +kernel
theorem tyX0_ok : ∀ k, k < 13 → parseFieldDescriptor (TX0 k).2.2.1 = some (tyX0 k) := by decide +kernel
abbrev cX0_init : ByteArray := prog_2_method_1_code
def yX0_init : MethodName := ⟨RX0, "<init>", "()V"⟩
abbrev cX0_copyFrom : ByteArray := prog_2_method_2_code
def yX0_copyFrom : MethodName := ⟨RX0, "copyFrom", "(LMagnetPoems$Board;)V"⟩
abbrev cX0_homeOf : ByteArray := prog_2_method_3_code
def yX0_homeOf : MethodName := ⟨RX0, "homeOf", "(I)I"⟩
abbrev cX0_isInBag : ByteArray := prog_2_method_4_code
def yX0_isInBag : MethodName := ⟨RX0, "isInBag", "(I)Z"⟩
abbrev cX0_sizeOf : ByteArray := prog_2_method_5_code
def yX0_sizeOf : MethodName := ⟨RX0, "sizeOf", "(I)I"⟩
abbrev cX0_wordAt : ByteArray := prog_2_method_6_code
def yX0_wordAt : MethodName := ⟨RX0, "wordAt", "(II)I"⟩
abbrev cX0_setWordAt : ByteArray := prog_2_method_7_code
def yX0_setWordAt : MethodName := ⟨RX0, "setWordAt", "(III)V"⟩
abbrev cX0_placeOf : ByteArray := prog_2_method_8_code
def yX0_placeOf : MethodName := ⟨RX0, "placeOf", "(I)I"⟩
abbrev cX0_bagToldByWords : ByteArray := prog_2_method_9_code
def yX0_bagToldByWords : MethodName := ⟨RX0, "bagToldByWords", "()I"⟩
abbrev cX0_bagToldByLines : ByteArray := prog_2_method_10_code
def yX0_bagToldByLines : MethodName := ⟨RX0, "bagToldByLines", "()I"⟩
abbrev cX0_wordsOfDoor : ByteArray := prog_2_method_11_code
def yX0_wordsOfDoor : MethodName := ⟨RX0, "wordsOfDoor", "(I)I"⟩
abbrev cX0_insertWord : ByteArray := prog_2_method_12_code
def yX0_insertWord : MethodName := ⟨RX0, "insertWord", "(III)V"⟩
abbrev cX0_removeWord : ByteArray := prog_2_method_13_code
def yX0_removeWord : MethodName := ⟨RX0, "removeWord", "(I)V"⟩
abbrev cX0_emptyDoor : ByteArray := prog_2_method_14_code
def yX0_emptyDoor : MethodName := ⟨RX0, "emptyDoor", "(I)I"⟩
abbrev cX0_refusal : ByteArray := prog_2_method_15_code
def yX0_refusal : MethodName := ⟨RX0, "refusal", "(III)I"⟩
abbrev cX0_wouldClash : ByteArray := prog_2_method_16_code
def yX0_wouldClash : MethodName := ⟨RX0, "wouldClash", "(III)Z"⟩
abbrev cX0_clashes : ByteArray := prog_2_method_17_code
def yX0_clashes : MethodName := ⟨RX0, "clashes", "(I)Z"⟩
abbrev cX0_beatsOn : ByteArray := prog_2_method_18_code
def yX0_beatsOn : MethodName := ⟨RX0, "beatsOn", "(I)I"⟩
abbrev cX0_worthOfLine : ByteArray := prog_2_method_19_code
def yX0_worthOfLine : MethodName := ⟨RX0, "worthOfLine", "(II)I"⟩
abbrev cX0_endingOn : ByteArray := prog_2_method_20_code
def yX0_endingOn : MethodName := ⟨RX0, "endingOn", "(I)I"⟩
abbrev cX0_rhymesOf : ByteArray := prog_2_method_21_code
def yX0_rhymesOf : MethodName := ⟨RX0, "rhymesOf", "(II)I"⟩
abbrev cX0_rhymesOfDoor : ByteArray := prog_2_method_22_code
def yX0_rhymesOfDoor : MethodName := ⟨RX0, "rhymesOfDoor", "(I)I"⟩
abbrev cX0_worthOfDoor : ByteArray := prog_2_method_23_code
def yX0_worthOfDoor : MethodName := ⟨RX0, "worthOfDoor", "(I)I"⟩
abbrev cX0_worthOfAll : ByteArray := prog_2_method_24_code
def yX0_worthOfAll : MethodName := ⟨RX0, "worthOfAll", "()I"⟩
abbrev cX0_bestWordFor : ByteArray := prog_2_method_25_code
def yX0_bestWordFor : MethodName := ⟨RX0, "bestWordFor", "(I)I"⟩
abbrev cX0_borrows : ByteArray := prog_2_method_26_code
def yX0_borrows : MethodName := ⟨RX0, "borrows", "(I)Z"⟩
abbrev cX0_isFreeForLoan : ByteArray := prog_2_method_27_code
def yX0_isFreeForLoan : MethodName := ⟨RX0, "isFreeForLoan", "(I)Z"⟩
abbrev cX0_loans : ByteArray := prog_2_method_28_code
def yX0_loans : MethodName := ⟨RX0, "loans", "()I"⟩
abbrev cX0_startLoan : ByteArray := prog_2_method_29_code
def yX0_startLoan : MethodName := ⟨RX0, "startLoan", "(II)V"⟩
abbrev cX0_endLoan : ByteArray := prog_2_method_30_code
def yX0_endLoan : MethodName := ⟨RX0, "endLoan", "(I)V"⟩
abbrev cX0_endLoansOf : ByteArray := prog_2_method_31_code
def yX0_endLoansOf : MethodName := ⟨RX0, "endLoansOf", "(IZ)V"⟩
abbrev cX0_passNights : ByteArray := prog_2_method_32_code
def yX0_passNights : MethodName := ⟨RX0, "passNights", "(I)I"⟩
abbrev cX0_nextPrey : ByteArray := prog_2_method_33_code
def yX0_nextPrey : MethodName := ⟨RX0, "nextPrey", "()I"⟩
abbrev cX0_doorOfThief : ByteArray := prog_2_method_34_code
def yX0_doorOfThief : MethodName := ⟨RX0, "doorOfThief", "()I"⟩
abbrev cX0_preyOn : ByteArray := prog_2_method_35_code
def yX0_preyOn : MethodName := ⟨RX0, "preyOn", "(I)I"⟩
abbrev cX0_watchOneNightFewer : ByteArray := prog_2_method_36_code
def yX0_watchOneNightFewer : MethodName := ⟨RX0, "watchOneNightFewer", "()V"⟩
abbrev cX0_steal : ByteArray := prog_2_method_37_code
def yX0_steal : MethodName := ⟨RX0, "steal", "(II)V"⟩
abbrev cX0_settingValue : ByteArray := prog_2_method_38_code
def yX0_settingValue : MethodName := ⟨RX0, "settingValue", "(I)I"⟩
abbrev cX0_changeSetting : ByteArray := prog_2_method_39_code
def yX0_changeSetting : MethodName := ⟨RX0, "changeSetting", "(II)V"⟩
abbrev cX0_wordProperty : ByteArray := prog_2_method_40_code
def yX0_wordProperty : MethodName := ⟨RX0, "wordProperty", "(II)I"⟩
abbrev cX0_lineProperty : ByteArray := prog_2_method_41_code
def yX0_lineProperty : MethodName := ⟨RX0, "lineProperty", "(II)I"⟩
abbrev cX0_doorProperty : ByteArray := prog_2_method_42_code
def yX0_doorProperty : MethodName := ⟨RX0, "doorProperty", "(II)I"⟩
def RX1 : String := "MagnetPoems$History"
def TX1 : u_T := fun k => match k with
  | 0 => ("MagnetPoems$History", "states", "[LMagnetPoems$Board;", true)
  | 1 => ("MagnetPoems$History", "oldest", "I", false)
  | _ => ("MagnetPoems$History", "size", "I", false)
def tyX1 : Nat → FieldType := fun k => match k with
  | 0 => .array (.object "MagnetPoems$Board")
  | 1 => .int
  | _ => .int
abbrev wsX10 : List Cond := u_ws RX1 TX1 3
theorem nmX1 : ∀ a, a < 3 → ∀ b, b < 3 → a ≠ b → (TX1 a).2.1 ≠ (TX1 b).2.1 := by decide +kernel
theorem tyX1_ok : ∀ k, k < 3 → parseFieldDescriptor (TX1 k).2.2.1 = some (tyX1 k) := by decide +kernel
abbrev cX1_init : ByteArray := prog_3_method_1_code
def yX1_init : MethodName := ⟨RX1, "<init>", "()V"⟩
abbrev cX1_save : ByteArray := prog_3_method_2_code
def yX1_save : MethodName := ⟨RX1, "save", "(LMagnetPoems$Board;)V"⟩
abbrev cX1_restore : ByteArray := prog_3_method_3_code
def yX1_restore : MethodName := ⟨RX1, "restore", "(LMagnetPoems$Board;)V"⟩
abbrev cX1_stateAt : ByteArray := prog_3_method_4_code
def yX1_stateAt : MethodName := ⟨RX1, "stateAt", "(I)LMagnetPoems$Board;"⟩
def RX2 : String := "MagnetPoems$PoemReader"
def TX2 : u_T := fun k => match k with
  | 0 => ("MagnetPoems$PoemReader", "told", "[Z", true)
  | 1 => ("MagnetPoems$PoemReader", "words", "[I", true)
  | 2 => ("MagnetPoems$PoemReader", "lines", "[I", true)
  | 3 => ("MagnetPoems$PoemReader", "found", "I", false)
  | 4 => ("MagnetPoems$PoemReader", "line", "I", false)
  | 5 => ("MagnetPoems$PoemReader", "wordsOnLine", "I", false)
  | _ => ("MagnetPoems$PoemReader", "number", "I", false)
def tyX2 : Nat → FieldType := fun k => match k with
  | 0 => .array .boolean
  | 1 => .array .int
  | 2 => .array .int
  | 3 => .int
  | 4 => .int
  | 5 => .int
  | _ => .int
abbrev wsX20 : List Cond := u_ws RX2 TX2 7
theorem nmX2 : ∀ a, a < 7 → ∀ b, b < 7 → a ≠ b → (TX2 a).2.1 ≠ (TX2 b).2.1 := by decide +kernel
theorem tyX2_ok : ∀ k, k < 7 → parseFieldDescriptor (TX2 k).2.2.1 = some (tyX2 k) := by decide +kernel
abbrev cX2_init : ByteArray := prog_4_method_1_code
def yX2_init : MethodName := ⟨RX2, "<init>", "()V"⟩
abbrev cX2_restart : ByteArray := prog_4_method_2_code
def yX2_restart : MethodName := ⟨RX2, "restart", "()V"⟩
abbrev cX2_wordTold : ByteArray := prog_4_method_3_code
def yX2_wordTold : MethodName := ⟨RX2, "wordTold", "(I)I"⟩
abbrev cX2_lineTold : ByteArray := prog_4_method_4_code
def yX2_lineTold : MethodName := ⟨RX2, "lineTold", "(I)I"⟩
abbrev cX2_takes : ByteArray := prog_4_method_5_code
def yX2_takes : MethodName := ⟨RX2, "takes", "(I)Z"⟩
abbrev cX2_closesNumber : ByteArray := prog_4_method_6_code
def yX2_closesNumber : MethodName := ⟨RX2, "closesNumber", "()Z"⟩
abbrev cX2_takesDigit : ByteArray := prog_4_method_7_code
def yX2_takesDigit : MethodName := ⟨RX2, "takesDigit", "(I)Z"⟩
abbrev cX2_canBegin : ByteArray := prog_4_method_8_code
def yX2_canBegin : MethodName := ⟨RX2, "canBegin", "(I)Z"⟩
abbrev cX2_isFree : ByteArray := prog_4_method_9_code
def yX2_isFree : MethodName := ⟨RX2, "isFree", "(I)Z"⟩
abbrev cX2_setTold : ByteArray := prog_4_method_10_code
def yX2_setTold : MethodName := ⟨RX2, "setTold", "(I)V"⟩
def RX3 : String := "MagnetPoems"
def TX3 : u_T := fun k => match k with
  | 0 => ("MagnetPoems", "board", "LMagnetPoems$Board;", true)
  | 1 => ("MagnetPoems", "dream", "LMagnetPoems$Board;", true)
  | 2 => ("MagnetPoems", "history", "LMagnetPoems$History;", true)
  | 3 => ("MagnetPoems", "slots", "[LMagnetPoems$Board;", true)
  | 4 => ("MagnetPoems", "kept", "[Z", true)
  | 5 => ("MagnetPoems", "buffer", "[I", true)
  | 6 => ("MagnetPoems", "bufferLength", "I", false)
  | _ => ("MagnetPoems", "reader", "LMagnetPoems$PoemReader;", true)
def tyX3 : Nat → FieldType := fun k => match k with
  | 0 => .object "MagnetPoems$Board"
  | 1 => .object "MagnetPoems$Board"
  | 2 => .object "MagnetPoems$History"
  | 3 => .array (.object "MagnetPoems$Board")
  | 4 => .array .boolean
  | 5 => .array .int
  | 6 => .int
  | _ => .object "MagnetPoems$PoemReader"
abbrev wsX30 : List Cond := u_ws RX3 TX3 8
theorem nmX3 : ∀ a, a < 8 → ∀ b, b < 8 → a ≠ b → (TX3 a).2.1 ≠ (TX3 b).2.1 := by decide +kernel
theorem tyX3_ok : ∀ k, k < 8 → parseFieldDescriptor (TX3 k).2.2.1 = some (tyX3 k) := by decide +kernel
abbrev cX3_init : ByteArray := prog_1_method_1_code
def yX3_init : MethodName := ⟨RX3, "<init>", "()V"⟩
abbrev cX3_put : ByteArray := prog_1_method_2_code
def yX3_put : MethodName := ⟨RX3, "put", "(IIII)I"⟩
abbrev cX3_takeOff : ByteArray := prog_1_method_3_code
def yX3_takeOff : MethodName := ⟨RX3, "takeOff", "(I)I"⟩
abbrev cX3_move : ByteArray := prog_1_method_4_code
def yX3_move : MethodName := ⟨RX3, "move", "(III)I"⟩
abbrev cX3_clearDoor : ByteArray := prog_1_method_5_code
def yX3_clearDoor : MethodName := ⟨RX3, "clearDoor", "(I)I"⟩
abbrev cX3_borrow : ByteArray := prog_1_method_6_code
def yX3_borrow : MethodName := ⟨RX3, "borrow", "(IIII)I"⟩
abbrev cX3_bringBack : ByteArray := prog_1_method_7_code
def yX3_bringBack : MethodName := ⟨RX3, "bringBack", "(II)I"⟩
abbrev cX3_sleep : ByteArray := prog_1_method_8_code
def yX3_sleep : MethodName := ⟨RX3, "sleep", "(I)I"⟩
abbrev cX3_set : ByteArray := prog_1_method_9_code
def yX3_set : MethodName := ⟨RX3, "set", "(II)I"⟩
abbrev cX3_append : ByteArray := prog_1_method_10_code
def yX3_append : MethodName := ⟨RX3, "append", "(I)I"⟩
abbrev cX3_clearBuffer : ByteArray := prog_1_method_11_code
def yX3_clearBuffer : MethodName := ⟨RX3, "clearBuffer", "()I"⟩
abbrev cX3_firstError : ByteArray := prog_1_method_12_code
def yX3_firstError : MethodName := ⟨RX3, "firstError", "()I"⟩
abbrev cX3_load : ByteArray := prog_1_method_13_code
def yX3_load : MethodName := ⟨RX3, "load", "(I)I"⟩
abbrev cX3_write : ByteArray := prog_1_method_14_code
def yX3_write : MethodName := ⟨RX3, "write", "(I)I"⟩
abbrev cX3_keep : ByteArray := prog_1_method_15_code
def yX3_keep : MethodName := ⟨RX3, "keep", "(I)I"⟩
abbrev cX3_goBack : ByteArray := prog_1_method_16_code
def yX3_goBack : MethodName := ⟨RX3, "goBack", "(I)I"⟩
abbrev cX3_undo : ByteArray := prog_1_method_17_code
def yX3_undo : MethodName := ⟨RX3, "undo", "()I"⟩
abbrev cX3_wordOf : ByteArray := prog_1_method_18_code
def yX3_wordOf : MethodName := ⟨RX3, "wordOf", "(II)I"⟩
abbrev cX3_at : ByteArray := prog_1_method_19_code
def yX3_at : MethodName := ⟨RX3, "at", "(III)I"⟩
abbrev cX3_lineOf : ByteArray := prog_1_method_20_code
def yX3_lineOf : MethodName := ⟨RX3, "lineOf", "(III)I"⟩
abbrev cX3_doorOf : ByteArray := prog_1_method_21_code
def yX3_doorOf : MethodName := ⟨RX3, "doorOf", "(II)I"⟩
abbrev cX3_count : ByteArray := prog_1_method_22_code
def yX3_count : MethodName := ⟨RX3, "count", "(I)I"⟩
abbrev cX3_setting : ByteArray := prog_1_method_23_code
def yX3_setting : MethodName := ⟨RX3, "setting", "(I)I"⟩
abbrev cX3_whyNot : ByteArray := prog_1_method_24_code
def yX3_whyNot : MethodName := ⟨RX3, "whyNot", "(IIII)I"⟩
abbrev cX3_bestWord : ByteArray := prog_1_method_25_code
def yX3_bestWord : MethodName := ⟨RX3, "bestWord", "(II)I"⟩
abbrev cX3_prey : ByteArray := prog_1_method_26_code
def yX3_prey : MethodName := ⟨RX3, "prey", "()I"⟩
abbrev cX3_ifSlept : ByteArray := prog_1_method_27_code
def yX3_ifSlept : MethodName := ⟨RX3, "ifSlept", "(II)I"⟩
abbrev cX3_shownShare : ByteArray := prog_1_method_28_code
def yX3_shownShare : MethodName := ⟨RX3, "shownShare", "()D"⟩
abbrev cX3_digest : ByteArray := prog_1_method_29_code
def yX3_digest : MethodName := ⟨RX3, "digest", "()J"⟩
abbrev cX3_mix : ByteArray := prog_1_method_30_code
def yX3_mix : MethodName := ⟨RX3, "mix", "(JJ)J"⟩
abbrev cX3_mixDoor : ByteArray := prog_1_method_31_code
def yX3_mixDoor : MethodName := ⟨RX3, "mixDoor", "(JI)J"⟩
abbrev cX3_bitsOf : ByteArray := prog_1_method_32_code
def yX3_bitsOf : MethodName := ⟨RX3, "bitsOf", "(D)J"⟩
abbrev cX3_share : ByteArray := prog_1_method_33_code
def yX3_share : MethodName := ⟨RX3, "share", "()D"⟩
abbrev cX3_numberOf : ByteArray := prog_1_method_34_code
def yX3_numberOf : MethodName := ⟨RX3, "numberOf", "(I)I"⟩
abbrev cX3_addCode : ByteArray := prog_1_method_35_code
def yX3_addCode : MethodName := ⟨RX3, "addCode", "(I)V"⟩
abbrev cX3_readBuffer : ByteArray := prog_1_method_36_code
def yX3_readBuffer : MethodName := ⟨RX3, "readBuffer", "()I"⟩
abbrev cX3_putPoem : ByteArray := prog_1_method_37_code
def yX3_putPoem : MethodName := ⟨RX3, "putPoem", "(I)I"⟩
abbrev cX3_textLength : ByteArray := prog_1_method_38_code
def yX3_textLength : MethodName := ⟨RX3, "textLength", "(I)I"⟩
abbrev cX3_addLine : ByteArray := prog_1_method_39_code
def yX3_addLine : MethodName := ⟨RX3, "addLine", "(I)V"⟩
abbrev cX3_addNumber : ByteArray := prog_1_method_40_code
def yX3_addNumber : MethodName := ⟨RX3, "addNumber", "(I)V"⟩
abbrev cX3_isWord : ByteArray := prog_1_method_41_code
def yX3_isWord : MethodName := ⟨RX3, "isWord", "(I)Z"⟩
abbrev cX3_isDoor : ByteArray := prog_1_method_42_code
def yX3_isDoor : MethodName := ⟨RX3, "isDoor", "(I)Z"⟩
abbrev cX3_isLine : ByteArray := prog_1_method_43_code
def yX3_isLine : MethodName := ⟨RX3, "isLine", "(II)Z"⟩
abbrev cX3_isPlaceToPut : ByteArray := prog_1_method_44_code
def yX3_isPlaceToPut : MethodName := ⟨RX3, "isPlaceToPut", "(III)Z"⟩
abbrev cX3_isNights : ByteArray := prog_1_method_45_code
def yX3_isNights : MethodName := ⟨RX3, "isNights", "(I)Z"⟩
abbrev cX3_isSetting : ByteArray := prog_1_method_46_code
def yX3_isSetting : MethodName := ⟨RX3, "isSetting", "(I)Z"⟩
abbrev cX3_isSlot : ByteArray := prog_1_method_47_code
def yX3_isSlot : MethodName := ⟨RX3, "isSlot", "(I)Z"⟩
abbrev cX3_greatestOf : ByteArray := prog_1_method_48_code
def yX3_greatestOf : MethodName := ⟨RX3, "greatestOf", "(I)I"⟩
abbrev cX3_kindOf : ByteArray := prog_1_method_49_code
def yX3_kindOf : MethodName := ⟨RX3, "kindOf", "(I)I"⟩
abbrev cX3_endingOf : ByteArray := prog_1_method_50_code
def yX3_endingOf : MethodName := ⟨RX3, "endingOf", "(I)I"⟩
abbrev cX3_beatsOf : ByteArray := prog_1_method_51_code
def yX3_beatsOf : MethodName := ⟨RX3, "beatsOf", "(I)I"⟩
abbrev cX3_clash : ByteArray := prog_1_method_52_code
def yX3_clash : MethodName := ⟨RX3, "clash", "(II)Z"⟩
abbrev cX3_lineNumber : ByteArray := prog_1_method_53_code
def yX3_lineNumber : MethodName := ⟨RX3, "lineNumber", "(II)I"⟩
abbrev cX3_lineCode : ByteArray := prog_1_method_54_code
def yX3_lineCode : MethodName := ⟨RX3, "lineCode", "(I)I"⟩
abbrev cX3_cell : ByteArray := prog_1_method_55_code
def yX3_cell : MethodName := ⟨RX3, "cell", "([II)I"⟩
abbrev cX3_setCell : ByteArray := prog_1_method_56_code
def yX3_setCell : MethodName := ⟨RX3, "setCell", "([III)V"⟩
abbrev cX3_copyRow : ByteArray := prog_1_method_57_code
def yX3_copyRow : MethodName := ⟨RX3, "copyRow", "([I[I)V"⟩
abbrev cX3_fillRow : ByteArray := prog_1_method_58_code
def yX3_fillRow : MethodName := ⟨RX3, "fillRow", "([II)V"⟩
def RX4 : String := "MagnetPoemsModel"
def TX4 : u_T := fun k => match k with
  | 0 => ("MagnetPoemsModel", "row", "[I", true)
  | 1 => ("MagnetPoemsModel", "saved", "[I", true)
  | 2 => ("MagnetPoemsModel", "savedMany", "I", false)
  | 3 => ("MagnetPoemsModel", "slots", "[I", true)
  | 4 => ("MagnetPoemsModel", "filled", "[Z", true)
  | 5 => ("MagnetPoemsModel", "aside", "[I", true)
  | 6 => ("MagnetPoemsModel", "buffer", "[I", true)
  | 7 => ("MagnetPoemsModel", "length", "I", false)
  | 8 => ("MagnetPoemsModel", "thrown", "I", false)
  | 9 => ("MagnetPoemsModel", "spot", "I", false)
  | 10 => ("MagnetPoemsModel", "stood", "J", false)
  | 11 => ("MagnetPoemsModel", "poemMany", "I", false)
  | 12 => ("MagnetPoemsModel", "poemWord", "[I", true)
  | 13 => ("MagnetPoemsModel", "poemLine", "[I", true)
  | 14 => ("MagnetPoemsModel", "draft", "[I", true)
  | 15 => ("MagnetPoemsModel", "drafted", "I", false)
  | _ => ("MagnetPoemsModel", "hash", "J", false)
def tyX4 : Nat → FieldType := fun k => match k with
  | 0 => .array .int
  | 1 => .array .int
  | 2 => .int
  | 3 => .array .int
  | 4 => .array .boolean
  | 5 => .array .int
  | 6 => .array .int
  | 7 => .int
  | 8 => .int
  | 9 => .int
  | 10 => .long
  | 11 => .int
  | 12 => .array .int
  | 13 => .array .int
  | 14 => .array .int
  | 15 => .int
  | _ => .long
abbrev wsX40 : List Cond := u_ws RX4 TX4 17
theorem nmX4 : ∀ a, a < 17 → ∀ b, b < 17 → a ≠ b → (TX4 a).2.1 ≠ (TX4 b).2.1 := by decide +kernel
theorem tyX4_ok : ∀ k, k < 17 → parseFieldDescriptor (TX4 k).2.2.1 = some (tyX4 k) := by decide +kernel
abbrev cX4_init : ByteArray := prog_6_method_1_code
def yX4_init : MethodName := ⟨RX4, "<init>", "()V"⟩
abbrev cX4_thrown : ByteArray := prog_6_method_2_code
def yX4_thrown : MethodName := ⟨RX4, "thrown", "()I"⟩
abbrev cX4_fails : ByteArray := prog_6_method_3_code
def yX4_fails : MethodName := ⟨RX4, "fails", "(I)I"⟩
abbrev cX4_in : ByteArray := prog_6_method_4_code
def yX4_in : MethodName := ⟨RX4, "in", "(III)Z"⟩
abbrev cX4_isWord : ByteArray := prog_6_method_5_code
def yX4_isWord : MethodName := ⟨RX4, "isWord", "(I)Z"⟩
abbrev cX4_isDoor : ByteArray := prog_6_method_6_code
def yX4_isDoor : MethodName := ⟨RX4, "isDoor", "(I)Z"⟩
abbrev cX4_isLine : ByteArray := prog_6_method_7_code
def yX4_isLine : MethodName := ⟨RX4, "isLine", "(II)Z"⟩
abbrev cX4_save : ByteArray := prog_6_method_8_code
def yX4_save : MethodName := ⟨RX4, "save", "()V"⟩
abbrev cX4_putAside : ByteArray := prog_6_method_9_code
def yX4_putAside : MethodName := ⟨RX4, "putAside", "()V"⟩
abbrev cX4_putBack : ByteArray := prog_6_method_10_code
def yX4_putBack : MethodName := ⟨RX4, "putBack", "()V"⟩
abbrev cX4_kindOf : ByteArray := prog_6_method_11_code
def yX4_kindOf : MethodName := ⟨RX4, "kindOf", "(I)I"⟩
abbrev cX4_endingOf : ByteArray := prog_6_method_12_code
def yX4_endingOf : MethodName := ⟨RX4, "endingOf", "(I)I"⟩
abbrev cX4_beatsOf : ByteArray := prog_6_method_13_code
def yX4_beatsOf : MethodName := ⟨RX4, "beatsOf", "(I)I"⟩
abbrev cX4_wordAt : ByteArray := prog_6_method_14_code
def yX4_wordAt : MethodName := ⟨RX4, "wordAt", "(II)I"⟩
abbrev cX4_lastOf : ByteArray := prog_6_method_15_code
def yX4_lastOf : MethodName := ⟨RX4, "lastOf", "(I)I"⟩
abbrev cX4_lineOfWord : ByteArray := prog_6_method_16_code
def yX4_lineOfWord : MethodName := ⟨RX4, "lineOfWord", "(I)I"⟩
abbrev cX4_placeOfWord : ByteArray := prog_6_method_17_code
def yX4_placeOfWord : MethodName := ⟨RX4, "placeOfWord", "(I)I"⟩
abbrev cX4_inBag : ByteArray := prog_6_method_18_code
def yX4_inBag : MethodName := ⟨RX4, "inBag", "()I"⟩
abbrev cX4_endLoans : ByteArray := prog_6_method_19_code
def yX4_endLoans : MethodName := ⟨RX4, "endLoans", "(II)V"⟩
abbrev cX4_insert : ByteArray := prog_6_method_20_code
def yX4_insert : MethodName := ⟨RX4, "insert", "(III)V"⟩
abbrev cX4_removeAt : ByteArray := prog_6_method_21_code
def yX4_removeAt : MethodName := ⟨RX4, "removeAt", "(II)V"⟩
abbrev cX4_emptyDoor : ByteArray := prog_6_method_22_code
def yX4_emptyDoor : MethodName := ⟨RX4, "emptyDoor", "(I)I"⟩
abbrev cX4_beatsOn : ByteArray := prog_6_method_23_code
def yX4_beatsOn : MethodName := ⟨RX4, "beatsOn", "(I)I"⟩
abbrev cX4_wordWith : ByteArray := prog_6_method_24_code
def yX4_wordWith : MethodName := ⟨RX4, "wordWith", "(IIII)I"⟩
abbrev cX4_clash : ByteArray := prog_6_method_25_code
def yX4_clash : MethodName := ⟨RX4, "clash", "(II)Z"⟩
abbrev cX4_reason : ByteArray := prog_6_method_26_code
def yX4_reason : MethodName := ⟨RX4, "reason", "(III)I"⟩
abbrev cX4_hasKind : ByteArray := prog_6_method_27_code
def yX4_hasKind : MethodName := ⟨RX4, "hasKind", "(II)Z"⟩
abbrev cX4_lineWorth : ByteArray := prog_6_method_28_code
def yX4_lineWorth : MethodName := ⟨RX4, "lineWorth", "(I)I"⟩
abbrev cX4_lineEnding : ByteArray := prog_6_method_29_code
def yX4_lineEnding : MethodName := ⟨RX4, "lineEnding", "(I)I"⟩
abbrev cX4_rhymes : ByteArray := prog_6_method_30_code
def yX4_rhymes : MethodName := ⟨RX4, "rhymes", "(I)I"⟩
abbrev cX4_pairs : ByteArray := prog_6_method_31_code
def yX4_pairs : MethodName := ⟨RX4, "pairs", "(I)I"⟩
abbrev cX4_doorWorth : ByteArray := prog_6_method_32_code
def yX4_doorWorth : MethodName := ⟨RX4, "doorWorth", "(I)I"⟩
abbrev cX4_doorWords : ByteArray := prog_6_method_33_code
def yX4_doorWords : MethodName := ⟨RX4, "doorWords", "(I)I"⟩
abbrev cX4_borrowerOf : ByteArray := prog_6_method_34_code
def yX4_borrowerOf : MethodName := ⟨RX4, "borrowerOf", "(I)I"⟩
abbrev cX4_target : ByteArray := prog_6_method_35_code
def yX4_target : MethodName := ⟨RX4, "target", "()I"⟩
abbrev cX4_preyOn : ByteArray := prog_6_method_36_code
def yX4_preyOn : MethodName := ⟨RX4, "preyOn", "(I)I"⟩
abbrev cX4_preyNow : ByteArray := prog_6_method_37_code
def yX4_preyNow : MethodName := ⟨RX4, "preyNow", "()I"⟩
abbrev cX4_night : ByteArray := prog_6_method_38_code
def yX4_night : MethodName := ⟨RX4, "night", "()I"⟩
abbrev cX4_nights : ByteArray := prog_6_method_39_code
def yX4_nights : MethodName := ⟨RX4, "nights", "(I)I"⟩
abbrev cX4_put : ByteArray := prog_6_method_40_code
def yX4_put : MethodName := ⟨RX4, "put", "(IIII)I"⟩
abbrev cX4_takeOff : ByteArray := prog_6_method_41_code
def yX4_takeOff : MethodName := ⟨RX4, "takeOff", "(I)I"⟩
abbrev cX4_move : ByteArray := prog_6_method_42_code
def yX4_move : MethodName := ⟨RX4, "move", "(III)I"⟩
abbrev cX4_clearDoor : ByteArray := prog_6_method_43_code
def yX4_clearDoor : MethodName := ⟨RX4, "clearDoor", "(I)I"⟩
abbrev cX4_canLend : ByteArray := prog_6_method_44_code
def yX4_canLend : MethodName := ⟨RX4, "canLend", "(I)Z"⟩
abbrev cX4_borrow : ByteArray := prog_6_method_45_code
def yX4_borrow : MethodName := ⟨RX4, "borrow", "(IIII)I"⟩
abbrev cX4_bringBack : ByteArray := prog_6_method_46_code
def yX4_bringBack : MethodName := ⟨RX4, "bringBack", "(II)I"⟩
abbrev cX4_sleep : ByteArray := prog_6_method_47_code
def yX4_sleep : MethodName := ⟨RX4, "sleep", "(I)I"⟩
abbrev cX4_mostOf : ByteArray := prog_6_method_48_code
def yX4_mostOf : MethodName := ⟨RX4, "mostOf", "(I)I"⟩
abbrev cX4_set : ByteArray := prog_6_method_49_code
def yX4_set : MethodName := ⟨RX4, "set", "(II)I"⟩
abbrev cX4_append : ByteArray := prog_6_method_50_code
def yX4_append : MethodName := ⟨RX4, "append", "(I)I"⟩
abbrev cX4_clearBuffer : ByteArray := prog_6_method_51_code
def yX4_clearBuffer : MethodName := ⟨RX4, "clearBuffer", "()I"⟩
abbrev cX4_hasStood : ByteArray := prog_6_method_52_code
def yX4_hasStood : MethodName := ⟨RX4, "hasStood", "(I)Z"⟩
abbrev cX4_digitAt : ByteArray := prog_6_method_53_code
def yX4_digitAt : MethodName := ⟨RX4, "digitAt", "(I)I"⟩
abbrev cX4_canBegin : ByteArray := prog_6_method_54_code
def yX4_canBegin : MethodName := ⟨RX4, "canBegin", "(I)Z"⟩
abbrev cX4_readNumber : ByteArray := prog_6_method_55_code
def yX4_readNumber : MethodName := ⟨RX4, "readNumber", "()I"⟩
abbrev cX4_readPoem : ByteArray := prog_6_method_56_code
def yX4_readPoem : MethodName := ⟨RX4, "readPoem", "()Z"⟩
abbrev cX4_firstError : ByteArray := prog_6_method_57_code
def yX4_firstError : MethodName := ⟨RX4, "firstError", "()I"⟩
abbrev cX4_load : ByteArray := prog_6_method_58_code
def yX4_load : MethodName := ⟨RX4, "load", "(I)I"⟩
abbrev cX4_draftSign : ByteArray := prog_6_method_59_code
def yX4_draftSign : MethodName := ⟨RX4, "draftSign", "(I)V"⟩
abbrev cX4_draftLine : ByteArray := prog_6_method_60_code
def yX4_draftLine : MethodName := ⟨RX4, "draftLine", "(I)V"⟩
abbrev cX4_write : ByteArray := prog_6_method_61_code
def yX4_write : MethodName := ⟨RX4, "write", "(I)I"⟩
abbrev cX4_keep : ByteArray := prog_6_method_62_code
def yX4_keep : MethodName := ⟨RX4, "keep", "(I)I"⟩
abbrev cX4_goBack : ByteArray := prog_6_method_63_code
def yX4_goBack : MethodName := ⟨RX4, "goBack", "(I)I"⟩
abbrev cX4_undo : ByteArray := prog_6_method_64_code
def yX4_undo : MethodName := ⟨RX4, "undo", "()I"⟩
abbrev cX4_wordProperty : ByteArray := prog_6_method_65_code
def yX4_wordProperty : MethodName := ⟨RX4, "wordProperty", "(II)I"⟩
abbrev cX4_wordOf : ByteArray := prog_6_method_66_code
def yX4_wordOf : MethodName := ⟨RX4, "wordOf", "(II)I"⟩
abbrev cX4_wordOrNone : ByteArray := prog_6_method_67_code
def yX4_wordOrNone : MethodName := ⟨RX4, "wordOrNone", "(II)I"⟩
abbrev cX4_at : ByteArray := prog_6_method_68_code
def yX4_at : MethodName := ⟨RX4, "at", "(III)I"⟩
abbrev cX4_told : ByteArray := prog_6_method_69_code
def yX4_told : MethodName := ⟨RX4, "told", "(I)I"⟩
abbrev cX4_isMixed : ByteArray := prog_6_method_70_code
def yX4_isMixed : MethodName := ⟨RX4, "isMixed", "(I)Z"⟩
abbrev cX4_lineProperty : ByteArray := prog_6_method_71_code
def yX4_lineProperty : MethodName := ⟨RX4, "lineProperty", "(II)I"⟩
abbrev cX4_lineOf : ByteArray := prog_6_method_72_code
def yX4_lineOf : MethodName := ⟨RX4, "lineOf", "(III)I"⟩
abbrev cX4_doorProperty : ByteArray := prog_6_method_73_code
def yX4_doorProperty : MethodName := ⟨RX4, "doorProperty", "(II)I"⟩
abbrev cX4_doorOf : ByteArray := prog_6_method_74_code
def yX4_doorOf : MethodName := ⟨RX4, "doorOf", "(II)I"⟩
abbrev cX4_stolenInAll : ByteArray := prog_6_method_75_code
def yX4_stolenInAll : MethodName := ⟨RX4, "stolenInAll", "()I"⟩
abbrev cX4_lentNow : ByteArray := prog_6_method_76_code
def yX4_lentNow : MethodName := ⟨RX4, "lentNow", "()I"⟩
abbrev cX4_allWorth : ByteArray := prog_6_method_77_code
def yX4_allWorth : MethodName := ⟨RX4, "allWorth", "()I"⟩
abbrev cX4_number : ByteArray := prog_6_method_78_code
def yX4_number : MethodName := ⟨RX4, "number", "(I)I"⟩
abbrev cX4_count : ByteArray := prog_6_method_79_code
def yX4_count : MethodName := ⟨RX4, "count", "(I)I"⟩
abbrev cX4_setting : ByteArray := prog_6_method_80_code
def yX4_setting : MethodName := ⟨RX4, "setting", "(I)I"⟩
abbrev cX4_whyNot : ByteArray := prog_6_method_81_code
def yX4_whyNot : MethodName := ⟨RX4, "whyNot", "(IIII)I"⟩
abbrev cX4_worthWith : ByteArray := prog_6_method_82_code
def yX4_worthWith : MethodName := ⟨RX4, "worthWith", "(II)I"⟩
abbrev cX4_bestFor : ByteArray := prog_6_method_83_code
def yX4_bestFor : MethodName := ⟨RX4, "bestFor", "(I)I"⟩
abbrev cX4_bestWord : ByteArray := prog_6_method_84_code
def yX4_bestWord : MethodName := ⟨RX4, "bestWord", "(II)I"⟩
abbrev cX4_prey : ByteArray := prog_6_method_85_code
def yX4_prey : MethodName := ⟨RX4, "prey", "()I"⟩
abbrev cX4_worthBehind : ByteArray := prog_6_method_86_code
def yX4_worthBehind : MethodName := ⟨RX4, "worthBehind", "(II)I"⟩
abbrev cX4_ifSlept : ByteArray := prog_6_method_87_code
def yX4_ifSlept : MethodName := ⟨RX4, "ifSlept", "(II)I"⟩
abbrev cX4_share : ByteArray := prog_6_method_88_code
def yX4_share : MethodName := ⟨RX4, "share", "()D"⟩
abbrev cX4_shownShare : ByteArray := prog_6_method_89_code
def yX4_shownShare : MethodName := ⟨RX4, "shownShare", "()D"⟩
abbrev cX4_mix : ByteArray := prog_6_method_90_code
def yX4_mix : MethodName := ⟨RX4, "mix", "(J)V"⟩
abbrev cX4_mixLine : ByteArray := prog_6_method_91_code
def yX4_mixLine : MethodName := ⟨RX4, "mixLine", "(I)V"⟩
abbrev cX4_mixDoor : ByteArray := prog_6_method_92_code
def yX4_mixDoor : MethodName := ⟨RX4, "mixDoor", "(I)V"⟩
abbrev cX4_digest : ByteArray := prog_6_method_93_code
def yX4_digest : MethodName := ⟨RX4, "digest", "()J"⟩
def RJxe99ae : String := "java/lang/Double"
abbrev cJxe99ae_isNaN_b9ae7 : ByteArray := prog_7_method_6_code
def yJxe99ae_isNaN_b9ae7 : MethodName := ⟨RJxe99ae, "isNaN", "(D)Z"⟩
abbrev cJxe99ae_doubleToLongBits_ccdee : ByteArray := prog_7_method_23_code
def yJxe99ae_doubleToLongBits_ccdee : MethodName := ⟨RJxe99ae, "doubleToLongBits", "(D)J"⟩
def RL : String := "MagnetPoemsLaw"
abbrev cL_put : ByteArray := method_3_code
def yL_put : MethodName := ⟨RL, "put", "(LMagnetPoems;IIII[J)I"⟩
abbrev cL_takeOff : ByteArray := method_4_code
def yL_takeOff : MethodName := ⟨RL, "takeOff", "(LMagnetPoems;I[J)I"⟩
abbrev cL_move : ByteArray := method_5_code
def yL_move : MethodName := ⟨RL, "move", "(LMagnetPoems;III[J)I"⟩
abbrev cL_clearDoor : ByteArray := method_6_code
def yL_clearDoor : MethodName := ⟨RL, "clearDoor", "(LMagnetPoems;I[J)I"⟩
abbrev cL_borrow : ByteArray := method_7_code
def yL_borrow : MethodName := ⟨RL, "borrow", "(LMagnetPoems;IIII[J)I"⟩
abbrev cL_bringBack : ByteArray := method_8_code
def yL_bringBack : MethodName := ⟨RL, "bringBack", "(LMagnetPoems;II[J)I"⟩
abbrev cL_sleep : ByteArray := method_9_code
def yL_sleep : MethodName := ⟨RL, "sleep", "(LMagnetPoems;I[J)I"⟩
abbrev cL_set : ByteArray := method_10_code
def yL_set : MethodName := ⟨RL, "set", "(LMagnetPoems;II[J)I"⟩
abbrev cL_append : ByteArray := method_11_code
def yL_append : MethodName := ⟨RL, "append", "(LMagnetPoems;I[J)I"⟩
abbrev cL_load : ByteArray := method_12_code
def yL_load : MethodName := ⟨RL, "load", "(LMagnetPoems;I[J)I"⟩
abbrev cL_write : ByteArray := method_13_code
def yL_write : MethodName := ⟨RL, "write", "(LMagnetPoems;I[J)I"⟩
abbrev cL_keep : ByteArray := method_14_code
def yL_keep : MethodName := ⟨RL, "keep", "(LMagnetPoems;I[J)I"⟩
abbrev cL_goBack : ByteArray := method_15_code
def yL_goBack : MethodName := ⟨RL, "goBack", "(LMagnetPoems;I[J)I"⟩
abbrev cL_undo : ByteArray := method_16_code
def yL_undo : MethodName := ⟨RL, "undo", "(LMagnetPoems;[J)I"⟩
abbrev cL_wordOf : ByteArray := method_17_code
def yL_wordOf : MethodName := ⟨RL, "wordOf", "(LMagnetPoems;II[J)I"⟩
abbrev cL_at : ByteArray := method_18_code
def yL_at : MethodName := ⟨RL, "at", "(LMagnetPoems;III[J)I"⟩
abbrev cL_lineOf : ByteArray := method_19_code
def yL_lineOf : MethodName := ⟨RL, "lineOf", "(LMagnetPoems;III[J)I"⟩
abbrev cL_doorOf : ByteArray := method_20_code
def yL_doorOf : MethodName := ⟨RL, "doorOf", "(LMagnetPoems;II[J)I"⟩
abbrev cL_count : ByteArray := method_21_code
def yL_count : MethodName := ⟨RL, "count", "(LMagnetPoems;I[J)I"⟩
abbrev cL_setting : ByteArray := method_22_code
def yL_setting : MethodName := ⟨RL, "setting", "(LMagnetPoems;I[J)I"⟩
abbrev cL_whyNot : ByteArray := method_23_code
def yL_whyNot : MethodName := ⟨RL, "whyNot", "(LMagnetPoems;IIII[J)I"⟩
abbrev cL_bestWord : ByteArray := method_24_code
def yL_bestWord : MethodName := ⟨RL, "bestWord", "(LMagnetPoems;II[J)I"⟩
abbrev cL_ifSlept : ByteArray := method_25_code
def yL_ifSlept : MethodName := ⟨RL, "ifSlept", "(LMagnetPoems;II[J)I"⟩
abbrev cL_law : ByteArray := code
def yL_law : MethodName := ⟨RL, "law", "([I)Z"⟩
abbrev vwCl : List vw_C := [(RX0, TX0, 13), (RX1, TX1, 3), (RX2, TX2, 7), (RX3, TX3, 8), (RX4, TX4, 17)]
end
section
/-! ===== BEGIN words of one list among another's, by their places ===== -/
theorem goodIn_r {big : List Cond} (ws : List Cond) (ps : List Nat) (hp : ws = ps.filterMap (fun i => big[i]?)) (h : ws.all goodWord = true) : GoodIn big ws := by
  intro w hw
  have h1 := List.all_eq_true.mp h w hw
  rw [hp] at hw
  obtain ⟨i, -, hi⟩ := List.mem_filterMap.mp hw
  have hm : w ∈ big := by first | exact List.mem_of_getElem? hi | exact List.getElem?_mem hi
  exact ⟨hm, good_of_word h1⟩
theorem goodIn_app {big a b : List Cond} (ha : GoodIn big a) (hb : GoodIn big b) : GoodIn big (a ++ b) := fun w h => (List.mem_append.mp h).elim (ha w) (hb w)
theorem goodIn_ca {big a b : List Cond} {c : Cond} (ha : GoodIn big (c :: a)) (hb : GoodIn big b) : GoodIn big (c :: (a ++ b)) := fun w h => (List.mem_cons.mp h).elim (fun e => ha w (List.mem_cons.mpr (Or.inl e))) (fun h => (List.mem_append.mp h).elim (fun h => ha w (List.mem_cons.mpr (Or.inr h))) (hb w))
theorem goodIn_sub {big ws : List Cond} (hm : ∀ w ∈ ws, w ∈ big) (h : ws.all goodWord = true) : GoodIn big ws := fun w hw => ⟨hm w hw, good_of_word (List.all_eq_true.mp h w hw)⟩
/-! ===== END ===== -/

/-! ===== BEGIN exceptions that leave a method, and their catching by the caller (launches without stack traces) ===== -/
section VXA
/-! The laws vx_back, vx_callV, vx_callS, vx_callSW, vx_throw0, vx_throwS follow proofs of the library, with one case more: JvmDerived/Free/Laws.lean (Back.of_free), Shelf42/LK1.lean (callV, callS), Shelf/KitTraced.lean (throwNew0V, throwNewS). -/
/-- where a method has thrown q: the class by its name, the cell, what was written, the world -/
def vx_T (XC : String → State → State → Prop) (st : State) (q : Addr) (t : State) (mc ms : Nat) (free : Addr → Prop) : Prop :=
  ∃ (E : String) (ce : Cell) (L : List Loc), XC E st t ∧ t.heap[q]? = some ce ∧ ce.vm = .none ∧ st.vm.findClass E = some ce.cls ∧ st.WarmedH t.vm ∧ st.sameButNew ({ t with vm := st.vm } : State) L mc ms ∧ ∀ z ∈ L, free z.base
def vx_Q (Qc : Array Value → State → Outcome → State → Prop) (XC : String → State → State → Prop) (mc ms : Nat) (free : Addr → Prop) : Array Value → State → Outcome → State → Prop := fun a st o t =>
  (Qc a st o t ∧ ∃ L, FrameEnd st o t L mc ms ∧ ∀ q ∈ L, free q.base) ∨ ∃ q, o = .threw q ∧ vx_T XC st q t mc ms free
/-- a callee that returns or throws -/
def vx_Met (l : Launch) (y : MethodName) (ws : List Cond) (rm : Room) (Pc : Array Value → State → Prop) (Qc : Array Value → State → Outcome → State → Prop) (XC : String → State → State → Prop) (mc ms : Nat) (free : Addr → Prop) : Prop :=
  MetFree l y (headSpec ws rm) Pc (fun _ _ _ _ _ => True) (vx_Q Qc XC mc ms free)
def vx_Post (XC : String → State → State → Prop) (mc ms : Nat) (free : Addr → Prop) : Pt → Array Value → Addr → Pt → Prop := fun A a q B =>
  ∃ (g : JFrame) (mk : MethodId) (t : State) (L : List Loc) (E : String) (ce : Cell), B.U.heap = t.heap ∧ B.U.vm = t.vm ∧ XC E (A.U.calling g mk a) t ∧ t.heap[q]? = some ce ∧ ce.vm = .none ∧ A.U.vm.findClass E = some ce.cls ∧ B.locs = A.locs ++ L ∧ (∀ z ∈ L, free z.base) ∧ B.cells = A.cells + mc ∧ B.slots = A.slots + ms
def vx_Back (l : Launch) (R : Room) (p : Program) (e : Env) (below : List Frame) (s : State) (sargs : Array Value) (y : MethodName) (len W9 : Nat)
    (Pre : Pt → Array Value → Prop) (Post : Pt → Array Value → Option Value → Pt → Prop) (PostX : Pt → Array Value → Addr → Pt → Prop) : Prop :=
  ∀ (m : MethodId) (meth : Method) (c : Code) (A : Pt) (g : JFrame) (ig : Instr) (mk : MethodId) (a : Array Value),
    Stand p l e R s m sargs below meth c A.U A.locs A.cells A.slots → g.method = m → g.locals.size = c.maxLocals → decode c.code g.pc = .ok (ig, len) →
    2 * g.monitorRoom + (g.stack.map fun v => v.category).sum ≤ W9 → A.U.methodNamed? y = some mk → Pre A a →
    (∃ (v : Option Value) (B : Pt), Stand p l e R s m sargs below meth c B.U B.locs B.cells B.slots ∧ Post A a v B ∧
      Steps p.tables e below (doInvoke e (A.U.setTop g) [] mk a).1 (B.U.setTop { g with pc := g.pc + len, stack := v.toList ++ g.stack })) ∨
    (∃ (q : Addr) (B : Pt), Stand p l e R s m sargs below meth c B.U B.locs B.cells B.slots ∧ PostX A a q B ∧
      Steps p.tables e below (doInvoke e (A.U.setTop g) [] mk a).1 ((B.U.setTop g).pushFrame (.throwing q)))
section Payer
variable {l : Launch} {R : Room} {p : Program} {e : Env} {below : List Frame} {s : State} {sargs : Array Value} {y : MethodName} {len W9 : Nat}
theorem vx_back {ws : List Cond} {rm : Room} {Pc : Array Value → State → Prop} {Qc : Array Value → State → Outcome → State → Prop} {XC : String → State → State → Prop} {mc ms : Nat} {free : Addr → Prop} {bytes : ByteArray} {maxL : Nat} {ret : Option FieldType}
    (hM : vx_Met l y ws rm Pc Qc XC mc ms free) (hblind : FrameBlind Pc) (hrc : rm.cells = mc) (hrs : rm.slots = ms)
    (hframes : rm.frames + 1 ≤ R.frames) (hlocals : W9 + (maxL + 11) + rm.locals ≤ R.locals)
    (hws : ∀ w ∈ ws, ∀ a' U, s.WarmedH U.vm → w.before a' U = true) (hcode : Cond.code y bytes maxL ret ∈ ws) (hinit : ∀ a' U, s.WarmedH U.vm → (Cond.initialized y.cls).before a' U = true) :
    vx_Back l R p e below s sargs y len W9 (PreOf R mc ms Pc) (PostOf Qc mc ms free) (vx_Post XC mc ms free) := by
  intro m meth c A g ig mk a X hg hsize hdg hW hn hp
  have h1 : (headSpec ws rm).pre.before a A.U = true := atoms_intro fun w hw => hws w hw _ _ X.warmed
  have h2 : (Cond.code y bytes maxL ret).before a A.U = true := hws _ hcode _ _ X.warmed
  have h3 : (Cond.initialized y.cls).before a A.U = true := hinit _ _ X.warmed
  have h4 : A.cells + (headSpec ws rm).room.cells ≤ R.cells := by rw [show (headSpec ws rm).room.cells = mc from hrc]; exact hp.1
  have h5 : A.slots + (headSpec ws rm).room.slots ≤ R.slots := by rw [show (headSpec ws rm).room.slots = ms from hrs]; exact hp.2.1
  have hPc : Pc a (A.U.calling g mk a) := hblind _ _ _ _ hp.2.2
  obtain ⟨U, Ls, c0, s0⟩ := A
  dsimp only [Pt.U, Pt.locs, Pt.cells, Pt.slots] at h1 h2 h3 h4 h5 X hn hPc ⊢
  obtain ⟨methY, cY, hmY, hcY, -, hlY, -, -, -, -⟩ := Cond.code_spec hn h2
  obtain ⟨kY, hkY, -⟩ := className_of_methodNamed hn
  have hinitY : kY.init = .initialized := Cond.initialized_spec (findClass_of_methodNamed hn) hkY h3
  have h : At U g.method c below := by rw [hg]; exact X.here
  have hlocals9 : W9 + (maxL + 11) + (headSpec ws rm).room.locals ≤ R.locals := hlocals
  have happ : (headSpec ws rm).appliesLoose y e.platform (U.calling g mk a) = true :=
    Spec.appliesLoose_calling (g := g) h hdg hn hkY hinitY
      (X.room_calling (g := g) (R' := (headSpec ws rm).room) hsize hmY hcY hframes (by rw [hlY]; omega) h4 h5) h1
  obtain ⟨mid, hmid⟩ := h.above
  have hfr : (U.setTop g).frames = (.java g :: mid) ++ below := by rw [State.frames_setTop' g h.top, hmid]; rfl
  obtain ⟨o, s₂, hsteps, -, hend, hq⟩ := Steps.callFree hM p X.admits X.cas X.clock (acts := []) hfr happ hPc trivial
  have hq' : vx_Q Qc XC mc ms free a (U.calling g mk a) o s₂ := hq
  rw [State.frames_setTop' g h.top] at hend
  obtain ⟨g₀, hg0⟩ := Option.isSome_iff_exists.mp h.top
  obtain ⟨r, hr⟩ := State.topJava?_eq_some.mp hg0
  have hr' : (({ U with heap := s₂.heap, slotsUsed := s₂.slotsUsed } : State).setVm s₂.vm).frames = .java g₀ :: r := hr
  rcases hq' with ⟨hqc, L, hfe, hL⟩ | ⟨q, rfl, E, ce, L, hx, hce, hcv, hcl, hW₂, hsm, hL⟩
  · obtain ⟨⟨v, rfl⟩, hW₂, e2, q2, q3, q4, q5, q6⟩ := id hfe
    have e3 : s₂ = ({ (U.calling g mk a).setFrames s₂.frames with heap := s₂.heap, slotsUsed := s₂.slotsUsed } : State).setVm s₂.vm := by
      have : s₂ = ({ s₂ with vm := (U.calling g mk a).vm } : State).setVm s₂.vm := rfl
      rw [e2] at this
      exact this
    obtain ⟨c₂, i₂, len₂, hc₂, hd₂, hf₂⟩ := hend
    have hW' : U.WarmedH s₂.vm := hW₂
    have hcc : c₂ = c := by
      have h1 : s₂.code? g.method = U.code? g.method := by
        rw [State.code?_eq, State.code?_eq, hW'.alike.method?]
      exact Option.some.inj (hc₂.symm.trans (h1.trans h.code))
    subst hcc
    have hlen : len₂ = len := by rw [hdg] at hd₂; cases hd₂; rfl
    subst hlen
    have hs₂ : s₂ = (({ U with heap := s₂.heap, slotsUsed := s₂.slotsUsed } : State).setVm s₂.vm).setTop { g with pc := g.pc + len₂, stack := v.toList ++ g.stack } := by
      refine e3.trans ?_
      rw [hf₂, State.calling_eq h.top, State.setFrames_setFrames, State.setTop_of_frames _ hr', hr]
      rfl
    have hsame : U.sameButNew ({ U with heap := s₂.heap, slotsUsed := s₂.slotsUsed } : State) L mc ms := by
      refine ⟨?_, q2, q3, q4, q5, q6⟩
      obtain ⟨t, ht, -⟩ := State.frames_cons hr
      show ({ U with heap := s₂.heap, slotsUsed := s₂.slotsUsed } : State) = { U.setFrames U.frames with heap := s₂.heap, slotsUsed := s₂.slotsUsed }
      rw [State.setFrames_self ht]
    subst hg
    refine Or.inl ⟨v, ⟨(({ U with heap := s₂.heap, slotsUsed := s₂.slotsUsed } : State).setVm s₂.vm), Ls ++ L, c0 + mc, s0 + ms⟩,
      ⟨X.admits, X.cas, X.clock, X.frames, X.room, X.hears, X.method, X.code, (X.here.setHeapUsed s₂.heap s₂.slotsUsed).setVm hW'.alike, X.tail, State.WarmedH.trans X.warmed hW', X.limits, X.bytes, X.same.trans (hsame.setVm s.vm)⟩,
      ⟨g, mk, s₂, L, rfl, rfl, hqc, rfl, hL, rfl, rfl⟩, ?_⟩
    show Steps p.tables e below _ ((({ U with heap := s₂.heap, slotsUsed := s₂.slotsUsed } : State).setVm s₂.vm).setTop { g with pc := g.pc + len₂, stack := v.toList ++ g.stack })
    rw [← hs₂]
    exact hsteps
  · obtain ⟨e2, q2, q3, q4, q5, q6⟩ := id hsm
    have e3 : s₂ = ({ (U.calling g mk a).setFrames s₂.frames with heap := s₂.heap, slotsUsed := s₂.slotsUsed } : State).setVm s₂.vm := by
      have : s₂ = ({ s₂ with vm := (U.calling g mk a).vm } : State).setVm s₂.vm := rfl
      rw [e2] at this
      exact this
    have hf₂ : s₂.frames = .throwing q :: .java g :: U.frames.tail := hend
    have hW' : U.WarmedH s₂.vm := hW₂
    have hs₂ : s₂ = ((({ U with heap := s₂.heap, slotsUsed := s₂.slotsUsed } : State).setVm s₂.vm).setTop g).pushFrame (.throwing q) := by
      refine e3.trans ?_
      rw [hf₂, State.calling_eq h.top, State.setFrames_setFrames, State.pushFrame, State.frames_setTop _ hr', State.setTop_of_frames _ hr', State.setFrames_setFrames, hr]
      rfl
    have hsame : U.sameButNew ({ U with heap := s₂.heap, slotsUsed := s₂.slotsUsed } : State) L mc ms := by
      refine ⟨?_, q2, q3, q4, q5, q6⟩
      obtain ⟨t, ht, -⟩ := State.frames_cons hr
      show ({ U with heap := s₂.heap, slotsUsed := s₂.slotsUsed } : State) = { U.setFrames U.frames with heap := s₂.heap, slotsUsed := s₂.slotsUsed }
      rw [State.setFrames_self ht]
    subst hg
    refine Or.inr ⟨q, ⟨(({ U with heap := s₂.heap, slotsUsed := s₂.slotsUsed } : State).setVm s₂.vm), Ls ++ L, c0 + mc, s0 + ms⟩,
      ⟨X.admits, X.cas, X.clock, X.frames, X.room, X.hears, X.method, X.code, (X.here.setHeapUsed s₂.heap s₂.slotsUsed).setVm hW'.alike, X.tail, State.WarmedH.trans X.warmed hW', X.limits, X.bytes, X.same.trans (hsame.setVm s.vm)⟩,
      ⟨g, mk, s₂, L, E, ce, rfl, rfl, hx, hce, hcv, hcl, rfl, hL, rfl, rfl⟩, ?_⟩
    show Steps p.tables e below _ (((({ U with heap := s₂.heap, slotsUsed := s₂.slotsUsed } : State).setVm s₂.vm).setTop g).pushFrame (.throwing q))
    rw [← hs₂]
    exact hsteps
end Payer
section Calls
variable {p : Program} {l : Launch} {e : Env} {R : Room} {s : State} {m : MethodId} {args : Array Value} {below : List Frame} {meth : Method} {c : Code} {T : State} {locs : List Loc} {cells slots : Nat}
theorem vx_callV (X : Stand p l e R s m args below meth c T locs cells slots) (hexec : p.tables.exec = Jvm.exec) {own C : String} {index : Nat} {y : MethodName} {bytes : ByteArray} {maxL : Nat} {ret : Option FieldType}
    (hown : s.vm.findClass own = some m.cls) (hlink : (Cond.methodLink own index y).before args s = true) (hinst : (Cond.instanceMethod y).before args s = true) (hsel : (Cond.selects C y y).before args s = true)
    (hcode : (Cond.code y bytes maxL ret).before args s = true) (hy : y.cls ≠ "java/lang/invoke/MethodHandle" ∧ y.cls ≠ "java/lang/invoke/VarHandle")
    {W9 : Nat} {Pre : Pt → Array Value → Prop} {Post : Pt → Array Value → Option Value → Pt → Prop} {PostX : Pt → Array Value → Addr → Pt → Prop} (hK : vx_Back l R p e below s args y 3 W9 Pre Post PostX)
    {b : Addr} {cellB : Cell} (hcell : T.heap[b]? = some cellB) (hobj : cellB.vm.isStatics = false) (hcls : s.vm.findClass C = some cellB.cls)
    {g : JFrame} (hg : g.method = m) (hsize : g.locals.size = c.maxLocals) {argsL rest : List Value} (hlen : ∀ sig, parseMethodDescriptor y.desc = some sig → argsL.length = sig.parameters.length)
    (hstack : g.stack = argsL.reverse ++ .ref b :: rest) (hW : 2 * g.monitorRoom + (rest.map fun v => v.category).sum ≤ W9) (hdg : decode c.code g.pc = .ok (.invokevirtual index, 3))
    (hpre : ∀ vm₁, s.WarmedH vm₁ → Pre ⟨T.setVm vm₁, locs, cells, slots⟩ (Value.ref b :: argsL).toArray) :
    (∃ (v : Option Value) (vm₁ : Vm) (B : Pt), s.WarmedH vm₁ ∧ Stand p l e R s m args below meth c B.U B.locs B.cells B.slots ∧ Post ⟨T.setVm vm₁, locs, cells, slots⟩ (Value.ref b :: argsL).toArray v B ∧
      ∀ target, Steps p.tables e below (B.U.setTop { g with pc := g.pc + 3, stack := v.toList ++ rest }) target → Steps p.tables e below (T.setTop g) target) ∨
    (∃ (q : Addr) (vm₁ : Vm) (B : Pt), s.WarmedH vm₁ ∧ Stand p l e R s m args below meth c B.U B.locs B.cells B.slots ∧ PostX ⟨T.setVm vm₁, locs, cells, slots⟩ (Value.ref b :: argsL).toArray q B ∧
      Steps p.tables e below (T.setTop g) ((B.U.setTop { g with stack := rest }).pushFrame (.throwing q))) := by
  obtain ⟨mk, methM, hnamed, hmethM, hstM, habM⟩ := Cond.instanceMethod_spec hinst
  obtain ⟨methM', cM, hmethM', -, -, -, -, -, -, hsigM⟩ := Cond.code_spec hnamed hcode
  cases hmethM.symm.trans hmethM'
  obtain ⟨c2, r2, m2, q1, q2, q3, q4, kP, hkP, hkPi⟩ := Cond.selects_spec hsel
  cases hcls.symm.trans q1
  cases (State.methodFound?_of_named hnamed hy).symm.trans q2
  cases hnamed.symm.trans q3
  have hselP : selectMethod e.platform s.vm cellB.cls mk = .method mk := by rw [Launch.admits_selectMethod X.admits]; exact q4
  obtain ⟨vm₁, X₁, hstep₁⟩ := X.invokevirtual hexec hown hlink hnamed hmethM hstM hkP hkPi hy (a := b) (cell := cellB) hcell
    (fun z h => by rw [h] at hobj; cases hobj) hselP hmethM habM hkP hkPi (g := g) hg (argsL := argsL) (rest := rest) (hlen _ hsigM) hstack hdg
  rcases hK m meth c ⟨T.setVm vm₁, locs, cells, slots⟩ { g with stack := rest } (.invokevirtual index) mk (Value.ref b :: argsL).toArray X₁ hg hsize hdg hW (X₁.named hnamed) (hpre vm₁ X₁.warmed) with ⟨v, B, X', hpost, hsteps⟩ | ⟨q, B, X', hpost, hsteps⟩
  · exact Or.inl ⟨v, vm₁, B, X₁.warmed, X', hpost, fun target h => hstep₁ _ fun acts => by rw [doInvoke_state]; exact hsteps.trans h⟩
  · exact Or.inr ⟨q, vm₁, B, X₁.warmed, X', hpost, hstep₁ _ fun acts => by rw [doInvoke_state]; exact hsteps⟩
theorem vx_callS (X : Stand p l e R s m args below meth c T locs cells slots) (hexec : p.tables.exec = Jvm.exec) {own : String} {index : Nat} {y : MethodName} {bytes : ByteArray} {maxL : Nat} {ret : Option FieldType}
    (hown : s.vm.findClass own = some m.cls) (hlink : (Cond.methodLink own index y).before args s = true) (hstat : (Cond.static y).before args s = true) (hinit : (Cond.initialized y.cls).before args s = true)
    (hcode : (Cond.code y bytes maxL ret).before args s = true) (hy : y.cls ≠ "java/lang/invoke/MethodHandle" ∧ y.cls ≠ "java/lang/invoke/VarHandle")
    {W9 : Nat} {Pre : Pt → Array Value → Prop} {Post : Pt → Array Value → Option Value → Pt → Prop} {PostX : Pt → Array Value → Addr → Pt → Prop} (hK : vx_Back l R p e below s args y 3 W9 Pre Post PostX)
    {g : JFrame} (hg : g.method = m) (hsize : g.locals.size = c.maxLocals) {argsL rest : List Value} (hlen : ∀ sig, parseMethodDescriptor y.desc = some sig → argsL.length = sig.parameters.length)
    (hstack : g.stack = argsL.reverse ++ rest) (hW : 2 * g.monitorRoom + (rest.map fun v => v.category).sum ≤ W9) (hdg : decode c.code g.pc = .ok (.invokestatic index, 3))
    (hpre : ∀ vm₁, s.WarmedH vm₁ → Pre ⟨T.setVm vm₁, locs, cells, slots⟩ argsL.toArray) :
    (∃ (v : Option Value) (vm₁ : Vm) (B : Pt), s.WarmedH vm₁ ∧ Stand p l e R s m args below meth c B.U B.locs B.cells B.slots ∧ Post ⟨T.setVm vm₁, locs, cells, slots⟩ argsL.toArray v B ∧
      ∀ target, Steps p.tables e below (B.U.setTop { g with pc := g.pc + 3, stack := v.toList ++ rest }) target → Steps p.tables e below (T.setTop g) target) ∨
    (∃ (q : Addr) (vm₁ : Vm) (B : Pt), s.WarmedH vm₁ ∧ Stand p l e R s m args below meth c B.U B.locs B.cells B.slots ∧ PostX ⟨T.setVm vm₁, locs, cells, slots⟩ argsL.toArray q B ∧
      Steps p.tables e below (T.setTop g) ((B.U.setTop { g with stack := rest }).pushFrame (.throwing q))) := by
  obtain ⟨mk, hnamed⟩ := Cond.code_named hcode
  obtain ⟨methM, cM, hmethM, -, -, -, -, -, -, hsigM⟩ := Cond.code_spec hnamed hcode
  have hstatic : methM.isStatic = true := Cond.static_spec hnamed hmethM hstat
  obtain ⟨kP, hkP, -⟩ := className_of_methodNamed hnamed
  have hinitP : kP.init = .initialized := Cond.initialized_spec (findClass_of_methodNamed hnamed) hkP hinit
  obtain ⟨vm₁, X₁, hstep₁⟩ := X.invokestatic hexec hown hlink hnamed hmethM hstatic hkP hinitP hy (g := g) hg (argsL := argsL) (rest := rest) (hlen _ hsigM) hstack hdg
  rcases hK m meth c ⟨T.setVm vm₁, locs, cells, slots⟩ { g with stack := rest } (.invokestatic index) mk argsL.toArray X₁ hg hsize hdg hW (X₁.named hnamed) (hpre vm₁ X₁.warmed) with ⟨v, B, X', hpost, hsteps⟩ | ⟨q, B, X', hpost, hsteps⟩
  · exact Or.inl ⟨v, vm₁, B, X₁.warmed, X', hpost, fun target h => hstep₁ _ fun acts => by rw [doInvoke_state]; exact hsteps.trans h⟩
  · exact Or.inr ⟨q, vm₁, B, X₁.warmed, X', hpost, hstep₁ _ fun acts => by rw [doInvoke_state]; exact hsteps⟩
end Calls
theorem vx_cls {s : State} {T : State} {vm₁ : Vm} {E : String} {k : ClassId} (hW : s.WarmedH vm₁) (h : (T.setVm vm₁).vm.findClass E = some k) : s.vm.findClass E = some k := by
  have h1 : vm₁.findClass E = some k := h
  rw [hW.alike.findClass] at h1
  exact h1
/-- the method's frame g, with q thrown over it -/
def vx_W (p : Program) (l : Launch) (e : Env) (R : Room) (s : State) (m : MethodId) (args : Array Value) (below : List Frame) (meth : Method) (c : Code) (H : Heap) (locs : List Loc) (cells slots : Nat) (Q : State → Prop) (g : JFrame) (q : Addr) : Prop :=
  ∀ T : State, T.heap = H → Stand p l e R s m args below meth c T locs cells slots → ∃ t, Steps p.tables e below ((T.setTop g).pushFrame (.throwing q)) t ∧ Q t
def vx_Run (p : Program) (l : Launch) (e : Env) (R : Room) (s : State) (m : MethodId) (args : Array Value) (below : List Frame) (meth : Method) (c : Code) (H : Heap) (locs : List Loc) (cells slots mc ms : Nat) (g : JFrame) (rest : List Value) (Qa : State → Outcome → State → Prop) (XC : String → State → State → Prop) (free : Addr → Prop) : Prop :=
  ∀ T : State, T.heap = H → Stand p l e R s m args below meth c T locs cells slots →
    (∃ (v : Option Value) (st₀ t T' : State) (L : List Loc), st₀.heap = H ∧ Stand p l e R s m args below meth c T' (locs ++ L) (cells + mc) (slots + ms) ∧ (∀ q ∈ L, free q.base) ∧ T'.heap = t.heap ∧ T'.vm = t.vm ∧ Qa st₀ (.returned v) t ∧
      Goes p e below T g T' { g with pc := g.pc + 3, stack := v.toList ++ rest }) ∨
    (∃ (q : Addr) (st₀ t T' : State) (L : List Loc) (E : String) (ce : Cell), st₀.heap = H ∧ Stand p l e R s m args below meth c T' (locs ++ L) (cells + mc) (slots + ms) ∧ (∀ z ∈ L, free z.base) ∧ T'.heap = t.heap ∧ T'.vm = t.vm ∧ XC E st₀ t ∧ t.heap[q]? = some ce ∧ ce.vm = .none ∧ s.vm.findClass E = some ce.cls ∧
      Steps p.tables e below (T.setTop g) ((T'.setTop { g with stack := rest }).pushFrame (.throwing q)))
def vx_X {S : Type} (px : S → Prop) (B : String → S → State → Prop) (A : Nat → Prop) : String → State → State → Prop := fun E st t => ∃ u : S, px u ∧ B E u t ∧ va_F A st t
section Runs
variable {p : Program} {l : Launch} {e : Env} {R : Room} {s : State} {m : MethodId} {args : Array Value} {below : List Frame} {meth : Method} {c : Code} {H : Heap} {locs : List Loc} {cells slots : Nat}
variable {y : MethodName} {bytes cc : ByteArray} {maxL nL mc ms n index : Nat} {ret : Option FieldType} {ws : List Cond} {rm : Room} {Pc : Array Value → State → Prop} {Qc : Array Value → State → Outcome → State → Prop} {XC : String → State → State → Prop} {free : Addr → Prop} {Ts : List Cond} {own C : String} {b : Addr} {As rest : List Value} {g : JFrame}
theorem vx_callBack (cb : CallB R s args own index y bytes maxL ret ws rm mc ms n) (hM : vx_Met l y ws rm Pc Qc XC mc ms free) (hbl : FrameBlind Pc) : vx_Back l R p e below s args y 3 8 (PreOf R mc ms Pc) (PostOf Qc mc ms free) (vx_Post XC mc ms free) := by
  obtain ⟨hrc, hrs, hfr, hlo, hws, hcw, -, hini, -⟩ := cb
  exact vx_back (bytes := bytes) (maxL := maxL) (ret := ret) hM hbl hrc hrs hfr hlo hws hcw (fun a' U hW => word_at hW (Or.inl (by first | rfl | simp [Cond.onTables, Cond.keeps, Cond.steady])) hini)
theorem vx_runV (S : CallFix p m c cc nL s args Ts own) (hM : vx_Met l y ws rm Pc Qc XC mc ms free) (cw : CallW R s args own C index y bytes maxL ret ws rm mc ms n) (hp : PreV s H C b Pc As)
    (hg : g.method = m) (hn : As.length = n) (hsize : g.locals.size = nL) (hstack : g.stack = As.reverse ++ .ref b :: rest) (hW : 2 * g.monitorRoom + (rest.map fun v => v.category).sum ≤ 8) (hdg : decode cc g.pc = .ok (.invokevirtual index, 3)) (hf : cells + mc ≤ R.cells ∧ slots + ms ≤ R.slots) :
    vx_Run p l e R s m args below meth c H locs cells slots mc ms g rest (Qc (Value.ref b :: As).toArray) XC free := by
  have hK : vx_Back l R p e below s args y 3 8 (PreOf R mc ms Pc) (PostOf Qc mc ms free) (vx_Post XC mc ms free) := vx_callBack cw.1 hM hp.1
  obtain ⟨⟨-, -, -, -, -, -, hcode, -, hy, hlen, hl⟩, hin, hse⟩ := cw
  obtain ⟨hx, hb, hml, ho, -⟩ := S
  obtain ⟨-, ⟨cellB, hcB, hoB, hclB⟩, hPc⟩ := hp
  intro T hT X
  rcases vx_callV X hx (C := C) (bytes := bytes) (maxL := maxL) (ret := ret) ho hl hin hse hcode hy hK (by rw [hT]; exact hcB) hoB hclB hg (hsize.trans hml.symm) (argsL := As) (rest := rest) (fun sig h => hn.trans (hlen sig h)) hstack hW (by rw [hb]; exact hdg)
    (fun vm₁ hW₁ => ⟨hf.1, hf.2, hPc (T.setVm vm₁) hT hW₁⟩) with ⟨v, vm₁, ⟨U', l2, c2, s2⟩, hW₁, X', ⟨g', mk, t, L, e1, e2, hq, h1, hL, h2, h3⟩, st⟩ | ⟨q, vm₁, ⟨U', l2, c2, s2⟩, hW₁, X', ⟨g', mk, t, L, E, ce, e1, e2, hq, hce, hcv, hcl, h1, hL, h2, h3⟩, st⟩
  · dsimp only [Pt.U, Pt.locs, Pt.cells, Pt.slots] at X' e1 e2 h1 h2 h3 st
    subst h1; subst h2; subst h3
    exact Or.inl ⟨v, (T.setVm vm₁).calling g' mk (Value.ref b :: As).toArray, t, U', L, hT, X', hL, e1, e2, hq, st⟩
  · dsimp only [Pt.U, Pt.locs, Pt.cells, Pt.slots] at X' e1 e2 h1 h2 h3 st hcl
    subst h1; subst h2; subst h3
    exact Or.inr ⟨q, (T.setVm vm₁).calling g' mk (Value.ref b :: As).toArray, t, U', L, E, ce, hT, X', hL, e1, e2, hq, hce, hcv, vx_cls hW₁ hcl, st⟩
theorem vx_runS (S : CallFix p m c cc nL s args Ts own) (hM : vx_Met l y ws rm Pc Qc XC mc ms free) (cw : CallB R s args own index y bytes maxL ret ws rm mc ms n ∧ (Cond.static y).before args s = true) (hp : PreS s H Pc As)
    (hg : g.method = m) (hn : As.length = n) (hsize : g.locals.size = nL) (hstack : g.stack = As.reverse ++ rest) (hW : 2 * g.monitorRoom + (rest.map fun v => v.category).sum ≤ 8) (hdg : decode cc g.pc = .ok (.invokestatic index, 3)) (hf : cells + mc ≤ R.cells ∧ slots + ms ≤ R.slots) :
    vx_Run p l e R s m args below meth c H locs cells slots mc ms g rest (Qc As.toArray) XC free := by
  have hK : vx_Back l R p e below s args y 3 8 (PreOf R mc ms Pc) (PostOf Qc mc ms free) (vx_Post XC mc ms free) := vx_callBack cw.1 hM hp.1
  obtain ⟨⟨-, -, -, -, -, -, hcode, hini, hy, hlen, hl⟩, hstt⟩ := cw
  obtain ⟨hx, hb, hml, ho, -⟩ := S
  intro T hT X
  rcases vx_callS X hx (bytes := bytes) (maxL := maxL) (ret := ret) ho hl hstt hini hcode hy hK hg (hsize.trans hml.symm) (argsL := As) (rest := rest) (fun sig h => hn.trans (hlen sig h)) hstack hW (by rw [hb]; exact hdg)
    (fun vm₁ hW₁ => ⟨hf.1, hf.2, hp.2 (T.setVm vm₁) hT hW₁⟩) with ⟨v, vm₁, ⟨U', l2, c2, s2⟩, hW₁, X', ⟨g', mk, t, L, e1, e2, hq, h1, hL, h2, h3⟩, st⟩ | ⟨q, vm₁, ⟨U', l2, c2, s2⟩, hW₁, X', ⟨g', mk, t, L, E, ce, e1, e2, hq, hce, hcv, hcl, h1, hL, h2, h3⟩, st⟩
  · dsimp only [Pt.U, Pt.locs, Pt.cells, Pt.slots] at X' e1 e2 h1 h2 h3 st
    subst h1; subst h2; subst h3
    exact Or.inl ⟨v, (T.setVm vm₁).calling g' mk As.toArray, t, U', L, hT, X', hL, e1, e2, hq, st⟩
  · dsimp only [Pt.U, Pt.locs, Pt.cells, Pt.slots] at X' e1 e2 h1 h2 h3 st hcl
    subst h1; subst h2; subst h3
    exact Or.inr ⟨q, (T.setVm vm₁).calling g' mk As.toArray, t, U', L, E, ce, hT, X', hL, e1, e2, hq, hce, hcv, vx_cls hW₁ hcl, st⟩
end Runs
section Rows
variable {p : Program} {l : Launch} {e : Env} {R : Room} {s : State} {m : MethodId} {args : Array Value} {below : List Frame} {meth : Method} {c : Code} {H : Heap} {locs : List Loc} {cells slots : Nat} {Q : State → Prop}
variable {mc ms : Nat} {free : Addr → Prop} {A0 A1 : Nat → Prop} {H0 : Heap} {a : Array Value} {pc : Nat} {ls : Array Slot} {st0 rest : List Value}
theorem vx_keep {st₀ t T' : State} {L : List Loc} (h0 : st₀.heap = H) (e1 : T'.heap = t.heap) (hS : va_S A0 H0 H locs) (hA : ∀ q, q < H.size → A1 q → A0 q) (hf : ∀ q, free q → A0 q) (hL : ∀ q ∈ L, free q.base) (hF : va_F A1 st₀ t) :
    H.size ≤ T'.heap.size ∧ (∀ q : Nat, q < H.size → ¬ A1 q → T'.heap[q]? = H[q]?) ∧ va_S A0 H0 T'.heap (locs ++ L) := by
  obtain ⟨hz, hk⟩ := hF
  rw [h0] at hz hk
  exact ⟨by rw [e1]; exact hz, fun q h1 h2 => by rw [e1]; exact hk q h1 h2,
    ⟨Nat.le_trans hS.1 (by rw [e1]; exact hz), fun q h1 h2 => by rw [e1, hk q (Nat.lt_of_lt_of_le h1 hS.1) (fun z => h2 (hA q (Nat.lt_of_lt_of_le h1 hS.1) z))]; exact hS.2.1 q h1 h2, fun q hq => by
      rcases List.mem_append.mp hq with h | h
      · exact hS.2.2 q h
      · exact hf _ (hL q h)⟩⟩
theorem vx_calli {S SX : Type} {post : Int32 → S → Prop} {px : SX → Prop} {B : S → State → Prop} {BX : String → SX → State → Prop} {AX : Nat → Prop} (hr : vx_Run p l e R s m args below meth c H locs cells slots mc ms (F0 m pc ls st0) rest (va_Qi post B A1 a) (vx_X px BX AX) free) (hS : va_S A0 H0 H locs) (hA : ∀ q, q < H.size → A1 q → A0 q) (hf : ∀ q, free q → A0 q) (hAX : ∀ q, q < H.size → AX q → A0 q)
    (kx : ∀ (E : String) (ce : Cell) (q9 : Addr) (u : SX) (t : State) (H1 : Heap) (locs1 : List Loc), t.heap = H1 → s.vm.Alike t.vm → px u → BX E u t → H.size ≤ H1.size → (∀ q : Nat, q < H.size → ¬ AX q → H1[q]? = H[q]?) → va_S A0 H0 H1 locs1 → H1[q9]? = some ce → ce.vm = .none → s.vm.findClass E = some ce.cls → vx_W p l e R s m args below meth c H1 locs1 (cells + mc) (slots + ms) Q (F0 m pc ls rest) q9)
    (kk : ∀ (r : Int32) (u : S) (t : State) (H1 : Heap) (locs1 : List Loc), t.heap = H1 → s.vm.Alike t.vm → post r u → B u t → H.size ≤ H1.size → (∀ q : Nat, q < H.size → ¬ A1 q → H1[q]? = H[q]?) → va_S A0 H0 H1 locs1 → W p l e R s m args below meth c H1 locs1 (cells + mc) (slots + ms) Q (F0 m (pc + 3) ls (.int r :: rest))) : W p l e R s m args below meth c H locs cells slots Q (F0 m pc ls st0) := by
  intro T hT X
  rcases hr T hT X with ⟨v, st₀, t, T', L, h0, X', hL, e1, e2, ⟨⟨r, u, hv, hp, hb⟩, hF⟩, st⟩ | ⟨q, st₀, t, T', L, E, ce, h0, X', hL, e1, e2, ⟨u, hp, hb, hF⟩, hce, hcv, hcl, st⟩
  · cases hv
    obtain ⟨k1, k2, k3⟩ := vx_keep h0 e1 hS hA hf hL hF
    obtain ⟨t2, a1, b1⟩ := kk r u t T'.heap (locs ++ L) e1.symm (by rw [← e2]; exact X'.warmed.alike) hp hb k1 k2 k3 T' rfl X'
    exact ⟨t2, st t2 a1, b1⟩
  · obtain ⟨k1, k2, k3⟩ := vx_keep h0 e1 hS hAX hf hL hF
    obtain ⟨t2, a1, b1⟩ := kx E ce q u t T'.heap (locs ++ L) e1.symm (by rw [← e2]; exact X'.warmed.alike) hp hb k1 k2 k3 (by rw [e1]; exact hce) hcv hcl T' rfl X'
    exact ⟨t2, st.trans a1, b1⟩
theorem vx_calll {S SX : Type} {post : Int64 → S → Prop} {px : SX → Prop} {B : S → State → Prop} {BX : String → SX → State → Prop} {AX : Nat → Prop} (hr : vx_Run p l e R s m args below meth c H locs cells slots mc ms (F0 m pc ls st0) rest (va_Ql post B A1 a) (vx_X px BX AX) free) (hS : va_S A0 H0 H locs) (hA : ∀ q, q < H.size → A1 q → A0 q) (hf : ∀ q, free q → A0 q) (hAX : ∀ q, q < H.size → AX q → A0 q)
    (kx : ∀ (E : String) (ce : Cell) (q9 : Addr) (u : SX) (t : State) (H1 : Heap) (locs1 : List Loc), t.heap = H1 → s.vm.Alike t.vm → px u → BX E u t → H.size ≤ H1.size → (∀ q : Nat, q < H.size → ¬ AX q → H1[q]? = H[q]?) → va_S A0 H0 H1 locs1 → H1[q9]? = some ce → ce.vm = .none → s.vm.findClass E = some ce.cls → vx_W p l e R s m args below meth c H1 locs1 (cells + mc) (slots + ms) Q (F0 m pc ls rest) q9)
    (kk : ∀ (r : Int64) (u : S) (t : State) (H1 : Heap) (locs1 : List Loc), t.heap = H1 → s.vm.Alike t.vm → post r u → B u t → H.size ≤ H1.size → (∀ q : Nat, q < H.size → ¬ A1 q → H1[q]? = H[q]?) → va_S A0 H0 H1 locs1 → W p l e R s m args below meth c H1 locs1 (cells + mc) (slots + ms) Q (F0 m (pc + 3) ls (.long r :: rest))) : W p l e R s m args below meth c H locs cells slots Q (F0 m pc ls st0) := by
  intro T hT X
  rcases hr T hT X with ⟨v, st₀, t, T', L, h0, X', hL, e1, e2, ⟨⟨r, u, hv, hp, hb⟩, hF⟩, st⟩ | ⟨q, st₀, t, T', L, E, ce, h0, X', hL, e1, e2, ⟨u, hp, hb, hF⟩, hce, hcv, hcl, st⟩
  · cases hv
    obtain ⟨k1, k2, k3⟩ := vx_keep h0 e1 hS hA hf hL hF
    obtain ⟨t2, a1, b1⟩ := kk r u t T'.heap (locs ++ L) e1.symm (by rw [← e2]; exact X'.warmed.alike) hp hb k1 k2 k3 T' rfl X'
    exact ⟨t2, st t2 a1, b1⟩
  · obtain ⟨k1, k2, k3⟩ := vx_keep h0 e1 hS hAX hf hL hF
    obtain ⟨t2, a1, b1⟩ := kx E ce q u t T'.heap (locs ++ L) e1.symm (by rw [← e2]; exact X'.warmed.alike) hp hb k1 k2 k3 (by rw [e1]; exact hce) hcv hcl T' rfl X'
    exact ⟨t2, st.trans a1, b1⟩
theorem vx_callf {S SX : Type} {post : UInt32 → S → Prop} {px : SX → Prop} {B : S → State → Prop} {BX : String → SX → State → Prop} {AX : Nat → Prop} (hr : vx_Run p l e R s m args below meth c H locs cells slots mc ms (F0 m pc ls st0) rest (va_Qf post B A1 a) (vx_X px BX AX) free) (hS : va_S A0 H0 H locs) (hA : ∀ q, q < H.size → A1 q → A0 q) (hf : ∀ q, free q → A0 q) (hAX : ∀ q, q < H.size → AX q → A0 q)
    (kx : ∀ (E : String) (ce : Cell) (q9 : Addr) (u : SX) (t : State) (H1 : Heap) (locs1 : List Loc), t.heap = H1 → s.vm.Alike t.vm → px u → BX E u t → H.size ≤ H1.size → (∀ q : Nat, q < H.size → ¬ AX q → H1[q]? = H[q]?) → va_S A0 H0 H1 locs1 → H1[q9]? = some ce → ce.vm = .none → s.vm.findClass E = some ce.cls → vx_W p l e R s m args below meth c H1 locs1 (cells + mc) (slots + ms) Q (F0 m pc ls rest) q9)
    (kk : ∀ (r : UInt32) (u : S) (t : State) (H1 : Heap) (locs1 : List Loc), t.heap = H1 → s.vm.Alike t.vm → post r u → B u t → H.size ≤ H1.size → (∀ q : Nat, q < H.size → ¬ A1 q → H1[q]? = H[q]?) → va_S A0 H0 H1 locs1 → W p l e R s m args below meth c H1 locs1 (cells + mc) (slots + ms) Q (F0 m (pc + 3) ls (.float r :: rest))) : W p l e R s m args below meth c H locs cells slots Q (F0 m pc ls st0) := by
  intro T hT X
  rcases hr T hT X with ⟨v, st₀, t, T', L, h0, X', hL, e1, e2, ⟨⟨r, u, hv, hp, hb⟩, hF⟩, st⟩ | ⟨q, st₀, t, T', L, E, ce, h0, X', hL, e1, e2, ⟨u, hp, hb, hF⟩, hce, hcv, hcl, st⟩
  · cases hv
    obtain ⟨k1, k2, k3⟩ := vx_keep h0 e1 hS hA hf hL hF
    obtain ⟨t2, a1, b1⟩ := kk r u t T'.heap (locs ++ L) e1.symm (by rw [← e2]; exact X'.warmed.alike) hp hb k1 k2 k3 T' rfl X'
    exact ⟨t2, st t2 a1, b1⟩
  · obtain ⟨k1, k2, k3⟩ := vx_keep h0 e1 hS hAX hf hL hF
    obtain ⟨t2, a1, b1⟩ := kx E ce q u t T'.heap (locs ++ L) e1.symm (by rw [← e2]; exact X'.warmed.alike) hp hb k1 k2 k3 (by rw [e1]; exact hce) hcv hcl T' rfl X'
    exact ⟨t2, st.trans a1, b1⟩
theorem vx_calld {S SX : Type} {post : UInt64 → S → Prop} {px : SX → Prop} {B : S → State → Prop} {BX : String → SX → State → Prop} {AX : Nat → Prop} (hr : vx_Run p l e R s m args below meth c H locs cells slots mc ms (F0 m pc ls st0) rest (va_Qd post B A1 a) (vx_X px BX AX) free) (hS : va_S A0 H0 H locs) (hA : ∀ q, q < H.size → A1 q → A0 q) (hf : ∀ q, free q → A0 q) (hAX : ∀ q, q < H.size → AX q → A0 q)
    (kx : ∀ (E : String) (ce : Cell) (q9 : Addr) (u : SX) (t : State) (H1 : Heap) (locs1 : List Loc), t.heap = H1 → s.vm.Alike t.vm → px u → BX E u t → H.size ≤ H1.size → (∀ q : Nat, q < H.size → ¬ AX q → H1[q]? = H[q]?) → va_S A0 H0 H1 locs1 → H1[q9]? = some ce → ce.vm = .none → s.vm.findClass E = some ce.cls → vx_W p l e R s m args below meth c H1 locs1 (cells + mc) (slots + ms) Q (F0 m pc ls rest) q9)
    (kk : ∀ (r : UInt64) (u : S) (t : State) (H1 : Heap) (locs1 : List Loc), t.heap = H1 → s.vm.Alike t.vm → post r u → B u t → H.size ≤ H1.size → (∀ q : Nat, q < H.size → ¬ A1 q → H1[q]? = H[q]?) → va_S A0 H0 H1 locs1 → W p l e R s m args below meth c H1 locs1 (cells + mc) (slots + ms) Q (F0 m (pc + 3) ls (.double r :: rest))) : W p l e R s m args below meth c H locs cells slots Q (F0 m pc ls st0) := by
  intro T hT X
  rcases hr T hT X with ⟨v, st₀, t, T', L, h0, X', hL, e1, e2, ⟨⟨r, u, hv, hp, hb⟩, hF⟩, st⟩ | ⟨q, st₀, t, T', L, E, ce, h0, X', hL, e1, e2, ⟨u, hp, hb, hF⟩, hce, hcv, hcl, st⟩
  · cases hv
    obtain ⟨k1, k2, k3⟩ := vx_keep h0 e1 hS hA hf hL hF
    obtain ⟨t2, a1, b1⟩ := kk r u t T'.heap (locs ++ L) e1.symm (by rw [← e2]; exact X'.warmed.alike) hp hb k1 k2 k3 T' rfl X'
    exact ⟨t2, st t2 a1, b1⟩
  · obtain ⟨k1, k2, k3⟩ := vx_keep h0 e1 hS hAX hf hL hF
    obtain ⟨t2, a1, b1⟩ := kx E ce q u t T'.heap (locs ++ L) e1.symm (by rw [← e2]; exact X'.warmed.alike) hp hb k1 k2 k3 (by rw [e1]; exact hce) hcv hcl T' rfl X'
    exact ⟨t2, st.trans a1, b1⟩
theorem vx_callv {S SX : Type} {post : S → Prop} {px : SX → Prop} {B : S → State → Prop} {BX : String → SX → State → Prop} {AX : Nat → Prop} (hr : vx_Run p l e R s m args below meth c H locs cells slots mc ms (F0 m pc ls st0) rest (va_Qv post B A1 a) (vx_X px BX AX) free) (hS : va_S A0 H0 H locs) (hA : ∀ q, q < H.size → A1 q → A0 q) (hf : ∀ q, free q → A0 q) (hAX : ∀ q, q < H.size → AX q → A0 q)
    (kx : ∀ (E : String) (ce : Cell) (q9 : Addr) (u : SX) (t : State) (H1 : Heap) (locs1 : List Loc), t.heap = H1 → s.vm.Alike t.vm → px u → BX E u t → H.size ≤ H1.size → (∀ q : Nat, q < H.size → ¬ AX q → H1[q]? = H[q]?) → va_S A0 H0 H1 locs1 → H1[q9]? = some ce → ce.vm = .none → s.vm.findClass E = some ce.cls → vx_W p l e R s m args below meth c H1 locs1 (cells + mc) (slots + ms) Q (F0 m pc ls rest) q9)
    (kk : ∀ (u : S) (t : State) (H1 : Heap) (locs1 : List Loc), t.heap = H1 → s.vm.Alike t.vm → post u → B u t → H.size ≤ H1.size → (∀ q : Nat, q < H.size → ¬ A1 q → H1[q]? = H[q]?) → va_S A0 H0 H1 locs1 → W p l e R s m args below meth c H1 locs1 (cells + mc) (slots + ms) Q (F0 m (pc + 3) ls (rest))) : W p l e R s m args below meth c H locs cells slots Q (F0 m pc ls st0) := by
  intro T hT X
  rcases hr T hT X with ⟨v, st₀, t, T', L, h0, X', hL, e1, e2, ⟨⟨u, hv, hp, hb⟩, hF⟩, st⟩ | ⟨q, st₀, t, T', L, E, ce, h0, X', hL, e1, e2, ⟨u, hp, hb, hF⟩, hce, hcv, hcl, st⟩
  · cases hv
    obtain ⟨k1, k2, k3⟩ := vx_keep h0 e1 hS hA hf hL hF
    obtain ⟨t2, a1, b1⟩ := kk u t T'.heap (locs ++ L) e1.symm (by rw [← e2]; exact X'.warmed.alike) hp hb k1 k2 k3 T' rfl X'
    exact ⟨t2, st t2 a1, b1⟩
  · obtain ⟨k1, k2, k3⟩ := vx_keep h0 e1 hS hAX hf hL hF
    obtain ⟨t2, a1, b1⟩ := kx E ce q u t T'.heap (locs ++ L) e1.symm (by rw [← e2]; exact X'.warmed.alike) hp hb k1 k2 k3 (by rw [e1]; exact hce) hcv hcl T' rfl X'
    exact ⟨t2, st.trans a1, b1⟩
/-- caught by the row x of this method's table; the rows ahead don't take it -/
theorem vx_catch {own name : String} {E : String} {ce : Cell} {q : Addr} (hown : s.vm.findClass own = some m.cls) (pre : List ExceptionTableEntry) (x : ExceptionTableEntry) (suf : List ExceptionTableEntry) (hsplit : c.exceptionTable.toList = pre ++ x :: suf)
    (hpass : ∀ z ∈ pre, covers z pc = false ∨ (z.catchType ≠ 0 ∧ ∃ nm : String, (Cond.classLink own z.catchType nm).before args s = true ∧ va_Nc E nm s)) (hx : covers x pc = true) (h0 : x.catchType ≠ 0)
    (hlink : (Cond.classLink own x.catchType name).before args s = true) (hcast : (Cond.castable E name).before args s = true) (hcell : H[q]? = some ce) (hv : ce.vm = .none) (hcl : s.vm.findClass E = some ce.cls)
    (kk : W p l e R s m args below meth c H locs cells slots Q (F0 m x.handlerPc ls [.ref q])) : vx_W p l e R s m args below meth c H locs cells slots Q (F0 m pc ls rest) q := by
  intro T hT X
  have hpl : e.platform.magicAccessors = ({} : Platform).magicAccessors := by rw [X.admits.platform]
  obtain ⟨c3, c4, hc3, hc4, hasg⟩ := Cond.castable_spec hcast
  cases Option.some.inj (hc3.symm.trans hcl)
  obtain ⟨c5, hc5, hcl5⟩ := Cond.classLink_spec hown hlink e.platform hpl
  cases Option.some.inj (hc4.symm.trans hc5)
  obtain ⟨vm', X', st⟩ := X.thenCaughtThrough q (g := F0 m pc ls rest) rfl (Steps.refl _) (by rw [hT]; exact hcell) (by rw [hv]; rfl) (by obtain ⟨k9, h9, -⟩ := Vm.findClass_spec hcl; exact ⟨k9, h9⟩) pre x suf hsplit
    (fun z hz => by
      rcases hpass z hz with h | ⟨hz0, nm, hl1, hn1⟩
      · exact Or.inl h
      · obtain ⟨c6, hc6, hcl6⟩ := Cond.classLink_spec hown hl1 e.platform hpl
        obtain ⟨a8, b8, h1, h2, h3⟩ := hn1
        cases Option.some.inj (h1.symm.trans hcl)
        cases Option.some.inj (h2.symm.trans hc6)
        exact Or.inr ⟨hz0, _, hcl6, h3⟩) hx (Or.inr ⟨h0, c4, hcl5, hasg⟩)
  obtain ⟨t, a1, b1⟩ := kk (T.setVm vm') hT X'
  exact ⟨t, st.trans a1, b1⟩
end Rows
section Ends
variable {p : Program} {l : Launch} {e : Env} {R : Room} {s : State} {m : MethodId} {args : Array Value} {below : List Frame} {meth : Method} {c : Code} {H : Heap} {locs : List Loc} {cells slots : Nat} {Q : State → Prop}
variable {mc ms : Nat} {free : Addr → Prop} {A0 A1 : Nat → Prop} {H0 : Heap} {a : Array Value} {ls : Array Slot} {st0 rest : List Value}
variable {Qc : Array Value → State → Outcome → State → Prop} {XC : String → State → State → Prop}
/-- what a body that may throw owes at its end -/
def vx_MQ (below : List Frame) (Qc : Array Value → State → Outcome → State → Prop) (XC : String → State → State → Prop) (a : Array Value) (s : State) (mc ms : Nat) (free : Addr → Prop) : State → Prop := fun t =>
  ∃ o, t.status = .running ∧ Ended t below o ∧ vx_Q Qc XC mc ms free a s o t
theorem vx_ret {g : JFrame} {mc ms : Nat} (k : W p l e R s m args below meth c H locs cells slots (MQ below Qc args s mc ms free) g) : W p l e R s m args below meth c H locs cells slots (vx_MQ below Qc XC args s mc ms free) g := by
  intro T hT X
  obtain ⟨t, a1, o, b1, b2, b3, b4⟩ := k T hT X
  exact ⟨t, a1, o, b1, b2, Or.inl ⟨b3, b4⟩⟩
/-- not caught here: it goes on to the caller -/
theorem vx_widen {g : JFrame} {q : Addr} {k n : Nat} (h1 : cells ≤ k) (h2 : slots ≤ n) (kk : vx_W p l e R s m args below meth c H locs k n Q g q) : vx_W p l e R s m args below meth c H locs cells slots Q g q := fun T hT X => kk T hT (stand_widen X h1 h2)
theorem vx_out {pc : Nat} {E : String} {ce : Cell} {q : Addr} {mc ms : Nat} (hout : ∀ x ∈ c.exceptionTable.toList, covers x pc = false) (hlocks : meth.locks = false) (hcell : H[q]? = some ce) (hv : ce.vm = .none) (hcl : s.vm.findClass E = some ce.cls)
    (hx : ∀ t : State, t.heap = H → s.vm.Alike t.vm → XC E s t) (hf : ∀ z ∈ locs, free z.base) (hc : cells ≤ mc) (hs : slots ≤ ms) :
    vx_W p l e R s m args below meth c H locs cells slots (vx_MQ below Qc XC args s mc ms free) (F0 m pc ls rest) q := by
  intro T hT X
  obtain ⟨st1, hrun, hend, hW, hsm⟩ := X.leaveThrown q (g := F0 m pc ls rest) rfl rfl rfl hout hlocks
  have hcell9 : (T.setFrames (.throwing q :: below)).heap[q]? = some ce := by
    show T.heap[q]? = some ce
    rw [hT]; exact hcell
  exact ⟨_, st1, .threw q, hrun, hend, Or.inr ⟨q, rfl, E, ce, locs, hx _ hT hW.alike, hcell9, hv, hcl, hW, hsm.mono hc hs, hf⟩⟩
theorem vx_frame {U : State} {k n : Nat} (h : s.sameButNew ({ U with vm := s.vm } : State) locs k n) : s.heap.size ≤ U.heap.size ∧ ∀ q : Nat, q < s.heap.size → (∀ z ∈ locs, z.base ≠ q) → U.heap[q]? = s.heap[q]? := by
  obtain ⟨-, h2, -, -, -, h6⟩ := h
  refine ⟨h2, fun q hq hz => ?_⟩
  obtain ⟨c9, e1, e2, e3, e4⟩ := h6 q _ (Array.getElem?_eq_getElem hq)
  have hs : c9.slots = (s.heap[q]).slots := Array.ext_getElem? fun i => e4 i fun hm => hz _ hm rfl
  have h9 : c9 = s.heap[q] := by
    rw [hs] at e2
    exact e2
  have e5 : U.heap[q]? = some c9 := e1
  rw [e5, h9, Array.getElem?_eq_getElem hq]
/-- the words of a throw but the four that speak of the heap -/
def vx_no (w : Cond) : Bool := decide (w ≠ .isRef (.static Bundle.tN "UNASSIGNED_STACK" Bundle.steD)) && decide (w ≠ .isRef (.static Bundle.tN "SUPPRESSED_SENTINEL" Bundle.listD)) && decide (w ≠ .laysStatic Bundle.tN "UNASSIGNED_STACK" Bundle.steD) && decide (w ≠ .laysStatic Bundle.tN "SUPPRESSED_SENTINEL" Bundle.listD)
def vx_at0 (own : String) (ic : Nat) (X : String) (names : List String) : List Cond := (Bundle.ownAtoms0 own ic X names).filter vx_no
def vx_atS (own : String) (ic : Nat) (X : String) (names : List String) : List Cond := (Bundle.ownAtoms own ic X names).filter vx_no
/-- a word that the tables alone decide, or a good one -/
def vx_ot (w : Cond) : Bool := w.onTables || goodWord w
theorem vx_ot_at {args a' : Array Value} {s U : State} {w : Cond} (hW : s.WarmedH U.vm) (hvm : s.vm = U.vm) (hg : vx_ot w = true) (h : w.before args s = true) : w.before a' U = true := by
  simp only [vx_ot, Bool.or_eq_true] at hg
  rcases hg with hg | hg
  · exact va_tabs hg hvm h
  · exact word_at hW (good_of_word hg) h
/-- a list's words: the good ones out of the method's own list, the others by premises of their own -/
theorem vx_hat {args : Array Value} {s : State} {L B : List Cond} (h1 : ∀ w ∈ L.filter goodWord, w.before args s = true) (h2 : ∀ w ∈ L.filter (fun w => !goodWord w), w ∈ B) (h3 : ∀ w ∈ B, w.before args s = true) : ∀ w ∈ L, w.before args s = true := by
  intro w hw
  by_cases g : goodWord w = true
  · exact h1 w (List.mem_filter.mpr ⟨hw, g⟩)
  · refine h3 w (h2 w (List.mem_filter.mpr ⟨hw, ?_⟩))
    show (!goodWord w) = true
    cases hgw : goodWord w
    · rfl
    · exact absurd hgw g
theorem vx_c {args : Array Value} {s : State} {w : Cond} {B : List Cond} (h : w.before args s = true) (t : ∀ w ∈ B, w.before args s = true) : ∀ w' ∈ w :: B, w'.before args s = true := fun w' h' => (List.mem_cons.mp h').elim (fun e => by rw [e]; exact h) (t w')
theorem vx_n {args : Array Value} {s : State} : ∀ w ∈ ([] : List Cond), w.before args s = true := fun _ h => nomatch h
theorem vx_own {args : Array Value} {s : State} {L : List Cond} (h1 : ∀ w ∈ L.filter vx_no, w.before args s = true)
    (hU : (Cond.isRef (.static Bundle.tN "UNASSIGNED_STACK" Bundle.steD)).before args s = true) (hN : (Cond.isRef (.static Bundle.tN "SUPPRESSED_SENTINEL" Bundle.listD)).before args s = true)
    (lU : (Cond.laysStatic Bundle.tN "UNASSIGNED_STACK" Bundle.steD).before args s = true) (lN : (Cond.laysStatic Bundle.tN "SUPPRESSED_SENTINEL" Bundle.listD).before args s = true) : ∀ w ∈ L, w.before args s = true := by
  intro w hw
  by_cases e1 : w = .isRef (.static Bundle.tN "UNASSIGNED_STACK" Bundle.steD)
  · rw [e1]; exact hU
  · by_cases e2 : w = .isRef (.static Bundle.tN "SUPPRESSED_SENTINEL" Bundle.listD)
    · rw [e2]; exact hN
    · by_cases e3 : w = .laysStatic Bundle.tN "UNASSIGNED_STACK" Bundle.steD
      · rw [e3]; exact lU
      · by_cases e4 : w = .laysStatic Bundle.tN "SUPPRESSED_SENTINEL" Bundle.listD
        · rw [e4]; exact lN
        · exact h1 w (List.mem_filter.mpr ⟨hw, by unfold vx_no; rw [decide_eq_true e1, decide_eq_true e2, decide_eq_true e3, decide_eq_true e4]; rfl⟩)
/-- where a static field lies, its class's statics cell in H -/
def vx_L (C n d : String) (A : Nat → Prop) (U : State) (H : Heap) : Prop := ∃ (c : ClassId) (k : Class) (i : Nat) (f : Field) (a : Nat) (cell : Cell), U.vm.findClass C = some c ∧ U.fieldFound? C n d = some (c, k, i, f) ∧ f.isStatic = true ∧ k.statics = some a ∧ H[a]? = some cell ∧ cell.vm.isStatics = true ∧ cell.cls = c ∧ f.slot < cell.slots.size ∧ k.staticTypes[f.slot]? = some f.type ∧ ¬ A a
theorem vx_L.moved {C n d : String} {A : Nat → Prop} {u U : State} {H : Heap} (hvm : u.vm.Alike U.vm) (h : vx_L C n d A u H) : vx_L C n d A U H := by
  obtain ⟨c, k, i, f, a, cell, h1, h2, h3, h4, h5, h6, h7, h8, h9, h10⟩ := h
  obtain ⟨k', hi', he⟩ := State.fieldFound?_setVm hvm h2
  exact ⟨c, k', i, f, a, cell, by rw [hvm.findClass]; exact h1, hi', h3, by rw [he]; exact h4, h5, h6, h7, h8, by rw [he]; exact h9, h10⟩
theorem vx_L.kept {C n d : String} {A : Nat → Prop} {U : State} {H H1 : Heap} (h : vx_L C n d A U H) (hq : ∀ a : Nat, a < H.size → ¬ A a → H1[a]? = H[a]?) : vx_L C n d A U H1 := by
  obtain ⟨c, k, i, f, a, cell, h1, h2, h3, h4, h5, h6, h7, h8, h9, h10⟩ := h
  exact ⟨c, k, i, f, a, cell, h1, h2, h3, h4, by rw [hq a (Array.getElem?_eq_some_iff.mp h5).1 h10]; exact h5, h6, h7, h8, h9, h10⟩
theorem vx_L.narrow {C n d : String} {A B : Nat → Prop} {U : State} {H : Heap} (h : vx_L C n d A U H) (hAB : ∀ q, B q → A q) : vx_L C n d B U H := by
  obtain ⟨c, k, i, f, a, cell, h1, h2, h3, h4, h5, h6, h7, h8, h9, h10⟩ := h
  exact ⟨c, k, i, f, a, cell, h1, h2, h3, h4, h5, h6, h7, h8, h9, fun z => h10 (hAB _ z)⟩
theorem vx_L.word {C n d : String} {A : Nat → Prop} {s : State} {args : Array Value} (h : vx_L C n d A s s.heap) : (Cond.laysStatic C n d).before args s = true := by
  obtain ⟨c, k, i, f, a, cell, h1, h2, h3, h4, h5, h6, h7, h8, h9, -⟩ := h
  show (Cond.laysStatic C n d).holds args s none s [] = true
  exact Cond.laysStatic_of h1 h2 h3 h4 h5 h6 h7 h8 h9
/-- .. and what it holds: null or some reference -/
def vx_Zq (C n d : String) (A : Nat → Prop) (U : State) (H : Heap) : Prop := va_Zq C n d A U H ∧ vx_L C n d A U H
theorem vx_Zq.moved {C n d : String} {A : Nat → Prop} {u U : State} {H : Heap} (hvm : u.vm.Alike U.vm) (h : vx_Zq C n d A u H) : vx_Zq C n d A U H := ⟨va_Zq.moved hvm h.1, vx_L.moved hvm h.2⟩
theorem vx_Zq.kept {C n d : String} {A : Nat → Prop} {U : State} {H H1 : Heap} (h : vx_Zq C n d A U H) (hq : ∀ a : Nat, a < H.size → ¬ A a → H1[a]? = H[a]?) : vx_Zq C n d A U H1 := ⟨va_Zq.kept h.1 hq, vx_L.kept h.2 hq⟩
theorem vx_Zq.narrow {C n d : String} {A B : Nat → Prop} {U : State} {H : Heap} (h : vx_Zq C n d A U H) (hAB : ∀ q, B q → A q) : vx_Zq C n d B U H := ⟨va_Zq.narrow h.1 hAB, vx_L.narrow h.2 hAB⟩
theorem vx_Zqof {args : Array Value} {s : State} {C n d : String} {A : Nat → Prop} (hl : (Cond.laysStatic C n d).before args s = true) (hini : (Cond.initialized C).before args s = true) (h : (Cond.isRef (.static C n d)).before args s = true) (hA : ∀ a : Nat, a < s.heap.size → ¬ A a) : vx_Zq C n d A s s.heap := by
  refine ⟨va_Zqof hl hini h hA, ?_⟩
  obtain ⟨c, k, i, f, a, cell, h1, h2, h3, h4, h5, h6, h7, h8, h9⟩ := Cond.laysStatic_spec hl
  exact ⟨c, k, i, f, a, cell, h1, h2, h3, h4, h5, h6, h7, h8, h9, hA a (Array.getElem?_eq_some_iff.mp h5).1⟩
theorem vx_isRef {C n d : String} {v : Value} {A : Nat → Prop} {s : State} {args : Array Value} (h : va_Z C n d v A s s.heap) (hv : v.isRef = true) : (Cond.isRef (.static C n d)).before args s = true := by
  obtain ⟨cf, kf, fi, f, a, cell, h1, h2, h3, h4, h5, h6, h7, -⟩ := h
  have he : (Term.static C n d).eval args s none [] s = some v := by
    simp [Term.eval, State.fieldNamed?, h1, h2, h4, h5, h6, h7]
  simp only [Cond.before, Cond.holds, Cond.value, he]
  cases v <;> simp_all [Value.isRef]
theorem vx_isRefq {C n d : String} {A : Nat → Prop} {s : State} {args : Array Value} (h : va_Zq C n d A s s.heap) : (Cond.isRef (.static C n d)).before args s = true := by
  rcases h with h | ⟨t, h⟩
  · exact vx_isRef h rfl
  · exact vx_isRef h rfl
/-- the same frame, seen from here: as if the method were called anew in this heap -/
theorem vx_rebase {T : State} (X : Stand p l e R s m args below meth c T locs cells slots) {R' : Room} (hf : R'.frames ≤ R.frames) (hl : R'.locals ≤ R.locals) (hc : cells + R'.cells ≤ R.cells) (hs : slots + R'.slots ≤ R.slots) :
    Stand p l e R' ((T.setVm s.vm).setFrames (.invoking m args :: below)) m args below meth c T [] 0 0 := by
  have htop : (T.setVm s.vm).topJava?.isSome := X.here.top
  have hF : ((T.setVm s.vm).setFrames (.invoking m args :: below)).frames = .invoking m args :: below := State.frames_setFrames _ (State.cur_lt_of_top htop)
  obtain ⟨g₀, hg0⟩ := Option.isSome_iff_exists.mp htop
  obtain ⟨r, hr⟩ := State.topJava?_eq_some.mp hg0
  have hl9 : e.platform.stackLimits (T.setVm s.vm).me = e.platform.stackLimits s.me := X.limits
  have hb9 : (T.setVm s.vm).me.stackBytes = s.me.stackBytes := X.bytes
  refine ⟨X.admits, X.cas, X.clock, hF, ?_, X.hears, X.method, X.code, X.here, X.tail, X.warmed, ?_, ?_, ?_⟩
  · have h := X.room
    have hU : ((T.setVm s.vm).setFrames (.invoking m args :: below)).localsInUse = s.localsInUse := by
      rw [State.localsInUse_invoking hF (meth := meth) (c := c) X.method X.code, State.localsInUse_invoking X.frames X.method X.code]
    simp only [State.hasRoom, Bool.and_eq_true, decide_eq_true_eq] at h ⊢
    obtain ⟨⟨⟨⟨h1, h2, h3, h4, h5, h6⟩, h7⟩, h8⟩, h9⟩ := h
    rw [X.frames, List.length_cons] at h2 h3
    have q1 := X.heapSize
    have q2 := X.used
    simp only [hF, hU, List.length_cons, State.stackLimits_setFrames, State.stackBytes_setFrames, hl9, hb9]
    refine ⟨⟨⟨⟨by omega, by omega, by omega, by omega, by omega, h6⟩, ?_⟩, ?_⟩, X.book⟩
    · show T.heap.size + R'.cells ≤ e.platform.maxCells
      omega
    · show T.slotsUsed + R'.slots ≤ e.platform.maxSlots
      omega
  · rw [State.stackLimits_setFrames]; rfl
  · rw [State.stackBytes_setFrames]; rfl
  · refine ⟨?_, Nat.le_refl _, Nat.le_refl _, ?_, ?_, fun a c9 h9 => ⟨c9, h9, rfl, rfl, fun _ _ => rfl⟩⟩
    · obtain ⟨t, ht, -⟩ := State.frames_cons hr
      show T.setVm s.vm = { ((T.setVm s.vm).setFrames (.invoking m args :: below)).setFrames (T.setVm s.vm).frames with heap := T.heap, slotsUsed := T.slotsUsed }
      rw [State.setFrames_setFrames, State.setFrames_self ht]
      rfl
    · show T.slotsUsed = T.slotsUsed + ((T.heap.toList.drop T.heap.size).map (·.slots.size)).sum
      rw [List.drop_eq_nil_of_le (Nat.le_of_eq Array.length_toList)]
      rfl
    · show ((T.heap.toList.drop T.heap.size).map (·.slots.size)).sum ≤ 0
      rw [List.drop_eq_nil_of_le (Nat.le_of_eq Array.length_toList)]
      exact Nat.le_refl _
/-- 'throw new E()': new; dup; invokespecial; athrow -/
theorem vx_throw0 {cc : ByteArray} {pc : Nat} (hexec : p.tables.exec = Jvm.exec) (hb : c.code = cc) (hl : l.stackTraces = false) {own cls : String} {names : List String} {ik ic mc ms : Nat} {A : Nat → Prop}
    (hown : s.vm.findClass own = some m.cls) (hcls : Bundle.fit cls = true) (hnames : ∀ n ∈ names, Bundle.fit n = true)
    (hk : (Cond.classLink own ik cls).before args s = true) (hini : (Cond.initialized cls).before args s = true) (hat : ∀ w ∈ vx_at0 own ic cls names, w.before args s = true)
    (hgood : ∀ w ∈ Cond.classLink own ik cls :: Cond.initialized cls :: vx_at0 own ic cls names, vx_ot w = true)
    (hU : vx_Zq Bundle.tN "UNASSIGNED_STACK" Bundle.steD A s s.heap) (hN : vx_Zq Bundle.tN "SUPPRESSED_SENTINEL" Bundle.listD A s s.heap) (hS : va_S A s.heap H locs) (hsize : ls.size = c.maxLocals)
    (d0 : decode cc pc = .ok (.new ik, 3)) (d3 : decode cc (pc + 3) = .ok (.dup, 1)) (d4 : decode cc (pc + 4) = .ok (.invokespecial ic, 3)) (d7 : decode cc (pc + 7) = .ok (.athrow, 1))
    (hout : ∀ x ∈ c.exceptionTable.toList, covers x (pc + 7) = false)
    (hRframes : names.length + 3 < R.frames) (hRlocals : (rest.map fun v => v.category).sum + (13 * (names.length + 1) + 42) ≤ R.locals) (hRcells : cells + 1 ≤ R.cells) (hRslots : slots + 6 ≤ R.slots) (hlocks : meth.locks = false)
    (hx : ∀ t : State, s.vm.Alike t.vm → H.size ≤ t.heap.size → (∀ q : Nat, q < H.size → t.heap[q]? = H[q]?) → XC cls s t)
    (hf : ∀ z ∈ locs, free z.base) (hc : cells + 1 ≤ mc) (hs : slots + 6 ≤ ms) :
    W p l e R s m args below meth c H locs cells slots (vx_MQ below Qc XC args s mc ms free) (F0 m pc ls rest) := by
  intro T hT X
  have htr : e.platform.stackTraces = false := (show e.platform.stackTraces = l.stackTraces by rw [X.admits.platform]).trans hl
  have Y := vx_rebase X (R' := { frames := R.frames, locals := R.locals, cells := 1, slots := 6 }) (Nat.le_refl _) (Nat.le_refl _) hRcells hRslots
  obtain ⟨s', hA⟩ : ∃ z, z = (T.setVm s.vm).setFrames (.invoking m args :: below) := ⟨_, rfl⟩
  rw [← hA] at Y
  have hvm : s'.vm = s.vm := by rw [hA]; rfl
  have hhp : s'.heap = H := by rw [hA]; exact hT
  have hW0 : s.WarmedH s'.vm := by rw [hvm]; exact State.WarmedH.refl s
  have hat' : ∀ w ∈ vx_at0 own ic cls names, w.before args s' = true := fun w hw => vx_ot_at hW0 hvm.symm (hgood w (List.mem_cons_of_mem _ (List.mem_cons_of_mem _ hw))) (hat w hw)
  have hk' : (Cond.classLink own ik cls).before args s' = true := vx_ot_at hW0 hvm.symm (hgood _ List.mem_cons_self) hk
  have hini' : (Cond.initialized cls).before args s' = true := vx_ot_at hW0 hvm.symm (hgood _ (List.mem_cons_of_mem _ List.mem_cons_self)) hini
  have hU' : vx_Zq Bundle.tN "UNASSIGNED_STACK" Bundle.steD A s' s'.heap := by rw [hhp]; exact vx_Zq.moved hW0.alike (hU.kept hS.2.1)
  have hN' : vx_Zq Bundle.tN "SUPPRESSED_SENTINEL" Bundle.listD A s' s'.heap := by rw [hhp]; exact vx_Zq.moved hW0.alike (hN.kept hS.2.1)
  have h : ∀ w ∈ Bundle.ownAtoms0 own ic cls names, w.before args s' = true := vx_own hat' (vx_isRefq hU'.1) (vx_isRefq hN'.1) hU'.2.word hN'.2.word
  have hown' : s'.vm.findClass own = some m.cls := by rw [hvm]; exact hown
  have hins : (Cond.instantiable cls 6).before args s' = true := h _ (by simp [Bundle.ownAtoms0])
  obtain ⟨vm₁, cX, kX, hfX, hkX, -, -, X₁, st1⟩ := Y.newCold hexec (own := own) (C := cls) (index := ik) (n := 6) hown' hk' hins hini'
    (g := F0 m pc ls rest) rfl (by rw [hb]; exact d0) (Nat.le_refl _) (Nat.le_refl _)
  generalize hT1 : (T.setVm vm₁).pushCell { cls := cX, slots := kX.instanceTypes.map defaultValue, vm := .none } = T1 at X₁ st1
  have hcat : (Value.ref T.heap.size).category = 1 := rfl
  have hcellA : T1.heap[T.heap.size]? = some (freshCell cX kX) := by rw [← hT1]; exact State.heap_pushCell_size _ _
  have d3' : decode c.code (pc + 3) = .ok (.dup, 1) := by rw [hb]; exact d3
  obtain ⟨U, hsteps, hrun, hend, hW, hsame, ce, hce, hO⟩ := X₁.ctorThrow0 hexec htr (own := own) (cls := cls) (names := names) (ic := ic) hown' hcls hnames h (fun x hx => nomatch hx) hfX hkX hcellA (by rw [hhp, hT]; exact Nat.le_refl _)
    (g := { method := m, pc := pc + 4, locals := ls, stack := .ref T.heap.size :: .ref T.heap.size :: rest, locked := none }) rfl hsize rfl rfl (rest := rest) rfl
    (by rw [hb]; exact d4) (by rw [hb]; exact d7) hout hRframes (by simp only [List.map_cons, List.sum_cons, hcat]; omega) hlocks
  obtain ⟨f1, f2⟩ := vx_frame hsame
  rw [hhp] at f1 f2
  have hWs : s.WarmedH U.vm := State.WarmedH.trans hW0 hW
  have hcl : s.vm.findClass cls = some ce.cls := by
    have h9 := hO.cls
    rw [hvm] at h9
    exact h9
  have hall : s.sameButNew ({ U with vm := s.vm } : State) locs mc ms := by
    subst hA
    obtain ⟨e1, e2⟩ := hsame
    rw [State.setFrames_setFrames] at e1
    have h2 : (T.setVm s.vm).sameButNew ({ U with vm := s.vm } : State) [] (0 + 1) (0 + 6) := ⟨e1, e2⟩
    have h3 := X.same.trans h2
    rw [List.append_nil] at h3
    exact h3.mono hc hs
  refine ⟨U, ?_, .threw T.heap.size, hrun, hend, Or.inr ⟨T.heap.size, rfl, cls, ce, locs, hx U hWs.alike f1 (fun q hq => f2 q hq (fun z hz => nomatch hz)), hce, hO.vm, hcl, hWs, hall, hf⟩⟩
  refine st1 _ ?_
  show Steps p.tables e below (T1.setTop { method := m, pc := pc + 3, locals := ls, stack := .ref T.heap.size :: rest, locked := none }) _
  jvm_step X₁.here [X₁.here.top, hexec, d3', Value.category]
  exact hsteps
/-- 'throw new E("text")': new; dup; ldc; invokespecial; athrow -/
theorem vx_throwS {cc : ByteArray} {pc : Nat} (hexec : p.tables.exec = Jvm.exec) (hb : c.code = cc) (hl : l.stackTraces = false) {own cls text : String} {names : List String} {ik is ic mc ms sa : Nat} {A : Nat → Prop}
    (hown : s.vm.findClass own = some m.cls) (hcls : Bundle.fit cls = true) (hnames : ∀ n ∈ names, Bundle.fit n = true)
    (hk : (Cond.classLink own ik cls).before args s = true) (hini : (Cond.initialized cls).before args s = true) (hstr : vk_R own is text sa s) (hat : ∀ w ∈ vx_atS own ic cls names, w.before args s = true)
    (hgood : ∀ w ∈ Cond.classLink own ik cls :: Cond.initialized cls :: vx_atS own ic cls names, vx_ot w = true)
    (hU : vx_Zq Bundle.tN "UNASSIGNED_STACK" Bundle.steD A s s.heap) (hN : vx_Zq Bundle.tN "SUPPRESSED_SENTINEL" Bundle.listD A s s.heap) (hS : va_S A s.heap H locs) (hsize : ls.size = c.maxLocals)
    (d0 : decode cc pc = .ok (.new ik, 3)) (d3 : decode cc (pc + 3) = .ok (.dup, 1)) (d4 : decode cc (pc + 4) = .ok (.ldc is, 2)) (d6 : decode cc (pc + 6) = .ok (.invokespecial ic, 3)) (d9 : decode cc (pc + 9) = .ok (.athrow, 1))
    (hout : ∀ x ∈ c.exceptionTable.toList, covers x (pc + 9) = false)
    (hRframes : names.length + 3 < R.frames) (hRlocals : (rest.map fun v => v.category).sum + (13 * (names.length + 1) + 43) ≤ R.locals) (hRcells : cells + 1 ≤ R.cells) (hRslots : slots + 6 ≤ R.slots) (hlocks : meth.locks = false)
    (hx : ∀ t : State, s.vm.Alike t.vm → H.size ≤ t.heap.size → (∀ q : Nat, q < H.size → t.heap[q]? = H[q]?) → XC cls s t)
    (hf : ∀ z ∈ locs, free z.base) (hc : cells + 1 ≤ mc) (hs : slots + 6 ≤ ms) :
    W p l e R s m args below meth c H locs cells slots (vx_MQ below Qc XC args s mc ms free) (F0 m pc ls rest) := by
  intro T hT X
  have htr : e.platform.stackTraces = false := (show e.platform.stackTraces = l.stackTraces by rw [X.admits.platform]).trans hl
  have Y := vx_rebase X (R' := { frames := R.frames, locals := R.locals, cells := 1, slots := 6 }) (Nat.le_refl _) (Nat.le_refl _) hRcells hRslots
  obtain ⟨s', hA⟩ : ∃ z, z = (T.setVm s.vm).setFrames (.invoking m args :: below) := ⟨_, rfl⟩
  rw [← hA] at Y
  have hvm : s'.vm = s.vm := by rw [hA]; rfl
  have hhp : s'.heap = H := by rw [hA]; exact hT
  have hW0 : s.WarmedH s'.vm := by rw [hvm]; exact State.WarmedH.refl s
  have hat' : ∀ w ∈ vx_atS own ic cls names, w.before args s' = true := fun w hw => vx_ot_at hW0 hvm.symm (hgood w (List.mem_cons_of_mem _ (List.mem_cons_of_mem _ hw))) (hat w hw)
  have hk' : (Cond.classLink own ik cls).before args s' = true := vx_ot_at hW0 hvm.symm (hgood _ List.mem_cons_self) hk
  have hini' : (Cond.initialized cls).before args s' = true := vx_ot_at hW0 hvm.symm (hgood _ (List.mem_cons_of_mem _ List.mem_cons_self)) hini
  have hU' : vx_Zq Bundle.tN "UNASSIGNED_STACK" Bundle.steD A s' s'.heap := by rw [hhp]; exact vx_Zq.moved hW0.alike (hU.kept hS.2.1)
  have hN' : vx_Zq Bundle.tN "SUPPRESSED_SENTINEL" Bundle.listD A s' s'.heap := by rw [hhp]; exact vx_Zq.moved hW0.alike (hN.kept hS.2.1)
  have h : ∀ w ∈ Bundle.ownAtoms own ic cls names, w.before args s' = true := vx_own hat' (vx_isRefq hU'.1) (vx_isRefq hN'.1) hU'.2.word hN'.2.word
  have hown' : s'.vm.findClass own = some m.cls := by rw [hvm]; exact hown
  have hins : (Cond.instantiable cls 6).before args s' = true := h _ (by simp [Bundle.ownAtoms])
  obtain ⟨vm₁, cX, kX, hfX, hkX, -, -, X₁, st1⟩ := Y.newCold hexec (own := own) (C := cls) (index := ik) (n := 6) hown' hk' hins hini'
    (g := F0 m pc ls rest) rfl (by rw [hb]; exact d0) (Nat.le_refl _) (Nat.le_refl _)
  generalize hT1 : (T.setVm vm₁).pushCell { cls := cX, slots := kX.instanceTypes.map defaultValue, vm := .none } = T1 at X₁ st1
  have hcat : (Value.ref T.heap.size).category = 1 := rfl
  have hcellA : T1.heap[T.heap.size]? = some (freshCell cX kX) := by rw [← hT1]; exact State.heap_pushCell_size _ _
  have d3' : decode c.code (pc + 3) = .ok (.dup, 1) := by rw [hb]; exact d3
  have d4' : decode c.code (pc + 4) = .ok (.ldc is, 2) := by rw [hb]; exact d4
  have hstr' : vk_R own is text sa s' := vk_R.warm hW0 hstr
  obtain ⟨U, hsteps, hrun, hend, hW, hsame, ce, hce, hO⟩ := X₁.ctorThrowS hexec htr (own := own) (cls := cls) (names := names) (ic := ic) hown' hcls hnames h (fun x hx => nomatch hx) hfX hkX hcellA (by rw [hhp, hT]; exact Nat.le_refl _) (msg := .ref sa) rfl
    (g := { method := m, pc := pc + 6, locals := ls, stack := .ref sa :: .ref T.heap.size :: .ref T.heap.size :: rest, locked := none }) rfl hsize rfl rfl (rest := rest) rfl
    (by rw [hb]; exact d6) (by rw [hb]; exact d9) hout hRframes (by simp only [List.map_cons, List.sum_cons, hcat]; omega) hlocks
  obtain ⟨f1, f2⟩ := vx_frame hsame
  rw [hhp] at f1 f2
  have hWs : s.WarmedH U.vm := State.WarmedH.trans hW0 hW
  have hcl : s.vm.findClass cls = some ce.cls := by
    have h9 := hO.cls
    rw [hvm] at h9
    exact h9
  have hall : s.sameButNew ({ U with vm := s.vm } : State) locs mc ms := by
    subst hA
    obtain ⟨e1, e2⟩ := hsame
    rw [State.setFrames_setFrames] at e1
    have h2 : (T.setVm s.vm).sameButNew ({ U with vm := s.vm } : State) [] (0 + 1) (0 + 6) := ⟨e1, e2⟩
    have h3 := X.same.trans h2
    rw [List.append_nil] at h3
    exact h3.mono hc hs
  refine ⟨U, ?_, .threw T.heap.size, hrun, hend, Or.inr ⟨T.heap.size, rfl, cls, ce, locs, hx U hWs.alike f1 (fun q hq => f2 q hq (fun z hz => nomatch hz)), hce, hO.vm, hcl, hWs, hall, hf⟩⟩
  refine st1 _ ?_
  show Steps p.tables e below (T1.setTop { method := m, pc := pc + 3, locals := ls, stack := .ref T.heap.size :: rest, locked := none }) _
  jvm_step X₁.here [X₁.here.top, hexec, d3', Value.category]
  exact X₁.ldcString hexec (own := own) (text := text) (index := is) (a := sa) hown' hstr'.1 hstr'.2
    (g := { method := m, pc := pc + 4, locals := ls, stack := .ref T.heap.size :: .ref T.heap.size :: rest, locked := none }) rfl d4' _ hsteps
/-- 'throw new E("text")', the text by a wide index -/
theorem vx_throwSW {cc : ByteArray} {pc : Nat} (hexec : p.tables.exec = Jvm.exec) (hb : c.code = cc) (hl : l.stackTraces = false) {own cls text : String} {names : List String} {ik is ic mc ms sa : Nat} {A : Nat → Prop}
    (hown : s.vm.findClass own = some m.cls) (hcls : Bundle.fit cls = true) (hnames : ∀ n ∈ names, Bundle.fit n = true)
    (hk : (Cond.classLink own ik cls).before args s = true) (hini : (Cond.initialized cls).before args s = true) (hstr : vk_R own is text sa s) (hat : ∀ w ∈ vx_atS own ic cls names, w.before args s = true)
    (hgood : ∀ w ∈ Cond.classLink own ik cls :: Cond.initialized cls :: vx_atS own ic cls names, vx_ot w = true)
    (hU : vx_Zq Bundle.tN "UNASSIGNED_STACK" Bundle.steD A s s.heap) (hN : vx_Zq Bundle.tN "SUPPRESSED_SENTINEL" Bundle.listD A s s.heap) (hS : va_S A s.heap H locs) (hsize : ls.size = c.maxLocals)
    (d0 : decode cc pc = .ok (.new ik, 3)) (d3 : decode cc (pc + 3) = .ok (.dup, 1)) (d4 : decode cc (pc + 4) = .ok (.ldc_w is, 3)) (d7 : decode cc (pc + 7) = .ok (.invokespecial ic, 3)) (d10 : decode cc (pc + 10) = .ok (.athrow, 1))
    (hout : ∀ x ∈ c.exceptionTable.toList, covers x (pc + 10) = false)
    (hRframes : names.length + 3 < R.frames) (hRlocals : (rest.map fun v => v.category).sum + (13 * (names.length + 1) + 43) ≤ R.locals) (hRcells : cells + 1 ≤ R.cells) (hRslots : slots + 6 ≤ R.slots) (hlocks : meth.locks = false)
    (hx : ∀ t : State, s.vm.Alike t.vm → H.size ≤ t.heap.size → (∀ q : Nat, q < H.size → t.heap[q]? = H[q]?) → XC cls s t)
    (hf : ∀ z ∈ locs, free z.base) (hc : cells + 1 ≤ mc) (hs : slots + 6 ≤ ms) :
    W p l e R s m args below meth c H locs cells slots (vx_MQ below Qc XC args s mc ms free) (F0 m pc ls rest) := by
  intro T hT X
  have htr : e.platform.stackTraces = false := (show e.platform.stackTraces = l.stackTraces by rw [X.admits.platform]).trans hl
  have Y := vx_rebase X (R' := { frames := R.frames, locals := R.locals, cells := 1, slots := 6 }) (Nat.le_refl _) (Nat.le_refl _) hRcells hRslots
  obtain ⟨s', hA⟩ : ∃ z, z = (T.setVm s.vm).setFrames (.invoking m args :: below) := ⟨_, rfl⟩
  rw [← hA] at Y
  have hvm : s'.vm = s.vm := by rw [hA]; rfl
  have hhp : s'.heap = H := by rw [hA]; exact hT
  have hW0 : s.WarmedH s'.vm := by rw [hvm]; exact State.WarmedH.refl s
  have hat' : ∀ w ∈ vx_atS own ic cls names, w.before args s' = true := fun w hw => vx_ot_at hW0 hvm.symm (hgood w (List.mem_cons_of_mem _ (List.mem_cons_of_mem _ hw))) (hat w hw)
  have hk' : (Cond.classLink own ik cls).before args s' = true := vx_ot_at hW0 hvm.symm (hgood _ List.mem_cons_self) hk
  have hini' : (Cond.initialized cls).before args s' = true := vx_ot_at hW0 hvm.symm (hgood _ (List.mem_cons_of_mem _ List.mem_cons_self)) hini
  have hU' : vx_Zq Bundle.tN "UNASSIGNED_STACK" Bundle.steD A s' s'.heap := by rw [hhp]; exact vx_Zq.moved hW0.alike (hU.kept hS.2.1)
  have hN' : vx_Zq Bundle.tN "SUPPRESSED_SENTINEL" Bundle.listD A s' s'.heap := by rw [hhp]; exact vx_Zq.moved hW0.alike (hN.kept hS.2.1)
  have h : ∀ w ∈ Bundle.ownAtoms own ic cls names, w.before args s' = true := vx_own hat' (vx_isRefq hU'.1) (vx_isRefq hN'.1) hU'.2.word hN'.2.word
  have hown' : s'.vm.findClass own = some m.cls := by rw [hvm]; exact hown
  have hins : (Cond.instantiable cls 6).before args s' = true := h _ (by simp [Bundle.ownAtoms])
  obtain ⟨vm₁, cX, kX, hfX, hkX, -, -, X₁, st1⟩ := Y.newCold hexec (own := own) (C := cls) (index := ik) (n := 6) hown' hk' hins hini'
    (g := F0 m pc ls rest) rfl (by rw [hb]; exact d0) (Nat.le_refl _) (Nat.le_refl _)
  generalize hT1 : (T.setVm vm₁).pushCell { cls := cX, slots := kX.instanceTypes.map defaultValue, vm := .none } = T1 at X₁ st1
  have hcat : (Value.ref T.heap.size).category = 1 := rfl
  have hcellA : T1.heap[T.heap.size]? = some (freshCell cX kX) := by rw [← hT1]; exact State.heap_pushCell_size _ _
  have d3' : decode c.code (pc + 3) = .ok (.dup, 1) := by rw [hb]; exact d3
  have d4' : decode c.code (pc + 4) = .ok (.ldc_w is, 3) := by rw [hb]; exact d4
  have hstr' : vk_R own is text sa s' := vk_R.warm hW0 hstr
  obtain ⟨U, hsteps, hrun, hend, hW, hsame, ce, hce, hO⟩ := X₁.ctorThrowS hexec htr (own := own) (cls := cls) (names := names) (ic := ic) hown' hcls hnames h (fun x hx => nomatch hx) hfX hkX hcellA (by rw [hhp, hT]; exact Nat.le_refl _) (msg := .ref sa) rfl
    (g := { method := m, pc := pc + 7, locals := ls, stack := .ref sa :: .ref T.heap.size :: .ref T.heap.size :: rest, locked := none }) rfl hsize rfl rfl (rest := rest) rfl
    (by rw [hb]; exact d7) (by rw [hb]; exact d10) hout hRframes (by simp only [List.map_cons, List.sum_cons, hcat]; omega) hlocks
  obtain ⟨f1, f2⟩ := vx_frame hsame
  rw [hhp] at f1 f2
  have hWs : s.WarmedH U.vm := State.WarmedH.trans hW0 hW
  have hcl : s.vm.findClass cls = some ce.cls := by
    have h9 := hO.cls
    rw [hvm] at h9
    exact h9
  have hall : s.sameButNew ({ U with vm := s.vm } : State) locs mc ms := by
    subst hA
    obtain ⟨e1, e2⟩ := hsame
    rw [State.setFrames_setFrames] at e1
    have h2 : (T.setVm s.vm).sameButNew ({ U with vm := s.vm } : State) [] (0 + 1) (0 + 6) := ⟨e1, e2⟩
    have h3 := X.same.trans h2
    rw [List.append_nil] at h3
    exact h3.mono hc hs
  refine ⟨U, ?_, .threw T.heap.size, hrun, hend, Or.inr ⟨T.heap.size, rfl, cls, ce, locs, hx U hWs.alike f1 (fun q hq => f2 q hq (fun z hz => nomatch hz)), hce, hO.vm, hcl, hWs, hall, hf⟩⟩
  refine st1 _ ?_
  show Steps p.tables e below (T1.setTop { method := m, pc := pc + 3, locals := ls, stack := .ref T.heap.size :: rest, locked := none }) _
  jvm_step X₁.here [X₁.here.top, hexec, d3', Value.category]
  exact X₁.ldcStringW hexec (own := own) (text := text) (index := is) (a := sa) hown' hstr'.1 hstr'.2
    (g := { method := m, pc := pc + 4, locals := ls, stack := .ref T.heap.size :: .ref T.heap.size :: rest, locked := none }) rfl d4' _ hsteps
end Ends
section Bodies
variable {l : Launch}
theorem vx_ofW {y : MethodName} {ws ws' : List Cond} {rm : Room} {Pc : Array Value → State → Prop} {Qc : Array Value → State → Outcome → State → Prop} {XC : String → State → State → Prop} {mc ms : Nat} {free : Addr → Prop} {cc : ByteArray} {maxL : Nat} {ret : Option FieldType}
    (hy : plainName y.cls = true) (hw : ws = Cond.code y cc maxL ret :: ws')
    (body : ∀ p e s m args below meth c s₁, BodyLoose p l y (headSpec ws rm) cc maxL ret e s m args below meth c s₁ → c.maxLocals = maxL → (∀ x ∈ c.exceptionTable.toList, False) → Pc args s →
      W p l e (headSpec ws rm).room s m args below meth c s.heap [] 0 0 (vx_MQ below Qc XC args s mc ms free) (entryFrame m args maxL)) : vx_Met l y ws rm Pc Qc XC mc ms free := by
  refine MetFree.of_bodyS (code := cc) (maxLocals := maxL) (ret := ret) hy ?_ ?_
  · intro args s m h hn
    obtain ⟨meth, c, h1, h2, h3, h4, h5, h6, -, -⟩ := Cond.code_spec hn (atoms_spec (ws := ws) h _ (by rw [hw]; exact List.mem_cons_self))
    exact ⟨meth, c, h1, h2, h3, h4, h5, h6⟩
  · intro p e s m args below meth c s₁ B hml hP _
    have hh0 : s₁.heap = s.heap := by rw [B.state]; rfl
    have ht : ∀ x ∈ c.exceptionTable.toList, False := by
      obtain ⟨meth9, c9, h1, h2, -, -, -, -, h7, -⟩ := Cond.code_spec B.named (atoms_spec (ws := ws) B.pre _ (by rw [hw]; exact List.mem_cons_self))
      cases Option.some.inj (h1.symm.trans B.method)
      cases Option.some.inj (h2.symm.trans (Stand.of_body B).code)
      intro x hx
      rw [Array.isEmpty_iff.mp h7] at hx
      cases hx
    obtain ⟨t, a1, o, b1, b2, b3⟩ := body p e s m args below meth c s₁ B hml ht hP s₁ hh0 (Stand.of_body B)
    exact ⟨t, o, a1, b1, b2, b3⟩
/-- the table of a body with handlers -/
theorem vx_table {p : Program} {x y : MethodName} {S : Spec} {cc bytes : ByteArray} {maxL maxL' : Nat} {ret ret' : Option FieldType} {e : Env} {s s₁ : State} {m : MethodId} {args : Array Value} {below : List Frame} {meth : Method} {c : Code} {hh : List (Nat × Nat × Nat × Nat)}
    (B : BodyLoose p l y S cc maxL ret e s m args below meth c s₁) (h : (Cond.codeWith y bytes maxL' ret' hh).before args s = true) : c.exceptionTable.toList = tableOf hh := by
  obtain ⟨m9, meth9, c9, hn9, h1, h2, -, -, h6, -⟩ := Cond.codeWith_spec h
  cases Option.some.inj (hn9.symm.trans B.named)
  cases Option.some.inj (h1.symm.trans B.method)
  cases Option.some.inj (h2.symm.trans (Stand.of_body B).code)
  rw [← h6, table_eq]
end Bodies
end VXA
/-! ===== END ===== -/
/-! ===== BEGIN a static call of a method with an exception table ===== -/
section VXS
variable {p : Program} {l : Launch} {e : Env} {R : Room} {s : State} {m : MethodId} {args : Array Value} {below : List Frame} {meth : Method} {c : Code} {T : State} {H : Heap} {locs : List Loc} {cells slots : Nat}
abbrev vx_CSW (R : Room) (s : State) (args : Array Value) (own : String) (index : Nat) (y : MethodName) (bytes : ByteArray) (maxL : Nat) (ret : Option FieldType) (hh : List (Nat × Nat × Nat × Nat)) (ws : List Cond) (rm : Room) (mc ms n : Nat) : Prop :=
  (rm.cells = mc ∧ rm.slots = ms ∧ rm.frames + 1 ≤ R.frames ∧ 8 + (maxL + 11) + rm.locals ≤ R.locals ∧ (∀ w ∈ ws, ∀ (a' : Array Value) (U : State), s.WarmedH U.vm → w.before a' U = true) ∧ Cond.codeWith y bytes maxL ret hh ∈ ws) ∧
  (Cond.codeWith y bytes maxL ret hh).before args s = true ∧ (Cond.initialized y.cls).before args s = true ∧ (y.cls ≠ "java/lang/invoke/MethodHandle" ∧ y.cls ≠ "java/lang/invoke/VarHandle") ∧
  (∀ sig, parseMethodDescriptor y.desc = some sig → n = sig.parameters.length) ∧ (Cond.methodLink own index y).before args s = true ∧ (Cond.static y).before args s = true
theorem vx_cwSW {own : String} {index maxL mc ms : Nat} {y : MethodName} {bytes : ByteArray} {ret : Option FieldType} {hh : List (Nat × Nat × Nat × Nat)} {Ts ws ws' : List Cond} {rm : Room} (n : Nat) (ht : ∀ w ∈ Ts, w.before args s = true) (hT : GoodIn Ts (va_wsS own index y ws)) (hw : ws = Cond.codeWith y bytes maxL ret hh :: ws') (hrc : rm.cells = mc) (hrs : rm.slots = ms)
    (hd : y.cls ≠ "java/lang/invoke/MethodHandle" ∧ y.cls ≠ "java/lang/invoke/VarHandle" ∧ (parseMethodDescriptor y.desc).map (fun d => d.parameters.length) = some n) (hR : rm.frames + 1 ≤ R.frames ∧ 8 + (maxL + 11) + rm.locals ≤ R.locals) :
    vx_CSW R s args own index y bytes maxL ret hh ws rm mc ms n := by
  have ok : ∀ w ∈ va_wsS own index y ws, w.before args s = true := fun w h => ht w (hT w h).1
  have hG : GoodIn Ts ws := fun w h => hT w (by unfold va_wsS; exact List.mem_append_right _ h)
  have hc : Cond.codeWith y bytes maxL ret hh ∈ ws := by rw [hw]; exact List.mem_cons_self
  refine ⟨⟨hrc, hrs, hR.1, hR.2, pay_in ht hG, hc⟩, ht _ (hG _ hc).1, ok _ (by simp [va_wsS]), ⟨hd.1, hd.2.1⟩, fun sig h => ?_, ok _ (by simp [va_wsS]), ok _ (by simp [va_wsS])⟩
  have h2 := hd.2.2
  rw [h] at h2
  exact (Option.some.inj h2).symm
theorem vx_callSW (X : Stand p l e R s m args below meth c T locs cells slots) (hexec : p.tables.exec = Jvm.exec) {own : String} {index : Nat} {y : MethodName} {bytes : ByteArray} {maxL : Nat} {ret : Option FieldType} {hh : List (Nat × Nat × Nat × Nat)}
    (hown : s.vm.findClass own = some m.cls) (hlink : (Cond.methodLink own index y).before args s = true) (hstat : (Cond.static y).before args s = true) (hinit : (Cond.initialized y.cls).before args s = true)
    (hcode : (Cond.codeWith y bytes maxL ret hh).before args s = true) (hy : y.cls ≠ "java/lang/invoke/MethodHandle" ∧ y.cls ≠ "java/lang/invoke/VarHandle")
    {W9 : Nat} {Pre : Pt → Array Value → Prop} {Post : Pt → Array Value → Option Value → Pt → Prop} (hK : Back l R p e below s args y 3 W9 Pre Post)
    {g : JFrame} (hg : g.method = m) (hsize : g.locals.size = c.maxLocals) {argsL rest : List Value} (hlen : ∀ sig, parseMethodDescriptor y.desc = some sig → argsL.length = sig.parameters.length)
    (hstack : g.stack = argsL.reverse ++ rest) (hW : 2 * g.monitorRoom + (rest.map fun v => v.category).sum ≤ W9) (hdg : decode c.code g.pc = .ok (.invokestatic index, 3))
    (hpre : ∀ vm₁, s.WarmedH vm₁ → Pre ⟨T.setVm vm₁, locs, cells, slots⟩ argsL.toArray) :
    ∃ (v : Option Value) (vm₁ : Vm) (B : Pt), s.WarmedH vm₁ ∧ Stand p l e R s m args below meth c B.U B.locs B.cells B.slots ∧ Post ⟨T.setVm vm₁, locs, cells, slots⟩ argsL.toArray v B ∧
      ∀ target, Steps p.tables e below (B.U.setTop { g with pc := g.pc + 3, stack := v.toList ++ rest }) target → Steps p.tables e below (T.setTop g) target := by
  obtain ⟨mk, methM, cM, hnamed, hmethM, -, -, -, -, -, -, hsigM⟩ := Cond.codeWith_spec hcode
  have hstatic : methM.isStatic = true := Cond.static_spec hnamed hmethM hstat
  obtain ⟨kP, hkP, -⟩ := className_of_methodNamed hnamed
  have hinitP : kP.init = .initialized := Cond.initialized_spec (findClass_of_methodNamed hnamed) hkP hinit
  obtain ⟨vm₁, X₁, hstep₁⟩ := X.invokestatic hexec hown hlink hnamed hmethM hstatic hkP hinitP hy (g := g) hg (argsL := argsL) (rest := rest) (hlen _ hsigM) hstack hdg
  obtain ⟨v, B, X', hpost, hsteps⟩ := hK m meth c ⟨T.setVm vm₁, locs, cells, slots⟩ { g with stack := rest } (.invokestatic index) mk argsL.toArray X₁ hg hsize hdg hW (X₁.named hnamed) (hpre vm₁ X₁.warmed)
  exact ⟨v, vm₁, B, X₁.warmed, X', hpost, fun target h => hstep₁ _ fun acts => by rw [doInvoke_state]; exact hsteps.trans h⟩
theorem vx_runSW {y : MethodName} {bytes cc : ByteArray} {maxL nL mc ms n index : Nat} {ret : Option FieldType} {hh : List (Nat × Nat × Nat × Nat)} {ws : List Cond} {rm : Room} {Pc : Array Value → State → Prop} {Qc : Array Value → State → Outcome → State → Prop} {free : Addr → Prop} {Ts : List Cond} {own : String} {As rest : List Value} {g : JFrame}
    (S : CallFix p m c cc nL s args Ts own) (hM : Met l y ws rm Pc Qc mc ms free) (cw : vx_CSW R s args own index y bytes maxL ret hh ws rm mc ms n) (hp : PreS s H Pc As)
    (hg : g.method = m) (hn : As.length = n) (hsize : g.locals.size = nL) (hstack : g.stack = As.reverse ++ rest) (hW : 2 * g.monitorRoom + (rest.map fun v => v.category).sum ≤ 8) (hdg : decode cc g.pc = .ok (.invokestatic index, 3)) (hf : cells + mc ≤ R.cells ∧ slots + ms ≤ R.slots) :
    va_Run p l e R s m args below meth c H locs cells slots mc ms g rest (Qc As.toArray) (free) := by
  obtain ⟨⟨hrc, hrs, hfr, hlo, hws, hcw⟩, hcode, hini, hy, hlen, hl, hstt⟩ := cw
  have hK : Back l R p e below s args y 3 8 (PreOf R mc ms Pc) (PostOf Qc mc ms free) := va_backW (hh := hh) (bytes := bytes) (maxL := maxL) (ret := ret) hM hp.1 hrc hrs hfr hlo hws hcw (fun a' U hW => word_at hW (Or.inl (by first | rfl | simp [Cond.onTables, Cond.keeps, Cond.steady])) hini)
  obtain ⟨hx, hb, hml, ho, -⟩ := S
  intro T hT X
  obtain ⟨v, vm₁, ⟨U', l2, c2, s2⟩, hW₁, X', ⟨g', mk, t, L, e1, e2, hq, h1, hL, h2, h3⟩, st⟩ := vx_callSW X hx (hh := hh) (bytes := bytes) (maxL := maxL) (ret := ret) ho hl hstt hini hcode hy hK hg (hsize.trans hml.symm) (argsL := As) (rest := rest) (fun sig h => hn.trans (hlen sig h)) hstack hW (by rw [hb]; exact hdg)
    (fun vm₁ hW₁ => ⟨hf.1, hf.2, hp.2 (T.setVm vm₁) hT hW₁⟩)
  dsimp only [Pt.U, Pt.locs, Pt.cells, Pt.slots] at X' e1 e2 h1 h2 h3 st
  subst h1; subst h2; subst h3
  exact ⟨v, (T.setVm vm₁).calling g' mk As.toArray, t, U', L, hT, X', hL, e1, e2, hq, st⟩
/-- not caught here, past rows that name other classes: it goes on to the caller -/
theorem vx_outP {p : Program} {l : Launch} {e : Env} {R : Room} {s : State} {m : MethodId} {args : Array Value} {below : List Frame} {meth : Method} {c : Code} {H : Heap} {locs : List Loc} {cells slots : Nat} {free : Addr → Prop} {ls : Array Slot} {rest : List Value} {Qc : Array Value → State → Outcome → State → Prop} {XC : String → State → State → Prop}
    {pc : Nat} {own E : String} {ce : Cell} {q : Addr} {mc ms : Nat} (hown : s.vm.findClass own = some m.cls) (hlocks : meth.locks = false)
    (hpass : ∀ z ∈ c.exceptionTable.toList, covers z pc = false ∨ (z.catchType ≠ 0 ∧ ∃ nm : String, (Cond.classLink own z.catchType nm).before args s = true ∧ va_Nc E nm s)) (hcell : H[q]? = some ce) (hv : ce.vm = .none) (hcl : s.vm.findClass E = some ce.cls)
    (hx : ∀ t : State, t.heap = H → s.vm.Alike t.vm → XC E s t) (hf : ∀ z ∈ locs, free z.base) (hc : cells ≤ mc) (hs : slots ≤ ms) :
    vx_W p l e R s m args below meth c H locs cells slots (vx_MQ below Qc XC args s mc ms free) (F0 m pc ls rest) q := by
  intro T hT X
  have hpl : e.platform.magicAccessors = ({} : Platform).magicAccessors := by rw [X.admits.platform]
  obtain ⟨vm', hW', X', st⟩ := X.outThrough hlocks q (g := F0 m pc ls rest) rfl rfl rfl (cell := ce) (by rw [hT]; exact hcell) (by rw [hv]; rfl)
    (by obtain ⟨k9, h9, -⟩ := Vm.findClass_spec hcl; exact ⟨k9, h9⟩) (fun z hz => by
      rcases hpass z hz with h | ⟨hz0, nm, hl1, hn1⟩
      · exact Or.inl h
      · obtain ⟨c6, hc6, hcl6⟩ := Cond.classLink_spec hown hl1 e.platform hpl
        obtain ⟨a8, b8, h1, h2, h3⟩ := hn1
        cases Option.some.inj (h1.symm.trans hcl)
        cases Option.some.inj (h2.symm.trans hc6)
        exact Or.inr ⟨hz0, _, hcl6, h3⟩)
  obtain ⟨g₀, hfr⟩ := X'.frames_eq
  have hcell9 : ((T.setVm vm').setFrames (.throwing q :: below)).heap[q]? = some ce := by
    show T.heap[q]? = some ce
    rw [hT]; exact hcell
  have hend : Ended ((T.setVm vm').setFrames (.throwing q :: below)) below (.threw q) := State.frames_setFrames _ (State.cur_lt_of_frames hfr)
  refine ⟨(T.setVm vm').setFrames (.throwing q :: below), ?_, .threw q, X'.here.running, hend, Or.inr ⟨q, rfl, E, ce, locs, hx _ hT (X'.ends _).1.alike, hcell9, hv, hcl, (X'.ends _).1, (X'.ends _).2.mono hc hs, hf⟩⟩
  rw [X.pushThrowing_eq]
  exact st
/-- a thing of a world lies in the heap -/
theorem vx_lt {D : va_G} {cl : List vw_C} {ws : va_W} {H1 : Heap} (h : va_P D cl ws H1) {k : Nat} {q : Nat × va_E} (hk : ws[k]? = some q) : q.1 < H1.size := (h k q hk).lt
end VXS
/-! ===== END ===== -/
/-! ===== BEGIN methods with a table of their own: called by a name, returning or throwing ===== -/
section VXH
/-! vx_backW, vx_callVX, vx_callSX, vx_callVW, vx_runVW, vx_runVX, vx_runSX, vx_ofWH follow the same proofs as their sisters above (Free/Laws.lean, Shelf42/LK1.lean); vx_outP calls Shelf42/NT130.lean (outThrough). -/
section
variable {l : Launch} {R : Room} {p : Program} {e : Env} {below : List Frame} {s : State} {sargs : Array Value} {y : MethodName} {len W9 : Nat}
theorem vx_backW {ws : List Cond} {rm : Room} {Pc : Array Value → State → Prop} {Qc : Array Value → State → Outcome → State → Prop} {XC : String → State → State → Prop} {mc ms : Nat} {free : Addr → Prop} {bytes : ByteArray} {maxL : Nat} {ret : Option FieldType} {hh : List (Nat × Nat × Nat × Nat)}
    (hM : vx_Met l y ws rm Pc Qc XC mc ms free) (hblind : FrameBlind Pc) (hrc : rm.cells = mc) (hrs : rm.slots = ms)
    (hframes : rm.frames + 1 ≤ R.frames) (hlocals : W9 + (maxL + 11) + rm.locals ≤ R.locals)
    (hws : ∀ w ∈ ws, ∀ a' U, s.WarmedH U.vm → w.before a' U = true) (hcode : Cond.codeWith y bytes maxL ret hh ∈ ws) (hinit : ∀ a' U, s.WarmedH U.vm → (Cond.initialized y.cls).before a' U = true) :
    vx_Back l R p e below s sargs y len W9 (PreOf R mc ms Pc) (PostOf Qc mc ms free) (vx_Post XC mc ms free) := by
  intro m meth c A g ig mk a X hg hsize hdg hW hn hp
  have h1 : (headSpec ws rm).pre.before a A.U = true := atoms_intro fun w hw => hws w hw _ _ X.warmed
  have h2 : (Cond.codeWith y bytes maxL ret hh).before a A.U = true := hws _ hcode _ _ X.warmed
  have h3 : (Cond.initialized y.cls).before a A.U = true := hinit _ _ X.warmed
  have h4 : A.cells + (headSpec ws rm).room.cells ≤ R.cells := by rw [show (headSpec ws rm).room.cells = mc from hrc]; exact hp.1
  have h5 : A.slots + (headSpec ws rm).room.slots ≤ R.slots := by rw [show (headSpec ws rm).room.slots = ms from hrs]; exact hp.2.1
  have hPc : Pc a (A.U.calling g mk a) := hblind _ _ _ _ hp.2.2
  obtain ⟨U, Ls, c0, s0⟩ := A
  dsimp only [Pt.U, Pt.locs, Pt.cells, Pt.slots] at h1 h2 h3 h4 h5 X hn hPc ⊢
  obtain ⟨m9, methY, cY, hn9, hmY, hcY, -, hlY, -⟩ := Cond.codeWith_spec h2
  cases Option.some.inj (hn9.symm.trans hn)
  obtain ⟨kY, hkY, -⟩ := className_of_methodNamed hn
  have hinitY : kY.init = .initialized := Cond.initialized_spec (findClass_of_methodNamed hn) hkY h3
  have h : At U g.method c below := by rw [hg]; exact X.here
  have hlocals9 : W9 + (maxL + 11) + (headSpec ws rm).room.locals ≤ R.locals := hlocals
  have happ : (headSpec ws rm).appliesLoose y e.platform (U.calling g mk a) = true :=
    Spec.appliesLoose_calling (g := g) h hdg hn hkY hinitY
      (X.room_calling (g := g) (R' := (headSpec ws rm).room) hsize hmY hcY hframes (by rw [hlY]; omega) h4 h5) h1
  obtain ⟨mid, hmid⟩ := h.above
  have hfr : (U.setTop g).frames = (.java g :: mid) ++ below := by rw [State.frames_setTop' g h.top, hmid]; rfl
  obtain ⟨o, s₂, hsteps, -, hend, hq⟩ := Steps.callFree hM p X.admits X.cas X.clock (acts := []) hfr happ hPc trivial
  have hq' : vx_Q Qc XC mc ms free a (U.calling g mk a) o s₂ := hq
  rw [State.frames_setTop' g h.top] at hend
  obtain ⟨g₀, hg0⟩ := Option.isSome_iff_exists.mp h.top
  obtain ⟨r, hr⟩ := State.topJava?_eq_some.mp hg0
  have hr' : (({ U with heap := s₂.heap, slotsUsed := s₂.slotsUsed } : State).setVm s₂.vm).frames = .java g₀ :: r := hr
  rcases hq' with ⟨hqc, L, hfe, hL⟩ | ⟨q, rfl, E, ce, L, hx, hce, hcv, hcl, hW₂, hsm, hL⟩
  · obtain ⟨⟨v, rfl⟩, hW₂, e2, q2, q3, q4, q5, q6⟩ := id hfe
    have e3 : s₂ = ({ (U.calling g mk a).setFrames s₂.frames with heap := s₂.heap, slotsUsed := s₂.slotsUsed } : State).setVm s₂.vm := by
      have : s₂ = ({ s₂ with vm := (U.calling g mk a).vm } : State).setVm s₂.vm := rfl
      rw [e2] at this
      exact this
    obtain ⟨c₂, i₂, len₂, hc₂, hd₂, hf₂⟩ := hend
    have hW' : U.WarmedH s₂.vm := hW₂
    have hcc : c₂ = c := by
      have h1 : s₂.code? g.method = U.code? g.method := by
        rw [State.code?_eq, State.code?_eq, hW'.alike.method?]
      exact Option.some.inj (hc₂.symm.trans (h1.trans h.code))
    subst hcc
    have hlen : len₂ = len := by rw [hdg] at hd₂; cases hd₂; rfl
    subst hlen
    have hs₂ : s₂ = (({ U with heap := s₂.heap, slotsUsed := s₂.slotsUsed } : State).setVm s₂.vm).setTop { g with pc := g.pc + len₂, stack := v.toList ++ g.stack } := by
      refine e3.trans ?_
      rw [hf₂, State.calling_eq h.top, State.setFrames_setFrames, State.setTop_of_frames _ hr', hr]
      rfl
    have hsame : U.sameButNew ({ U with heap := s₂.heap, slotsUsed := s₂.slotsUsed } : State) L mc ms := by
      refine ⟨?_, q2, q3, q4, q5, q6⟩
      obtain ⟨t, ht, -⟩ := State.frames_cons hr
      show ({ U with heap := s₂.heap, slotsUsed := s₂.slotsUsed } : State) = { U.setFrames U.frames with heap := s₂.heap, slotsUsed := s₂.slotsUsed }
      rw [State.setFrames_self ht]
    subst hg
    refine Or.inl ⟨v, ⟨(({ U with heap := s₂.heap, slotsUsed := s₂.slotsUsed } : State).setVm s₂.vm), Ls ++ L, c0 + mc, s0 + ms⟩,
      ⟨X.admits, X.cas, X.clock, X.frames, X.room, X.hears, X.method, X.code, (X.here.setHeapUsed s₂.heap s₂.slotsUsed).setVm hW'.alike, X.tail, State.WarmedH.trans X.warmed hW', X.limits, X.bytes, X.same.trans (hsame.setVm s.vm)⟩,
      ⟨g, mk, s₂, L, rfl, rfl, hqc, rfl, hL, rfl, rfl⟩, ?_⟩
    show Steps p.tables e below _ ((({ U with heap := s₂.heap, slotsUsed := s₂.slotsUsed } : State).setVm s₂.vm).setTop { g with pc := g.pc + len₂, stack := v.toList ++ g.stack })
    rw [← hs₂]
    exact hsteps
  · obtain ⟨e2, q2, q3, q4, q5, q6⟩ := id hsm
    have e3 : s₂ = ({ (U.calling g mk a).setFrames s₂.frames with heap := s₂.heap, slotsUsed := s₂.slotsUsed } : State).setVm s₂.vm := by
      have : s₂ = ({ s₂ with vm := (U.calling g mk a).vm } : State).setVm s₂.vm := rfl
      rw [e2] at this
      exact this
    have hf₂ : s₂.frames = .throwing q :: .java g :: U.frames.tail := hend
    have hW' : U.WarmedH s₂.vm := hW₂
    have hs₂ : s₂ = ((({ U with heap := s₂.heap, slotsUsed := s₂.slotsUsed } : State).setVm s₂.vm).setTop g).pushFrame (.throwing q) := by
      refine e3.trans ?_
      rw [hf₂, State.calling_eq h.top, State.setFrames_setFrames, State.pushFrame, State.frames_setTop _ hr', State.setTop_of_frames _ hr', State.setFrames_setFrames, hr]
      rfl
    have hsame : U.sameButNew ({ U with heap := s₂.heap, slotsUsed := s₂.slotsUsed } : State) L mc ms := by
      refine ⟨?_, q2, q3, q4, q5, q6⟩
      obtain ⟨t, ht, -⟩ := State.frames_cons hr
      show ({ U with heap := s₂.heap, slotsUsed := s₂.slotsUsed } : State) = { U.setFrames U.frames with heap := s₂.heap, slotsUsed := s₂.slotsUsed }
      rw [State.setFrames_self ht]
    subst hg
    refine Or.inr ⟨q, ⟨(({ U with heap := s₂.heap, slotsUsed := s₂.slotsUsed } : State).setVm s₂.vm), Ls ++ L, c0 + mc, s0 + ms⟩,
      ⟨X.admits, X.cas, X.clock, X.frames, X.room, X.hears, X.method, X.code, (X.here.setHeapUsed s₂.heap s₂.slotsUsed).setVm hW'.alike, X.tail, State.WarmedH.trans X.warmed hW', X.limits, X.bytes, X.same.trans (hsame.setVm s.vm)⟩,
      ⟨g, mk, s₂, L, E, ce, rfl, rfl, hx, hce, hcv, hcl, rfl, hL, rfl, rfl⟩, ?_⟩
    show Steps p.tables e below _ (((({ U with heap := s₂.heap, slotsUsed := s₂.slotsUsed } : State).setVm s₂.vm).setTop g).pushFrame (.throwing q))
    rw [← hs₂]
    exact hsteps
end
variable {p : Program} {l : Launch} {e : Env} {R : Room} {s : State} {m : MethodId} {args : Array Value} {below : List Frame} {meth : Method} {c : Code} {T : State} {H : Heap} {locs : List Loc} {cells slots : Nat}
theorem vx_callVX (X : Stand p l e R s m args below meth c T locs cells slots) (hexec : p.tables.exec = Jvm.exec) {own C : String} {index : Nat} {y : MethodName} {bytes : ByteArray} {maxL : Nat} {ret : Option FieldType} {hh : List (Nat × Nat × Nat × Nat)}
    (hown : s.vm.findClass own = some m.cls) (hlink : (Cond.methodLink own index y).before args s = true) (hinst : (Cond.instanceMethod y).before args s = true) (hsel : (Cond.selects C y y).before args s = true)
    (hcode : (Cond.codeWith y bytes maxL ret hh).before args s = true) (hy : y.cls ≠ "java/lang/invoke/MethodHandle" ∧ y.cls ≠ "java/lang/invoke/VarHandle")
    {W9 : Nat} {Pre : Pt → Array Value → Prop} {Post : Pt → Array Value → Option Value → Pt → Prop} {PostX : Pt → Array Value → Addr → Pt → Prop} (hK : vx_Back l R p e below s args y 3 W9 Pre Post PostX)
    {b : Addr} {cellB : Cell} (hcell : T.heap[b]? = some cellB) (hobj : cellB.vm.isStatics = false) (hcls : s.vm.findClass C = some cellB.cls)
    {g : JFrame} (hg : g.method = m) (hsize : g.locals.size = c.maxLocals) {argsL rest : List Value} (hlen : ∀ sig, parseMethodDescriptor y.desc = some sig → argsL.length = sig.parameters.length)
    (hstack : g.stack = argsL.reverse ++ .ref b :: rest) (hW : 2 * g.monitorRoom + (rest.map fun v => v.category).sum ≤ W9) (hdg : decode c.code g.pc = .ok (.invokevirtual index, 3))
    (hpre : ∀ vm₁, s.WarmedH vm₁ → Pre ⟨T.setVm vm₁, locs, cells, slots⟩ (Value.ref b :: argsL).toArray) :
    (∃ (v : Option Value) (vm₁ : Vm) (B : Pt), s.WarmedH vm₁ ∧ Stand p l e R s m args below meth c B.U B.locs B.cells B.slots ∧ Post ⟨T.setVm vm₁, locs, cells, slots⟩ (Value.ref b :: argsL).toArray v B ∧
      ∀ target, Steps p.tables e below (B.U.setTop { g with pc := g.pc + 3, stack := v.toList ++ rest }) target → Steps p.tables e below (T.setTop g) target) ∨
    (∃ (q : Addr) (vm₁ : Vm) (B : Pt), s.WarmedH vm₁ ∧ Stand p l e R s m args below meth c B.U B.locs B.cells B.slots ∧ PostX ⟨T.setVm vm₁, locs, cells, slots⟩ (Value.ref b :: argsL).toArray q B ∧
      Steps p.tables e below (T.setTop g) ((B.U.setTop { g with stack := rest }).pushFrame (.throwing q))) := by
  obtain ⟨mk, methM, hnamed, hmethM, hstM, habM⟩ := Cond.instanceMethod_spec hinst
  obtain ⟨m8, methM', cM, hn8, hmethM', -, -, -, -, -, -, hsigM⟩ := Cond.codeWith_spec hcode
  cases Option.some.inj (hn8.symm.trans hnamed)
  cases hmethM.symm.trans hmethM'
  obtain ⟨c2, r2, m2, q1, q2, q3, q4, kP, hkP, hkPi⟩ := Cond.selects_spec hsel
  cases hcls.symm.trans q1
  cases (State.methodFound?_of_named hnamed hy).symm.trans q2
  cases hnamed.symm.trans q3
  have hselP : selectMethod e.platform s.vm cellB.cls mk = .method mk := by rw [Launch.admits_selectMethod X.admits]; exact q4
  obtain ⟨vm₁, X₁, hstep₁⟩ := X.invokevirtual hexec hown hlink hnamed hmethM hstM hkP hkPi hy (a := b) (cell := cellB) hcell
    (fun z h => by rw [h] at hobj; cases hobj) hselP hmethM habM hkP hkPi (g := g) hg (argsL := argsL) (rest := rest) (hlen _ hsigM) hstack hdg
  rcases hK m meth c ⟨T.setVm vm₁, locs, cells, slots⟩ { g with stack := rest } (.invokevirtual index) mk (Value.ref b :: argsL).toArray X₁ hg hsize hdg hW (X₁.named hnamed) (hpre vm₁ X₁.warmed) with ⟨v, B, X', hpost, hsteps⟩ | ⟨q, B, X', hpost, hsteps⟩
  · exact Or.inl ⟨v, vm₁, B, X₁.warmed, X', hpost, fun target h => hstep₁ _ fun acts => by rw [doInvoke_state]; exact hsteps.trans h⟩
  · exact Or.inr ⟨q, vm₁, B, X₁.warmed, X', hpost, hstep₁ _ fun acts => by rw [doInvoke_state]; exact hsteps⟩
theorem vx_callSX (X : Stand p l e R s m args below meth c T locs cells slots) (hexec : p.tables.exec = Jvm.exec) {own : String} {index : Nat} {y : MethodName} {bytes : ByteArray} {maxL : Nat} {ret : Option FieldType} {hh : List (Nat × Nat × Nat × Nat)}
    (hown : s.vm.findClass own = some m.cls) (hlink : (Cond.methodLink own index y).before args s = true) (hstat : (Cond.static y).before args s = true) (hinit : (Cond.initialized y.cls).before args s = true)
    (hcode : (Cond.codeWith y bytes maxL ret hh).before args s = true) (hy : y.cls ≠ "java/lang/invoke/MethodHandle" ∧ y.cls ≠ "java/lang/invoke/VarHandle")
    {W9 : Nat} {Pre : Pt → Array Value → Prop} {Post : Pt → Array Value → Option Value → Pt → Prop} {PostX : Pt → Array Value → Addr → Pt → Prop} (hK : vx_Back l R p e below s args y 3 W9 Pre Post PostX)
    {g : JFrame} (hg : g.method = m) (hsize : g.locals.size = c.maxLocals) {argsL rest : List Value} (hlen : ∀ sig, parseMethodDescriptor y.desc = some sig → argsL.length = sig.parameters.length)
    (hstack : g.stack = argsL.reverse ++ rest) (hW : 2 * g.monitorRoom + (rest.map fun v => v.category).sum ≤ W9) (hdg : decode c.code g.pc = .ok (.invokestatic index, 3))
    (hpre : ∀ vm₁, s.WarmedH vm₁ → Pre ⟨T.setVm vm₁, locs, cells, slots⟩ argsL.toArray) :
    (∃ (v : Option Value) (vm₁ : Vm) (B : Pt), s.WarmedH vm₁ ∧ Stand p l e R s m args below meth c B.U B.locs B.cells B.slots ∧ Post ⟨T.setVm vm₁, locs, cells, slots⟩ argsL.toArray v B ∧
      ∀ target, Steps p.tables e below (B.U.setTop { g with pc := g.pc + 3, stack := v.toList ++ rest }) target → Steps p.tables e below (T.setTop g) target) ∨
    (∃ (q : Addr) (vm₁ : Vm) (B : Pt), s.WarmedH vm₁ ∧ Stand p l e R s m args below meth c B.U B.locs B.cells B.slots ∧ PostX ⟨T.setVm vm₁, locs, cells, slots⟩ argsL.toArray q B ∧
      Steps p.tables e below (T.setTop g) ((B.U.setTop { g with stack := rest }).pushFrame (.throwing q))) := by
  obtain ⟨mk, methM, cM, hnamed, hmethM, -, -, -, -, -, -, hsigM⟩ := Cond.codeWith_spec hcode
  have hstatic : methM.isStatic = true := Cond.static_spec hnamed hmethM hstat
  obtain ⟨kP, hkP, -⟩ := className_of_methodNamed hnamed
  have hinitP : kP.init = .initialized := Cond.initialized_spec (findClass_of_methodNamed hnamed) hkP hinit
  obtain ⟨vm₁, X₁, hstep₁⟩ := X.invokestatic hexec hown hlink hnamed hmethM hstatic hkP hinitP hy (g := g) hg (argsL := argsL) (rest := rest) (hlen _ hsigM) hstack hdg
  rcases hK m meth c ⟨T.setVm vm₁, locs, cells, slots⟩ { g with stack := rest } (.invokestatic index) mk argsL.toArray X₁ hg hsize hdg hW (X₁.named hnamed) (hpre vm₁ X₁.warmed) with ⟨v, B, X', hpost, hsteps⟩ | ⟨q, B, X', hpost, hsteps⟩
  · exact Or.inl ⟨v, vm₁, B, X₁.warmed, X', hpost, fun target h => hstep₁ _ fun acts => by rw [doInvoke_state]; exact hsteps.trans h⟩
  · exact Or.inr ⟨q, vm₁, B, X₁.warmed, X', hpost, hstep₁ _ fun acts => by rw [doInvoke_state]; exact hsteps⟩
theorem vx_callVW (X : Stand p l e R s m args below meth c T locs cells slots) (hexec : p.tables.exec = Jvm.exec) {own C : String} {index : Nat} {y : MethodName} {bytes : ByteArray} {maxL : Nat} {ret : Option FieldType} {hh : List (Nat × Nat × Nat × Nat)}
    (hown : s.vm.findClass own = some m.cls) (hlink : (Cond.methodLink own index y).before args s = true) (hinst : (Cond.instanceMethod y).before args s = true) (hsel : (Cond.selects C y y).before args s = true)
    (hcode : (Cond.codeWith y bytes maxL ret hh).before args s = true) (hy : y.cls ≠ "java/lang/invoke/MethodHandle" ∧ y.cls ≠ "java/lang/invoke/VarHandle")
    {W9 : Nat} {Pre : Pt → Array Value → Prop} {Post : Pt → Array Value → Option Value → Pt → Prop} (hK : Back l R p e below s args y 3 W9 Pre Post)
    {b : Addr} {cellB : Cell} (hcell : T.heap[b]? = some cellB) (hobj : cellB.vm.isStatics = false) (hcls : s.vm.findClass C = some cellB.cls)
    {g : JFrame} (hg : g.method = m) (hsize : g.locals.size = c.maxLocals) {argsL rest : List Value} (hlen : ∀ sig, parseMethodDescriptor y.desc = some sig → argsL.length = sig.parameters.length)
    (hstack : g.stack = argsL.reverse ++ .ref b :: rest) (hW : 2 * g.monitorRoom + (rest.map fun v => v.category).sum ≤ W9) (hdg : decode c.code g.pc = .ok (.invokevirtual index, 3))
    (hpre : ∀ vm₁, s.WarmedH vm₁ → Pre ⟨T.setVm vm₁, locs, cells, slots⟩ (Value.ref b :: argsL).toArray) :
    ∃ (v : Option Value) (vm₁ : Vm) (B : Pt), s.WarmedH vm₁ ∧ Stand p l e R s m args below meth c B.U B.locs B.cells B.slots ∧ Post ⟨T.setVm vm₁, locs, cells, slots⟩ (Value.ref b :: argsL).toArray v B ∧
      ∀ target, Steps p.tables e below (B.U.setTop { g with pc := g.pc + 3, stack := v.toList ++ rest }) target → Steps p.tables e below (T.setTop g) target := by
  obtain ⟨mk, methM, hnamed, hmethM, hstM, habM⟩ := Cond.instanceMethod_spec hinst
  obtain ⟨m8, methM', cM, hn8, hmethM', -, -, -, -, -, -, hsigM⟩ := Cond.codeWith_spec hcode
  cases Option.some.inj (hn8.symm.trans hnamed)
  cases hmethM.symm.trans hmethM'
  obtain ⟨c2, r2, m2, q1, q2, q3, q4, kP, hkP, hkPi⟩ := Cond.selects_spec hsel
  cases hcls.symm.trans q1
  cases (State.methodFound?_of_named hnamed hy).symm.trans q2
  cases hnamed.symm.trans q3
  have hselP : selectMethod e.platform s.vm cellB.cls mk = .method mk := by rw [Launch.admits_selectMethod X.admits]; exact q4
  obtain ⟨vm₁, X₁, hstep₁⟩ := X.invokevirtual hexec hown hlink hnamed hmethM hstM hkP hkPi hy (a := b) (cell := cellB) hcell
    (fun z h => by rw [h] at hobj; cases hobj) hselP hmethM habM hkP hkPi (g := g) hg (argsL := argsL) (rest := rest) (hlen _ hsigM) hstack hdg
  obtain ⟨v, B, X', hpost, hsteps⟩ := hK m meth c ⟨T.setVm vm₁, locs, cells, slots⟩ { g with stack := rest } (.invokevirtual index) mk (Value.ref b :: argsL).toArray X₁ hg hsize hdg hW (X₁.named hnamed) (hpre vm₁ X₁.warmed)
  exact ⟨v, vm₁, B, X₁.warmed, X', hpost, fun target h => hstep₁ _ fun acts => by rw [doInvoke_state]; exact hsteps.trans h⟩
abbrev vx_CVW (R : Room) (s : State) (args : Array Value) (own C : String) (index : Nat) (y : MethodName) (bytes : ByteArray) (maxL : Nat) (ret : Option FieldType) (hh : List (Nat × Nat × Nat × Nat)) (ws : List Cond) (rm : Room) (mc ms n : Nat) : Prop :=
  (rm.cells = mc ∧ rm.slots = ms ∧ rm.frames + 1 ≤ R.frames ∧ 8 + (maxL + 11) + rm.locals ≤ R.locals ∧ (∀ w ∈ ws, ∀ (a' : Array Value) (U : State), s.WarmedH U.vm → w.before a' U = true) ∧ Cond.codeWith y bytes maxL ret hh ∈ ws) ∧
  (Cond.codeWith y bytes maxL ret hh).before args s = true ∧ (Cond.initialized y.cls).before args s = true ∧ (y.cls ≠ "java/lang/invoke/MethodHandle" ∧ y.cls ≠ "java/lang/invoke/VarHandle") ∧
  (∀ sig, parseMethodDescriptor y.desc = some sig → n = sig.parameters.length) ∧ (Cond.methodLink own index y).before args s = true ∧ (Cond.instanceMethod y).before args s = true ∧ (Cond.selects C y y).before args s = true
theorem vx_cwVW {own C : String} {index maxL mc ms : Nat} {y : MethodName} {bytes : ByteArray} {ret : Option FieldType} {hh : List (Nat × Nat × Nat × Nat)} {Ts ws ws' : List Cond} {rm : Room} (n : Nat) (ht : ∀ w ∈ Ts, w.before args s = true) (hT : GoodIn Ts (wsV own index C y ws)) (hw : ws = Cond.codeWith y bytes maxL ret hh :: ws') (hrc : rm.cells = mc) (hrs : rm.slots = ms)
    (hd : y.cls = C ∧ y.cls ≠ "java/lang/invoke/MethodHandle" ∧ y.cls ≠ "java/lang/invoke/VarHandle" ∧ (parseMethodDescriptor y.desc).map (fun d => d.parameters.length) = some n) (hR : rm.frames + 1 ≤ R.frames ∧ 8 + (maxL + 11) + rm.locals ≤ R.locals) :
    vx_CVW R s args own C index y bytes maxL ret hh ws rm mc ms n := by
  obtain ⟨hC, hd⟩ := hd
  subst hC
  have ok : ∀ w ∈ wsV own index y.cls y ws, w.before args s = true := fun w h => ht w (hT w h).1
  have hG : GoodIn Ts ws := fun w h => hT w (by unfold wsV; exact List.mem_append_right _ h)
  have hc : Cond.codeWith y bytes maxL ret hh ∈ ws := by rw [hw]; exact List.mem_cons_self
  refine ⟨⟨hrc, hrs, hR.1, hR.2, pay_in ht hG, hc⟩, ht _ (hG _ hc).1, ok _ (by simp [wsV]), ⟨hd.1, hd.2.1⟩, fun sig h => ?_, ok _ (by simp [wsV]), ok _ (by simp [wsV]), ok _ (by simp [wsV])⟩
  have h2 := hd.2.2
  rw [h] at h2
  exact (Option.some.inj h2).symm
theorem vx_runVW {y : MethodName} {bytes cc : ByteArray} {maxL nL mc ms n index : Nat} {ret : Option FieldType} {hh : List (Nat × Nat × Nat × Nat)} {ws : List Cond} {rm : Room} {Pc : Array Value → State → Prop} {Qc : Array Value → State → Outcome → State → Prop} {free : Addr → Prop} {Ts : List Cond} {own C : String} {b : Addr} {As rest : List Value} {g : JFrame}
    (S : CallFix p m c cc nL s args Ts own) (hM : Met l y ws rm Pc Qc mc ms free) (cw : vx_CVW R s args own C index y bytes maxL ret hh ws rm mc ms n) (hp : PreV s H C b Pc As)
    (hg : g.method = m) (hn : As.length = n) (hsize : g.locals.size = nL) (hstack : g.stack = As.reverse ++ .ref b :: rest) (hW : 2 * g.monitorRoom + (rest.map fun v => v.category).sum ≤ 8) (hdg : decode cc g.pc = .ok (.invokevirtual index, 3)) (hf : cells + mc ≤ R.cells ∧ slots + ms ≤ R.slots) :
    va_Run p l e R s m args below meth c H locs cells slots mc ms g rest (Qc (Value.ref b :: As).toArray) free := by
  obtain ⟨⟨hrc, hrs, hfr, hlo, hws, hcw⟩, hcode, hini, hy, hlen, hl, hin, hse⟩ := cw
  have hK : Back l R p e below s args y 3 8 (PreOf R mc ms Pc) (PostOf Qc mc ms free) := va_backW (hh := hh) (bytes := bytes) (maxL := maxL) (ret := ret) hM hp.1 hrc hrs hfr hlo hws hcw (fun a' U hW => word_at hW (Or.inl (by first | rfl | simp [Cond.onTables, Cond.keeps, Cond.steady])) hini)
  obtain ⟨hx, hb, hml, ho, -⟩ := S
  obtain ⟨-, ⟨cellB, hcB, hoB, hclB⟩, hPc⟩ := hp
  intro T hT X
  obtain ⟨v, vm₁, ⟨U', l2, c2, s2⟩, hW₁, X', ⟨g', mk, t, L, e1, e2, hq, h1, hL, h2, h3⟩, st⟩ := vx_callVW X hx (C := C) (hh := hh) (bytes := bytes) (maxL := maxL) (ret := ret) ho hl hin hse hcode hy hK (by rw [hT]; exact hcB) hoB hclB hg (hsize.trans hml.symm) (argsL := As) (rest := rest) (fun sig h => hn.trans (hlen sig h)) hstack hW (by rw [hb]; exact hdg)
    (fun vm₁ hW₁ => ⟨hf.1, hf.2, hPc (T.setVm vm₁) hT hW₁⟩)
  dsimp only [Pt.U, Pt.locs, Pt.cells, Pt.slots] at X' e1 e2 h1 h2 h3 st
  subst h1; subst h2; subst h3
  exact ⟨v, (T.setVm vm₁).calling g' mk (Value.ref b :: As).toArray, t, U', L, hT, X', hL, e1, e2, hq, st⟩
section
variable {y : MethodName} {bytes cc : ByteArray} {maxL nL mc ms n index : Nat} {ret : Option FieldType} {ws : List Cond} {rm : Room} {Pc : Array Value → State → Prop} {Qc : Array Value → State → Outcome → State → Prop} {XC : String → State → State → Prop} {free : Addr → Prop} {Ts : List Cond} {own C : String} {b : Addr} {As rest : List Value} {g : JFrame}
theorem vx_runVX {hh : List (Nat × Nat × Nat × Nat)} (S : CallFix p m c cc nL s args Ts own) (hM : vx_Met l y ws rm Pc Qc XC mc ms free) (cw : vx_CVW R s args own C index y bytes maxL ret hh ws rm mc ms n) (hp : PreV s H C b Pc As)
    (hg : g.method = m) (hn : As.length = n) (hsize : g.locals.size = nL) (hstack : g.stack = As.reverse ++ .ref b :: rest) (hW : 2 * g.monitorRoom + (rest.map fun v => v.category).sum ≤ 8) (hdg : decode cc g.pc = .ok (.invokevirtual index, 3)) (hf : cells + mc ≤ R.cells ∧ slots + ms ≤ R.slots) :
    vx_Run p l e R s m args below meth c H locs cells slots mc ms g rest (Qc (Value.ref b :: As).toArray) XC free := by
  obtain ⟨⟨hrc, hrs, hfr, hlo, hws, hcw⟩, hcode, hini, hy, hlen, hl, hin, hse⟩ := cw
  have hK : vx_Back l R p e below s args y 3 8 (PreOf R mc ms Pc) (PostOf Qc mc ms free) (vx_Post XC mc ms free) := vx_backW (hh := hh) (bytes := bytes) (maxL := maxL) (ret := ret) hM hp.1 hrc hrs hfr hlo hws hcw (fun a' U hW => word_at hW (Or.inl (by first | rfl | simp [Cond.onTables, Cond.keeps, Cond.steady])) hini)
  obtain ⟨hx, hb, hml, ho, -⟩ := S
  obtain ⟨-, ⟨cellB, hcB, hoB, hclB⟩, hPc⟩ := hp
  intro T hT X
  rcases vx_callVX X hx (C := C) (hh := hh) (bytes := bytes) (maxL := maxL) (ret := ret) ho hl hin hse hcode hy hK (by rw [hT]; exact hcB) hoB hclB hg (hsize.trans hml.symm) (argsL := As) (rest := rest) (fun sig h => hn.trans (hlen sig h)) hstack hW (by rw [hb]; exact hdg)
    (fun vm₁ hW₁ => ⟨hf.1, hf.2, hPc (T.setVm vm₁) hT hW₁⟩) with ⟨v, vm₁, ⟨U', l2, c2, s2⟩, hW₁, X', ⟨g', mk, t, L, e1, e2, hq, h1, hL, h2, h3⟩, st⟩ | ⟨q, vm₁, ⟨U', l2, c2, s2⟩, hW₁, X', ⟨g', mk, t, L, E, ce, e1, e2, hq, hce, hcv, hcl, h1, hL, h2, h3⟩, st⟩
  · dsimp only [Pt.U, Pt.locs, Pt.cells, Pt.slots] at X' e1 e2 h1 h2 h3 st
    subst h1; subst h2; subst h3
    exact Or.inl ⟨v, (T.setVm vm₁).calling g' mk (Value.ref b :: As).toArray, t, U', L, hT, X', hL, e1, e2, hq, st⟩
  · dsimp only [Pt.U, Pt.locs, Pt.cells, Pt.slots] at X' e1 e2 h1 h2 h3 st hcl
    subst h1; subst h2; subst h3
    exact Or.inr ⟨q, (T.setVm vm₁).calling g' mk (Value.ref b :: As).toArray, t, U', L, E, ce, hT, X', hL, e1, e2, hq, hce, hcv, vx_cls hW₁ hcl, st⟩
theorem vx_runSX {hh : List (Nat × Nat × Nat × Nat)} (S : CallFix p m c cc nL s args Ts own) (hM : vx_Met l y ws rm Pc Qc XC mc ms free) (cw : vx_CSW R s args own index y bytes maxL ret hh ws rm mc ms n) (hp : PreS s H Pc As)
    (hg : g.method = m) (hn : As.length = n) (hsize : g.locals.size = nL) (hstack : g.stack = As.reverse ++ rest) (hW : 2 * g.monitorRoom + (rest.map fun v => v.category).sum ≤ 8) (hdg : decode cc g.pc = .ok (.invokestatic index, 3)) (hf : cells + mc ≤ R.cells ∧ slots + ms ≤ R.slots) :
    vx_Run p l e R s m args below meth c H locs cells slots mc ms g rest (Qc As.toArray) XC free := by
  obtain ⟨⟨hrc, hrs, hfr, hlo, hws, hcw⟩, hcode, hini, hy, hlen, hl, hstt⟩ := cw
  have hK : vx_Back l R p e below s args y 3 8 (PreOf R mc ms Pc) (PostOf Qc mc ms free) (vx_Post XC mc ms free) := vx_backW (hh := hh) (bytes := bytes) (maxL := maxL) (ret := ret) hM hp.1 hrc hrs hfr hlo hws hcw (fun a' U hW => word_at hW (Or.inl (by first | rfl | simp [Cond.onTables, Cond.keeps, Cond.steady])) hini)
  obtain ⟨hx, hb, hml, ho, -⟩ := S
  intro T hT X
  rcases vx_callSX X hx (hh := hh) (bytes := bytes) (maxL := maxL) (ret := ret) ho hl hstt hini hcode hy hK hg (hsize.trans hml.symm) (argsL := As) (rest := rest) (fun sig h => hn.trans (hlen sig h)) hstack hW (by rw [hb]; exact hdg)
    (fun vm₁ hW₁ => ⟨hf.1, hf.2, hp.2 (T.setVm vm₁) hT hW₁⟩) with ⟨v, vm₁, ⟨U', l2, c2, s2⟩, hW₁, X', ⟨g', mk, t, L, e1, e2, hq, h1, hL, h2, h3⟩, st⟩ | ⟨q, vm₁, ⟨U', l2, c2, s2⟩, hW₁, X', ⟨g', mk, t, L, E, ce, e1, e2, hq, hce, hcv, hcl, h1, hL, h2, h3⟩, st⟩
  · dsimp only [Pt.U, Pt.locs, Pt.cells, Pt.slots] at X' e1 e2 h1 h2 h3 st
    subst h1; subst h2; subst h3
    exact Or.inl ⟨v, (T.setVm vm₁).calling g' mk As.toArray, t, U', L, hT, X', hL, e1, e2, hq, st⟩
  · dsimp only [Pt.U, Pt.locs, Pt.cells, Pt.slots] at X' e1 e2 h1 h2 h3 st hcl
    subst h1; subst h2; subst h3
    exact Or.inr ⟨q, (T.setVm vm₁).calling g' mk As.toArray, t, U', L, E, ce, hT, X', hL, e1, e2, hq, hce, hcv, vx_cls hW₁ hcl, st⟩
end
end VXH
theorem vx_ofWH {l : Launch} {y : MethodName} {ws ws' : List Cond} {rm : Room} {Pc : Array Value → State → Prop} {Qc : Array Value → State → Outcome → State → Prop} {XC : String → State → State → Prop} {mc ms : Nat} {free : Addr → Prop} {cc : ByteArray} {maxL : Nat} {ret : Option FieldType} {hh : List (Nat × Nat × Nat × Nat)}
    (hy : plainName y.cls = true) (hw : ws = Cond.codeWith y cc maxL ret hh :: ws')
    (body : ∀ p e s m args below meth c s₁, BodyLoose p l y (headSpec ws rm) cc maxL ret e s m args below meth c s₁ → c.maxLocals = maxL → Pc args s →
      W p l e (headSpec ws rm).room s m args below meth c s.heap [] 0 0 (vx_MQ below Qc XC args s mc ms free) (entryFrame m args maxL)) : vx_Met l y ws rm Pc Qc XC mc ms free := by
  refine MetFree.of_bodyS (code := cc) (maxLocals := maxL) (ret := ret) hy ?_ ?_
  · intro args s m h hn
    obtain ⟨m9, meth, c, hn9, h1, h2, h3, h4, -, h5, h6, -⟩ := Cond.codeWith_spec (atoms_spec (ws := ws) h _ (by rw [hw]; exact List.mem_cons_self))
    cases hn.symm.trans hn9
    exact ⟨meth, c, h1, h2, h3, h4, h5, h6⟩
  · intro p e s m args below meth c s₁ B hml hP _
    have hh0 : s₁.heap = s.heap := by rw [B.state]; rfl
    obtain ⟨t, a1, o, b1, b2, b3⟩ := body p e s m args below meth c s₁ B hml hP s₁ hh0 (Stand.of_body B)
    exact ⟨t, o, a1, b1, b2, b3⟩
/-! ===== END ===== -/
end
section
theorem dX0_init_0 : decode cX0_init 0 = .ok (.aload_n 0, 1) := by decide +kernel
theorem dX0_init_1 : decode cX0_init 1 = .ok (.invokespecial 3, 3) := by decide +kernel
theorem dX0_init_4 : decode cX0_init 4 = .ok (.aload_n 0, 1) := by decide +kernel
theorem dX0_init_5 : decode cX0_init 5 = .ok (.bipush 40, 2) := by decide +kernel
theorem dX0_init_7 : decode cX0_init 7 = .ok (.newarray .int, 2) := by decide +kernel
theorem dX0_init_9 : decode cX0_init 9 = .ok (.putfield 9, 3) := by decide +kernel
theorem dX0_init_12 : decode cX0_init 12 = .ok (.aload_n 0, 1) := by decide +kernel
theorem dX0_init_13 : decode cX0_init 13 = .ok (.bipush 96, 2) := by decide +kernel
theorem dX0_init_15 : decode cX0_init 15 = .ok (.newarray .int, 2) := by decide +kernel
theorem dX0_init_17 : decode cX0_init 17 = .ok (.putfield 15, 3) := by decide +kernel
theorem dX0_init_20 : decode cX0_init 20 = .ok (.aload_n 0, 1) := by decide +kernel
theorem dX0_init_21 : decode cX0_init 21 = .ok (.bipush 16, 2) := by decide +kernel
theorem dX0_init_23 : decode cX0_init 23 = .ok (.newarray .int, 2) := by decide +kernel
theorem dX0_init_25 : decode cX0_init 25 = .ok (.putfield 18, 3) := by decide +kernel
theorem dX0_init_28 : decode cX0_init 28 = .ok (.aload_n 0, 1) := by decide +kernel
theorem dX0_init_29 : decode cX0_init 29 = .ok (.bipush 16, 2) := by decide +kernel
theorem dX0_init_31 : decode cX0_init 31 = .ok (.newarray .int, 2) := by decide +kernel
theorem dX0_init_33 : decode cX0_init 33 = .ok (.putfield 21, 3) := by decide +kernel
theorem dX0_init_36 : decode cX0_init 36 = .ok (.aload_n 0, 1) := by decide +kernel
theorem dX0_init_37 : decode cX0_init 37 = .ok (.bipush 16, 2) := by decide +kernel
theorem dX0_init_39 : decode cX0_init 39 = .ok (.newarray .int, 2) := by decide +kernel
theorem dX0_init_41 : decode cX0_init 41 = .ok (.putfield 24, 3) := by decide +kernel
theorem dX0_init_44 : decode cX0_init 44 = .ok (.aload_n 0, 1) := by decide +kernel
theorem dX0_init_45 : decode cX0_init 45 = .ok (.bipush 40, 2) := by decide +kernel
theorem dX0_init_47 : decode cX0_init 47 = .ok (.newarray .int, 2) := by decide +kernel
theorem dX0_init_49 : decode cX0_init 49 = .ok (.putfield 27, 3) := by decide +kernel
theorem dX0_init_52 : decode cX0_init 52 = .ok (.aload_n 0, 1) := by decide +kernel
theorem dX0_init_53 : decode cX0_init 53 = .ok (.iconst 4, 1) := by decide +kernel
theorem dX0_init_54 : decode cX0_init 54 = .ok (.newarray .int, 2) := by decide +kernel
theorem dX0_init_56 : decode cX0_init 56 = .ok (.putfield 30, 3) := by decide +kernel
theorem dX0_init_59 : decode cX0_init 59 = .ok (.aload_n 0, 1) := by decide +kernel
theorem dX0_init_60 : decode cX0_init 60 = .ok (.iconst 4, 1) := by decide +kernel
theorem dX0_init_61 : decode cX0_init 61 = .ok (.newarray .int, 2) := by decide +kernel
theorem dX0_init_63 : decode cX0_init 63 = .ok (.putfield 33, 3) := by decide +kernel
theorem dX0_init_66 : decode cX0_init 66 = .ok (.aload_n 0, 1) := by decide +kernel
theorem dX0_init_67 : decode cX0_init 67 = .ok (.iconst 3, 1) := by decide +kernel
theorem dX0_init_68 : decode cX0_init 68 = .ok (.newarray .int, 2) := by decide +kernel
theorem dX0_init_70 : decode cX0_init 70 = .ok (.putfield 36, 3) := by decide +kernel
theorem dX0_init_73 : decode cX0_init 73 = .ok (.aload_n 0, 1) := by decide +kernel
theorem dX0_init_74 : decode cX0_init 74 = .ok (.getfield 9, 3) := by decide +kernel
theorem dX0_init_77 : decode cX0_init 77 = .ok (.iconst (-1), 1) := by decide +kernel
theorem dX0_init_78 : decode cX0_init 78 = .ok (.invokestatic 39, 3) := by decide +kernel
theorem dX0_init_81 : decode cX0_init 81 = .ok (.aload_n 0, 1) := by decide +kernel
theorem dX0_init_82 : decode cX0_init 82 = .ok (.getfield 15, 3) := by decide +kernel
theorem dX0_init_85 : decode cX0_init 85 = .ok (.iconst (-1), 1) := by decide +kernel
theorem dX0_init_86 : decode cX0_init 86 = .ok (.invokestatic 39, 3) := by decide +kernel
theorem dX0_init_89 : decode cX0_init 89 = .ok (.aload_n 0, 1) := by decide +kernel
theorem dX0_init_90 : decode cX0_init 90 = .ok (.getfield 21, 3) := by decide +kernel
theorem dX0_init_93 : decode cX0_init 93 = .ok (.iconst (-1), 1) := by decide +kernel
theorem dX0_init_94 : decode cX0_init 94 = .ok (.invokestatic 39, 3) := by decide +kernel
theorem dX0_init_97 : decode cX0_init 97 = .ok (.aload_n 0, 1) := by decide +kernel
theorem dX0_init_98 : decode cX0_init 98 = .ok (.getfield 24, 3) := by decide +kernel
theorem dX0_init_101 : decode cX0_init 101 = .ok (.iconst (-1), 1) := by decide +kernel
theorem dX0_init_102 : decode cX0_init 102 = .ok (.invokestatic 39, 3) := by decide +kernel
theorem dX0_init_105 : decode cX0_init 105 = .ok (.aload_n 0, 1) := by decide +kernel
theorem dX0_init_106 : decode cX0_init 106 = .ok (.getfield 36, 3) := by decide +kernel
theorem dX0_init_109 : decode cX0_init 109 = .ok (.iconst 1, 1) := by decide +kernel
theorem dX0_init_110 : decode cX0_init 110 = .ok (.bipush 20, 2) := by decide +kernel
theorem dX0_init_112 : decode cX0_init 112 = .ok (.invokestatic 43, 3) := by decide +kernel
theorem dX0_init_115 : decode cX0_init 115 = .ok (.aload_n 0, 1) := by decide +kernel
theorem dX0_init_116 : decode cX0_init 116 = .ok (.getfield 36, 3) := by decide +kernel
theorem dX0_init_119 : decode cX0_init 119 = .ok (.iconst 2, 1) := by decide +kernel
theorem dX0_init_120 : decode cX0_init 120 = .ok (.iconst 1, 1) := by decide +kernel
theorem dX0_init_121 : decode cX0_init 121 = .ok (.invokestatic 43, 3) := by decide +kernel
theorem dX0_init_124 : decode cX0_init 124 = .ok (.return_, 1) := by decide +kernel
theorem dX0_copyFrom_0 : decode cX0_copyFrom 0 = .ok (.aload_n 1, 1) := by decide +kernel
theorem dX0_copyFrom_1 : decode cX0_copyFrom 1 = .ok (.getfield 9, 3) := by decide +kernel
theorem dX0_copyFrom_4 : decode cX0_copyFrom 4 = .ok (.aload_n 0, 1) := by decide +kernel
theorem dX0_copyFrom_5 : decode cX0_copyFrom 5 = .ok (.getfield 9, 3) := by decide +kernel
theorem dX0_copyFrom_8 : decode cX0_copyFrom 8 = .ok (.invokestatic 47, 3) := by decide +kernel
theorem dX0_copyFrom_11 : decode cX0_copyFrom 11 = .ok (.aload_n 1, 1) := by decide +kernel
theorem dX0_copyFrom_12 : decode cX0_copyFrom 12 = .ok (.getfield 15, 3) := by decide +kernel
theorem dX0_copyFrom_15 : decode cX0_copyFrom 15 = .ok (.aload_n 0, 1) := by decide +kernel
theorem dX0_copyFrom_16 : decode cX0_copyFrom 16 = .ok (.getfield 15, 3) := by decide +kernel
theorem dX0_copyFrom_19 : decode cX0_copyFrom 19 = .ok (.invokestatic 47, 3) := by decide +kernel
theorem dX0_copyFrom_22 : decode cX0_copyFrom 22 = .ok (.aload_n 1, 1) := by decide +kernel
theorem dX0_copyFrom_23 : decode cX0_copyFrom 23 = .ok (.getfield 18, 3) := by decide +kernel
theorem dX0_copyFrom_26 : decode cX0_copyFrom 26 = .ok (.aload_n 0, 1) := by decide +kernel
theorem dX0_copyFrom_27 : decode cX0_copyFrom 27 = .ok (.getfield 18, 3) := by decide +kernel
theorem dX0_copyFrom_30 : decode cX0_copyFrom 30 = .ok (.invokestatic 47, 3) := by decide +kernel
theorem dX0_copyFrom_33 : decode cX0_copyFrom 33 = .ok (.aload_n 1, 1) := by decide +kernel
theorem dX0_copyFrom_34 : decode cX0_copyFrom 34 = .ok (.getfield 21, 3) := by decide +kernel
theorem dX0_copyFrom_37 : decode cX0_copyFrom 37 = .ok (.aload_n 0, 1) := by decide +kernel
theorem dX0_copyFrom_38 : decode cX0_copyFrom 38 = .ok (.getfield 21, 3) := by decide +kernel
theorem dX0_copyFrom_41 : decode cX0_copyFrom 41 = .ok (.invokestatic 47, 3) := by decide +kernel
theorem dX0_copyFrom_44 : decode cX0_copyFrom 44 = .ok (.aload_n 1, 1) := by decide +kernel
theorem dX0_copyFrom_45 : decode cX0_copyFrom 45 = .ok (.getfield 24, 3) := by decide +kernel
theorem dX0_copyFrom_48 : decode cX0_copyFrom 48 = .ok (.aload_n 0, 1) := by decide +kernel
theorem dX0_copyFrom_49 : decode cX0_copyFrom 49 = .ok (.getfield 24, 3) := by decide +kernel
theorem dX0_copyFrom_52 : decode cX0_copyFrom 52 = .ok (.invokestatic 47, 3) := by decide +kernel
theorem dX0_copyFrom_55 : decode cX0_copyFrom 55 = .ok (.aload_n 1, 1) := by decide +kernel
theorem dX0_copyFrom_56 : decode cX0_copyFrom 56 = .ok (.getfield 27, 3) := by decide +kernel
theorem dX0_copyFrom_59 : decode cX0_copyFrom 59 = .ok (.aload_n 0, 1) := by decide +kernel
theorem dX0_copyFrom_60 : decode cX0_copyFrom 60 = .ok (.getfield 27, 3) := by decide +kernel
theorem dX0_copyFrom_63 : decode cX0_copyFrom 63 = .ok (.invokestatic 47, 3) := by decide +kernel
theorem dX0_copyFrom_66 : decode cX0_copyFrom 66 = .ok (.aload_n 1, 1) := by decide +kernel
theorem dX0_copyFrom_67 : decode cX0_copyFrom 67 = .ok (.getfield 30, 3) := by decide +kernel
theorem dX0_copyFrom_70 : decode cX0_copyFrom 70 = .ok (.aload_n 0, 1) := by decide +kernel
theorem dX0_copyFrom_71 : decode cX0_copyFrom 71 = .ok (.getfield 30, 3) := by decide +kernel
theorem dX0_copyFrom_74 : decode cX0_copyFrom 74 = .ok (.invokestatic 47, 3) := by decide +kernel
theorem dX0_copyFrom_77 : decode cX0_copyFrom 77 = .ok (.aload_n 1, 1) := by decide +kernel
theorem dX0_copyFrom_78 : decode cX0_copyFrom 78 = .ok (.getfield 33, 3) := by decide +kernel
theorem dX0_copyFrom_81 : decode cX0_copyFrom 81 = .ok (.aload_n 0, 1) := by decide +kernel
theorem dX0_copyFrom_82 : decode cX0_copyFrom 82 = .ok (.getfield 33, 3) := by decide +kernel
theorem dX0_copyFrom_85 : decode cX0_copyFrom 85 = .ok (.invokestatic 47, 3) := by decide +kernel
theorem dX0_copyFrom_88 : decode cX0_copyFrom 88 = .ok (.aload_n 1, 1) := by decide +kernel
theorem dX0_copyFrom_89 : decode cX0_copyFrom 89 = .ok (.getfield 36, 3) := by decide +kernel
theorem dX0_copyFrom_92 : decode cX0_copyFrom 92 = .ok (.aload_n 0, 1) := by decide +kernel
theorem dX0_copyFrom_93 : decode cX0_copyFrom 93 = .ok (.getfield 36, 3) := by decide +kernel
theorem dX0_copyFrom_96 : decode cX0_copyFrom 96 = .ok (.invokestatic 47, 3) := by decide +kernel
theorem dX0_copyFrom_99 : decode cX0_copyFrom 99 = .ok (.aload_n 0, 1) := by decide +kernel
theorem dX0_copyFrom_100 : decode cX0_copyFrom 100 = .ok (.aload_n 1, 1) := by decide +kernel
theorem dX0_copyFrom_101 : decode cX0_copyFrom 101 = .ok (.getfield 51, 3) := by decide +kernel
theorem dX0_copyFrom_104 : decode cX0_copyFrom 104 = .ok (.putfield 51, 3) := by decide +kernel
theorem dX0_copyFrom_107 : decode cX0_copyFrom 107 = .ok (.aload_n 0, 1) := by decide +kernel
theorem dX0_copyFrom_108 : decode cX0_copyFrom 108 = .ok (.aload_n 1, 1) := by decide +kernel
theorem dX0_copyFrom_109 : decode cX0_copyFrom 109 = .ok (.getfield 55, 3) := by decide +kernel
theorem dX0_copyFrom_112 : decode cX0_copyFrom 112 = .ok (.putfield 55, 3) := by decide +kernel
theorem dX0_copyFrom_115 : decode cX0_copyFrom 115 = .ok (.aload_n 0, 1) := by decide +kernel
theorem dX0_copyFrom_116 : decode cX0_copyFrom 116 = .ok (.aload_n 1, 1) := by decide +kernel
theorem dX0_copyFrom_117 : decode cX0_copyFrom 117 = .ok (.getfield 58, 3) := by decide +kernel
theorem dX0_copyFrom_120 : decode cX0_copyFrom 120 = .ok (.putfield 58, 3) := by decide +kernel
theorem dX0_copyFrom_123 : decode cX0_copyFrom 123 = .ok (.aload_n 0, 1) := by decide +kernel
theorem dX0_copyFrom_124 : decode cX0_copyFrom 124 = .ok (.aload_n 1, 1) := by decide +kernel
theorem dX0_copyFrom_125 : decode cX0_copyFrom 125 = .ok (.getfield 61, 3) := by decide +kernel
theorem dX0_copyFrom_128 : decode cX0_copyFrom 128 = .ok (.putfield 61, 3) := by decide +kernel
theorem dX0_copyFrom_131 : decode cX0_copyFrom 131 = .ok (.return_, 1) := by decide +kernel
theorem dX0_homeOf_0 : decode cX0_homeOf 0 = .ok (.aload_n 0, 1) := by decide +kernel
theorem dX0_homeOf_1 : decode cX0_homeOf 1 = .ok (.getfield 9, 3) := by decide +kernel
theorem dX0_homeOf_4 : decode cX0_homeOf 4 = .ok (.iload_n 1, 1) := by decide +kernel
theorem dX0_homeOf_5 : decode cX0_homeOf 5 = .ok (.invokestatic 64, 3) := by decide +kernel
theorem dX0_homeOf_8 : decode cX0_homeOf 8 = .ok (.ireturn, 1) := by decide +kernel
theorem dX0_isInBag_0 : decode cX0_isInBag 0 = .ok (.aload_n 0, 1) := by decide +kernel
theorem dX0_isInBag_1 : decode cX0_isInBag 1 = .ok (.getfield 9, 3) := by decide +kernel
theorem dX0_isInBag_4 : decode cX0_isInBag 4 = .ok (.iload_n 1, 1) := by decide +kernel
theorem dX0_isInBag_5 : decode cX0_isInBag 5 = .ok (.invokestatic 64, 3) := by decide +kernel
theorem dX0_isInBag_8 : decode cX0_isInBag 8 = .ok (.iconst (-1), 1) := by decide +kernel
theorem dX0_isInBag_9 : decode cX0_isInBag 9 = .ok (.if_icmp .ne 7, 3) := by decide +kernel
theorem dX0_isInBag_12 : decode cX0_isInBag 12 = .ok (.iconst 1, 1) := by decide +kernel
theorem dX0_isInBag_13 : decode cX0_isInBag 13 = .ok (.goto 4, 3) := by decide +kernel
theorem dX0_isInBag_16 : decode cX0_isInBag 16 = .ok (.iconst 0, 1) := by decide +kernel
theorem dX0_isInBag_17 : decode cX0_isInBag 17 = .ok (.ireturn, 1) := by decide +kernel
theorem dX0_sizeOf_0 : decode cX0_sizeOf 0 = .ok (.aload_n 0, 1) := by decide +kernel
theorem dX0_sizeOf_1 : decode cX0_sizeOf 1 = .ok (.getfield 18, 3) := by decide +kernel
theorem dX0_sizeOf_4 : decode cX0_sizeOf 4 = .ok (.iload_n 1, 1) := by decide +kernel
theorem dX0_sizeOf_5 : decode cX0_sizeOf 5 = .ok (.invokestatic 64, 3) := by decide +kernel
theorem dX0_sizeOf_8 : decode cX0_sizeOf 8 = .ok (.ireturn, 1) := by decide +kernel
theorem dX0_wordAt_0 : decode cX0_wordAt 0 = .ok (.iload_n 1, 1) := by decide +kernel
theorem dX0_wordAt_1 : decode cX0_wordAt 1 = .ok (.bipush 6, 2) := by decide +kernel
theorem dX0_wordAt_3 : decode cX0_wordAt 3 = .ok (.imul, 1) := by decide +kernel
theorem dX0_wordAt_4 : decode cX0_wordAt 4 = .ok (.iload_n 2, 1) := by decide +kernel
theorem dX0_wordAt_5 : decode cX0_wordAt 5 = .ok (.iadd, 1) := by decide +kernel
theorem dX0_wordAt_6 : decode cX0_wordAt 6 = .ok (.istore_n 3, 1) := by decide +kernel
theorem dX0_wordAt_7 : decode cX0_wordAt 7 = .ok (.iload_n 2, 1) := by decide +kernel
theorem dX0_wordAt_8 : decode cX0_wordAt 8 = .ok (.ifCond .lt 26, 3) := by decide +kernel
theorem dX0_wordAt_11 : decode cX0_wordAt 11 = .ok (.iload_n 2, 1) := by decide +kernel
theorem dX0_wordAt_12 : decode cX0_wordAt 12 = .ok (.bipush 6, 2) := by decide +kernel
theorem dX0_wordAt_14 : decode cX0_wordAt 14 = .ok (.if_icmp .ge 20, 3) := by decide +kernel
theorem dX0_wordAt_17 : decode cX0_wordAt 17 = .ok (.iload_n 3, 1) := by decide +kernel
theorem dX0_wordAt_18 : decode cX0_wordAt 18 = .ok (.ifCond .lt 16, 3) := by decide +kernel
theorem dX0_wordAt_21 : decode cX0_wordAt 21 = .ok (.iload_n 3, 1) := by decide +kernel
theorem dX0_wordAt_22 : decode cX0_wordAt 22 = .ok (.aload_n 0, 1) := by decide +kernel
theorem dX0_wordAt_23 : decode cX0_wordAt 23 = .ok (.getfield 15, 3) := by decide +kernel
theorem dX0_wordAt_26 : decode cX0_wordAt 26 = .ok (.arraylength, 1) := by decide +kernel
theorem dX0_wordAt_27 : decode cX0_wordAt 27 = .ok (.if_icmp .ge 7, 3) := by decide +kernel
theorem dX0_wordAt_30 : decode cX0_wordAt 30 = .ok (.iconst 1, 1) := by decide +kernel
theorem dX0_wordAt_31 : decode cX0_wordAt 31 = .ok (.goto 4, 3) := by decide +kernel
theorem dX0_wordAt_34 : decode cX0_wordAt 34 = .ok (.iconst 0, 1) := by decide +kernel
theorem dX0_wordAt_35 : decode cX0_wordAt 35 = .ok (.istore 4, 2) := by decide +kernel
theorem dX0_wordAt_37 : decode cX0_wordAt 37 = .ok (.iload 4, 2) := by decide +kernel
theorem dX0_wordAt_39 : decode cX0_wordAt 39 = .ok (.ifCond .eq 12, 3) := by decide +kernel
theorem dX0_wordAt_42 : decode cX0_wordAt 42 = .ok (.aload_n 0, 1) := by decide +kernel
theorem dX0_wordAt_43 : decode cX0_wordAt 43 = .ok (.getfield 15, 3) := by decide +kernel
theorem dX0_wordAt_46 : decode cX0_wordAt 46 = .ok (.iload_n 3, 1) := by decide +kernel
theorem dX0_wordAt_47 : decode cX0_wordAt 47 = .ok (.iaload, 1) := by decide +kernel
theorem dX0_wordAt_48 : decode cX0_wordAt 48 = .ok (.goto 4, 3) := by decide +kernel
theorem dX0_wordAt_51 : decode cX0_wordAt 51 = .ok (.iconst (-1), 1) := by decide +kernel
theorem dX0_wordAt_52 : decode cX0_wordAt 52 = .ok (.ireturn, 1) := by decide +kernel
theorem dX0_setWordAt_0 : decode cX0_setWordAt 0 = .ok (.iload_n 2, 1) := by decide +kernel
theorem dX0_setWordAt_1 : decode cX0_setWordAt 1 = .ok (.ifCond .lt 23, 3) := by decide +kernel
theorem dX0_setWordAt_4 : decode cX0_setWordAt 4 = .ok (.iload_n 2, 1) := by decide +kernel
theorem dX0_setWordAt_5 : decode cX0_setWordAt 5 = .ok (.bipush 6, 2) := by decide +kernel
theorem dX0_setWordAt_7 : decode cX0_setWordAt 7 = .ok (.if_icmp .ge 17, 3) := by decide +kernel
theorem dX0_setWordAt_10 : decode cX0_setWordAt 10 = .ok (.aload_n 0, 1) := by decide +kernel
theorem dX0_setWordAt_11 : decode cX0_setWordAt 11 = .ok (.getfield 15, 3) := by decide +kernel
theorem dX0_setWordAt_14 : decode cX0_setWordAt 14 = .ok (.iload_n 1, 1) := by decide +kernel
theorem dX0_setWordAt_15 : decode cX0_setWordAt 15 = .ok (.bipush 6, 2) := by decide +kernel
theorem dX0_setWordAt_17 : decode cX0_setWordAt 17 = .ok (.imul, 1) := by decide +kernel
theorem dX0_setWordAt_18 : decode cX0_setWordAt 18 = .ok (.iload_n 2, 1) := by decide +kernel
theorem dX0_setWordAt_19 : decode cX0_setWordAt 19 = .ok (.iadd, 1) := by decide +kernel
theorem dX0_setWordAt_20 : decode cX0_setWordAt 20 = .ok (.iload_n 3, 1) := by decide +kernel
theorem dX0_setWordAt_21 : decode cX0_setWordAt 21 = .ok (.invokestatic 43, 3) := by decide +kernel
theorem dX0_setWordAt_24 : decode cX0_setWordAt 24 = .ok (.return_, 1) := by decide +kernel
theorem dX0_placeOf_0 : decode cX0_placeOf 0 = .ok (.aload_n 0, 1) := by decide +kernel
theorem dX0_placeOf_1 : decode cX0_placeOf 1 = .ok (.getfield 9, 3) := by decide +kernel
theorem dX0_placeOf_4 : decode cX0_placeOf 4 = .ok (.iload_n 1, 1) := by decide +kernel
theorem dX0_placeOf_5 : decode cX0_placeOf 5 = .ok (.invokestatic 64, 3) := by decide +kernel
theorem dX0_placeOf_8 : decode cX0_placeOf 8 = .ok (.istore_n 2, 1) := by decide +kernel
theorem dX0_placeOf_9 : decode cX0_placeOf 9 = .ok (.iconst 0, 1) := by decide +kernel
theorem dX0_placeOf_10 : decode cX0_placeOf 10 = .ok (.istore_n 3, 1) := by decide +kernel
theorem dX0_placeOf_11 : decode cX0_placeOf 11 = .ok (.iload_n 3, 1) := by decide +kernel
theorem dX0_placeOf_12 : decode cX0_placeOf 12 = .ok (.aload_n 0, 1) := by decide +kernel
theorem dX0_placeOf_13 : decode cX0_placeOf 13 = .ok (.getfield 18, 3) := by decide +kernel
theorem dX0_placeOf_16 : decode cX0_placeOf 16 = .ok (.iload_n 2, 1) := by decide +kernel
theorem dX0_placeOf_17 : decode cX0_placeOf 17 = .ok (.invokestatic 64, 3) := by decide +kernel
theorem dX0_placeOf_20 : decode cX0_placeOf 20 = .ok (.if_icmp .ge 21, 3) := by decide +kernel
theorem dX0_placeOf_23 : decode cX0_placeOf 23 = .ok (.aload_n 0, 1) := by decide +kernel
theorem dX0_placeOf_24 : decode cX0_placeOf 24 = .ok (.iload_n 2, 1) := by decide +kernel
theorem dX0_placeOf_25 : decode cX0_placeOf 25 = .ok (.iload_n 3, 1) := by decide +kernel
theorem dX0_placeOf_26 : decode cX0_placeOf 26 = .ok (.invokevirtual 68, 3) := by decide +kernel
theorem dX0_placeOf_29 : decode cX0_placeOf 29 = .ok (.iload_n 1, 1) := by decide +kernel
theorem dX0_placeOf_30 : decode cX0_placeOf 30 = .ok (.if_icmp .ne 5, 3) := by decide +kernel
theorem dX0_placeOf_33 : decode cX0_placeOf 33 = .ok (.iload_n 3, 1) := by decide +kernel
theorem dX0_placeOf_34 : decode cX0_placeOf 34 = .ok (.ireturn, 1) := by decide +kernel
theorem dX0_placeOf_35 : decode cX0_placeOf 35 = .ok (.iinc 3 1, 3) := by decide +kernel
theorem dX0_placeOf_38 : decode cX0_placeOf 38 = .ok (.goto (-27), 3) := by decide +kernel
theorem dX0_placeOf_41 : decode cX0_placeOf 41 = .ok (.iconst (-1), 1) := by decide +kernel
theorem dX0_placeOf_42 : decode cX0_placeOf 42 = .ok (.ireturn, 1) := by decide +kernel
theorem dX0_bagToldByWords_0 : decode cX0_bagToldByWords 0 = .ok (.iconst 0, 1) := by decide +kernel
theorem dX0_bagToldByWords_1 : decode cX0_bagToldByWords 1 = .ok (.istore_n 1, 1) := by decide +kernel
theorem dX0_bagToldByWords_2 : decode cX0_bagToldByWords 2 = .ok (.iconst 0, 1) := by decide +kernel
theorem dX0_bagToldByWords_3 : decode cX0_bagToldByWords 3 = .ok (.istore_n 2, 1) := by decide +kernel
theorem dX0_bagToldByWords_4 : decode cX0_bagToldByWords 4 = .ok (.iload_n 2, 1) := by decide +kernel
theorem dX0_bagToldByWords_5 : decode cX0_bagToldByWords 5 = .ok (.aload_n 0, 1) := by decide +kernel
theorem dX0_bagToldByWords_6 : decode cX0_bagToldByWords 6 = .ok (.getfield 9, 3) := by decide +kernel
theorem dX0_bagToldByWords_9 : decode cX0_bagToldByWords 9 = .ok (.arraylength, 1) := by decide +kernel
theorem dX0_bagToldByWords_10 : decode cX0_bagToldByWords 10 = .ok (.if_icmp .ge 22, 3) := by decide +kernel
theorem dX0_bagToldByWords_13 : decode cX0_bagToldByWords 13 = .ok (.aload_n 0, 1) := by decide +kernel
theorem dX0_bagToldByWords_14 : decode cX0_bagToldByWords 14 = .ok (.getfield 9, 3) := by decide +kernel
theorem dX0_bagToldByWords_17 : decode cX0_bagToldByWords 17 = .ok (.iload_n 2, 1) := by decide +kernel
theorem dX0_bagToldByWords_18 : decode cX0_bagToldByWords 18 = .ok (.iaload, 1) := by decide +kernel
theorem dX0_bagToldByWords_19 : decode cX0_bagToldByWords 19 = .ok (.iconst (-1), 1) := by decide +kernel
theorem dX0_bagToldByWords_20 : decode cX0_bagToldByWords 20 = .ok (.if_icmp .ne 6, 3) := by decide +kernel
theorem dX0_bagToldByWords_23 : decode cX0_bagToldByWords 23 = .ok (.iinc 1 1, 3) := by decide +kernel
theorem dX0_bagToldByWords_26 : decode cX0_bagToldByWords 26 = .ok (.iinc 2 1, 3) := by decide +kernel
theorem dX0_bagToldByWords_29 : decode cX0_bagToldByWords 29 = .ok (.goto (-25), 3) := by decide +kernel
theorem dX0_bagToldByWords_32 : decode cX0_bagToldByWords 32 = .ok (.iload_n 1, 1) := by decide +kernel
theorem dX0_bagToldByWords_33 : decode cX0_bagToldByWords 33 = .ok (.ireturn, 1) := by decide +kernel
theorem dX0_bagToldByLines_0 : decode cX0_bagToldByLines 0 = .ok (.bipush 40, 2) := by decide +kernel
theorem dX0_bagToldByLines_2 : decode cX0_bagToldByLines 2 = .ok (.istore_n 1, 1) := by decide +kernel
theorem dX0_bagToldByLines_3 : decode cX0_bagToldByLines 3 = .ok (.iconst 0, 1) := by decide +kernel
theorem dX0_bagToldByLines_4 : decode cX0_bagToldByLines 4 = .ok (.istore_n 2, 1) := by decide +kernel
theorem dX0_bagToldByLines_5 : decode cX0_bagToldByLines 5 = .ok (.iload_n 2, 1) := by decide +kernel
theorem dX0_bagToldByLines_6 : decode cX0_bagToldByLines 6 = .ok (.aload_n 0, 1) := by decide +kernel
theorem dX0_bagToldByLines_7 : decode cX0_bagToldByLines 7 = .ok (.getfield 18, 3) := by decide +kernel
theorem dX0_bagToldByLines_10 : decode cX0_bagToldByLines 10 = .ok (.arraylength, 1) := by decide +kernel
theorem dX0_bagToldByLines_11 : decode cX0_bagToldByLines 11 = .ok (.if_icmp .ge 18, 3) := by decide +kernel
theorem dX0_bagToldByLines_14 : decode cX0_bagToldByLines 14 = .ok (.iload_n 1, 1) := by decide +kernel
theorem dX0_bagToldByLines_15 : decode cX0_bagToldByLines 15 = .ok (.aload_n 0, 1) := by decide +kernel
theorem dX0_bagToldByLines_16 : decode cX0_bagToldByLines 16 = .ok (.getfield 18, 3) := by decide +kernel
theorem dX0_bagToldByLines_19 : decode cX0_bagToldByLines 19 = .ok (.iload_n 2, 1) := by decide +kernel
theorem dX0_bagToldByLines_20 : decode cX0_bagToldByLines 20 = .ok (.iaload, 1) := by decide +kernel
theorem dX0_bagToldByLines_21 : decode cX0_bagToldByLines 21 = .ok (.isub, 1) := by decide +kernel
theorem dX0_bagToldByLines_22 : decode cX0_bagToldByLines 22 = .ok (.istore_n 1, 1) := by decide +kernel
theorem dX0_bagToldByLines_23 : decode cX0_bagToldByLines 23 = .ok (.iinc 2 1, 3) := by decide +kernel
theorem dX0_bagToldByLines_26 : decode cX0_bagToldByLines 26 = .ok (.goto (-21), 3) := by decide +kernel
theorem dX0_bagToldByLines_29 : decode cX0_bagToldByLines 29 = .ok (.iload_n 1, 1) := by decide +kernel
theorem dX0_bagToldByLines_30 : decode cX0_bagToldByLines 30 = .ok (.ireturn, 1) := by decide +kernel
theorem dX0_wordsOfDoor_0 : decode cX0_wordsOfDoor 0 = .ok (.iconst 0, 1) := by decide +kernel
theorem dX0_wordsOfDoor_1 : decode cX0_wordsOfDoor 1 = .ok (.istore_n 2, 1) := by decide +kernel
theorem dX0_wordsOfDoor_2 : decode cX0_wordsOfDoor 2 = .ok (.iconst 0, 1) := by decide +kernel
theorem dX0_wordsOfDoor_3 : decode cX0_wordsOfDoor 3 = .ok (.istore_n 3, 1) := by decide +kernel
theorem dX0_wordsOfDoor_4 : decode cX0_wordsOfDoor 4 = .ok (.iload_n 3, 1) := by decide +kernel
theorem dX0_wordsOfDoor_5 : decode cX0_wordsOfDoor 5 = .ok (.iconst 4, 1) := by decide +kernel
theorem dX0_wordsOfDoor_6 : decode cX0_wordsOfDoor 6 = .ok (.if_icmp .ge 24, 3) := by decide +kernel
theorem dX0_wordsOfDoor_9 : decode cX0_wordsOfDoor 9 = .ok (.iload_n 2, 1) := by decide +kernel
theorem dX0_wordsOfDoor_10 : decode cX0_wordsOfDoor 10 = .ok (.aload_n 0, 1) := by decide +kernel
theorem dX0_wordsOfDoor_11 : decode cX0_wordsOfDoor 11 = .ok (.getfield 18, 3) := by decide +kernel
theorem dX0_wordsOfDoor_14 : decode cX0_wordsOfDoor 14 = .ok (.iload_n 1, 1) := by decide +kernel
theorem dX0_wordsOfDoor_15 : decode cX0_wordsOfDoor 15 = .ok (.iload_n 3, 1) := by decide +kernel
theorem dX0_wordsOfDoor_16 : decode cX0_wordsOfDoor 16 = .ok (.invokestatic 72, 3) := by decide +kernel
theorem dX0_wordsOfDoor_19 : decode cX0_wordsOfDoor 19 = .ok (.invokestatic 64, 3) := by decide +kernel
theorem dX0_wordsOfDoor_22 : decode cX0_wordsOfDoor 22 = .ok (.iadd, 1) := by decide +kernel
theorem dX0_wordsOfDoor_23 : decode cX0_wordsOfDoor 23 = .ok (.istore_n 2, 1) := by decide +kernel
theorem dX0_wordsOfDoor_24 : decode cX0_wordsOfDoor 24 = .ok (.iinc 3 1, 3) := by decide +kernel
theorem dX0_wordsOfDoor_27 : decode cX0_wordsOfDoor 27 = .ok (.goto (-23), 3) := by decide +kernel
theorem dX0_wordsOfDoor_30 : decode cX0_wordsOfDoor 30 = .ok (.iload_n 2, 1) := by decide +kernel
theorem dX0_wordsOfDoor_31 : decode cX0_wordsOfDoor 31 = .ok (.ireturn, 1) := by decide +kernel
theorem dX0_insertWord_0 : decode cX0_insertWord 0 = .ok (.aload_n 0, 1) := by decide +kernel
theorem dX0_insertWord_1 : decode cX0_insertWord 1 = .ok (.getfield 18, 3) := by decide +kernel
theorem dX0_insertWord_4 : decode cX0_insertWord 4 = .ok (.iload_n 2, 1) := by decide +kernel
theorem dX0_insertWord_5 : decode cX0_insertWord 5 = .ok (.invokestatic 64, 3) := by decide +kernel
theorem dX0_insertWord_8 : decode cX0_insertWord 8 = .ok (.istore 4, 2) := by decide +kernel
theorem dX0_insertWord_10 : decode cX0_insertWord 10 = .ok (.iload 4, 2) := by decide +kernel
theorem dX0_insertWord_12 : decode cX0_insertWord 12 = .ok (.istore 5, 2) := by decide +kernel
theorem dX0_insertWord_14 : decode cX0_insertWord 14 = .ok (.iload 5, 2) := by decide +kernel
theorem dX0_insertWord_16 : decode cX0_insertWord 16 = .ok (.iload_n 3, 1) := by decide +kernel
theorem dX0_insertWord_17 : decode cX0_insertWord 17 = .ok (.if_icmp .le 25, 3) := by decide +kernel
theorem dX0_insertWord_20 : decode cX0_insertWord 20 = .ok (.aload_n 0, 1) := by decide +kernel
theorem dX0_insertWord_21 : decode cX0_insertWord 21 = .ok (.iload_n 2, 1) := by decide +kernel
theorem dX0_insertWord_22 : decode cX0_insertWord 22 = .ok (.iload 5, 2) := by decide +kernel
theorem dX0_insertWord_24 : decode cX0_insertWord 24 = .ok (.aload_n 0, 1) := by decide +kernel
theorem dX0_insertWord_25 : decode cX0_insertWord 25 = .ok (.iload_n 2, 1) := by decide +kernel
theorem dX0_insertWord_26 : decode cX0_insertWord 26 = .ok (.iload 5, 2) := by decide +kernel
theorem dX0_insertWord_28 : decode cX0_insertWord 28 = .ok (.iconst 1, 1) := by decide +kernel
theorem dX0_insertWord_29 : decode cX0_insertWord 29 = .ok (.isub, 1) := by decide +kernel
theorem dX0_insertWord_30 : decode cX0_insertWord 30 = .ok (.invokevirtual 68, 3) := by decide +kernel
theorem dX0_insertWord_33 : decode cX0_insertWord 33 = .ok (.invokevirtual 75, 3) := by decide +kernel
theorem dX0_insertWord_36 : decode cX0_insertWord 36 = .ok (.iinc 5 (-1), 3) := by decide +kernel
theorem dX0_insertWord_39 : decode cX0_insertWord 39 = .ok (.goto (-25), 3) := by decide +kernel
theorem dX0_insertWord_42 : decode cX0_insertWord 42 = .ok (.aload_n 0, 1) := by decide +kernel
theorem dX0_insertWord_43 : decode cX0_insertWord 43 = .ok (.iload_n 2, 1) := by decide +kernel
theorem dX0_insertWord_44 : decode cX0_insertWord 44 = .ok (.iload_n 3, 1) := by decide +kernel
theorem dX0_insertWord_45 : decode cX0_insertWord 45 = .ok (.iload_n 1, 1) := by decide +kernel
theorem dX0_insertWord_46 : decode cX0_insertWord 46 = .ok (.invokevirtual 75, 3) := by decide +kernel
theorem dX0_insertWord_49 : decode cX0_insertWord 49 = .ok (.aload_n 0, 1) := by decide +kernel
theorem dX0_insertWord_50 : decode cX0_insertWord 50 = .ok (.getfield 18, 3) := by decide +kernel
theorem dX0_insertWord_53 : decode cX0_insertWord 53 = .ok (.iload_n 2, 1) := by decide +kernel
theorem dX0_insertWord_54 : decode cX0_insertWord 54 = .ok (.iload 4, 2) := by decide +kernel
theorem dX0_insertWord_56 : decode cX0_insertWord 56 = .ok (.iconst 1, 1) := by decide +kernel
theorem dX0_insertWord_57 : decode cX0_insertWord 57 = .ok (.iadd, 1) := by decide +kernel
theorem dX0_insertWord_58 : decode cX0_insertWord 58 = .ok (.invokestatic 43, 3) := by decide +kernel
theorem dX0_insertWord_61 : decode cX0_insertWord 61 = .ok (.aload_n 0, 1) := by decide +kernel
theorem dX0_insertWord_62 : decode cX0_insertWord 62 = .ok (.getfield 9, 3) := by decide +kernel
theorem dX0_insertWord_65 : decode cX0_insertWord 65 = .ok (.iload_n 1, 1) := by decide +kernel
theorem dX0_insertWord_66 : decode cX0_insertWord 66 = .ok (.iload_n 2, 1) := by decide +kernel
theorem dX0_insertWord_67 : decode cX0_insertWord 67 = .ok (.invokestatic 43, 3) := by decide +kernel
theorem dX0_insertWord_70 : decode cX0_insertWord 70 = .ok (.aload_n 0, 1) := by decide +kernel
theorem dX0_insertWord_71 : decode cX0_insertWord 71 = .ok (.iload_n 2, 1) := by decide +kernel
theorem dX0_insertWord_72 : decode cX0_insertWord 72 = .ok (.iload_n 3, 1) := by decide +kernel
theorem dX0_insertWord_73 : decode cX0_insertWord 73 = .ok (.iload 4, 2) := by decide +kernel
theorem dX0_insertWord_75 : decode cX0_insertWord 75 = .ok (.if_icmp .ne 7, 3) := by decide +kernel
theorem dX0_insertWord_78 : decode cX0_insertWord 78 = .ok (.iconst 1, 1) := by decide +kernel
theorem dX0_insertWord_79 : decode cX0_insertWord 79 = .ok (.goto 4, 3) := by decide +kernel
theorem dX0_insertWord_82 : decode cX0_insertWord 82 = .ok (.iconst 0, 1) := by decide +kernel
theorem dX0_insertWord_83 : decode cX0_insertWord 83 = .ok (.invokevirtual 79, 3) := by decide +kernel
theorem dX0_insertWord_86 : decode cX0_insertWord 86 = .ok (.return_, 1) := by decide +kernel
theorem dX0_removeWord_0 : decode cX0_removeWord 0 = .ok (.aload_n 0, 1) := by decide +kernel
theorem dX0_removeWord_1 : decode cX0_removeWord 1 = .ok (.getfield 9, 3) := by decide +kernel
theorem dX0_removeWord_4 : decode cX0_removeWord 4 = .ok (.iload_n 1, 1) := by decide +kernel
theorem dX0_removeWord_5 : decode cX0_removeWord 5 = .ok (.invokestatic 64, 3) := by decide +kernel
theorem dX0_removeWord_8 : decode cX0_removeWord 8 = .ok (.istore_n 2, 1) := by decide +kernel
theorem dX0_removeWord_9 : decode cX0_removeWord 9 = .ok (.aload_n 0, 1) := by decide +kernel
theorem dX0_removeWord_10 : decode cX0_removeWord 10 = .ok (.iload_n 1, 1) := by decide +kernel
theorem dX0_removeWord_11 : decode cX0_removeWord 11 = .ok (.invokevirtual 83, 3) := by decide +kernel
theorem dX0_removeWord_14 : decode cX0_removeWord 14 = .ok (.istore_n 3, 1) := by decide +kernel
theorem dX0_removeWord_15 : decode cX0_removeWord 15 = .ok (.iload_n 3, 1) := by decide +kernel
theorem dX0_removeWord_16 : decode cX0_removeWord 16 = .ok (.iconst (-1), 1) := by decide +kernel
theorem dX0_removeWord_17 : decode cX0_removeWord 17 = .ok (.if_icmp .ne 4, 3) := by decide +kernel
theorem dX0_removeWord_20 : decode cX0_removeWord 20 = .ok (.return_, 1) := by decide +kernel
theorem dX0_removeWord_21 : decode cX0_removeWord 21 = .ok (.aload_n 0, 1) := by decide +kernel
theorem dX0_removeWord_22 : decode cX0_removeWord 22 = .ok (.getfield 18, 3) := by decide +kernel
theorem dX0_removeWord_25 : decode cX0_removeWord 25 = .ok (.iload_n 2, 1) := by decide +kernel
theorem dX0_removeWord_26 : decode cX0_removeWord 26 = .ok (.invokestatic 64, 3) := by decide +kernel
theorem dX0_removeWord_29 : decode cX0_removeWord 29 = .ok (.iconst 1, 1) := by decide +kernel
theorem dX0_removeWord_30 : decode cX0_removeWord 30 = .ok (.isub, 1) := by decide +kernel
theorem dX0_removeWord_31 : decode cX0_removeWord 31 = .ok (.istore 4, 2) := by decide +kernel
theorem dX0_removeWord_33 : decode cX0_removeWord 33 = .ok (.iload_n 3, 1) := by decide +kernel
theorem dX0_removeWord_34 : decode cX0_removeWord 34 = .ok (.istore 5, 2) := by decide +kernel
theorem dX0_removeWord_36 : decode cX0_removeWord 36 = .ok (.iload 5, 2) := by decide +kernel
theorem dX0_removeWord_38 : decode cX0_removeWord 38 = .ok (.iload 4, 2) := by decide +kernel
theorem dX0_removeWord_40 : decode cX0_removeWord 40 = .ok (.if_icmp .ge 25, 3) := by decide +kernel
theorem dX0_removeWord_43 : decode cX0_removeWord 43 = .ok (.aload_n 0, 1) := by decide +kernel
theorem dX0_removeWord_44 : decode cX0_removeWord 44 = .ok (.iload_n 2, 1) := by decide +kernel
theorem dX0_removeWord_45 : decode cX0_removeWord 45 = .ok (.iload 5, 2) := by decide +kernel
theorem dX0_removeWord_47 : decode cX0_removeWord 47 = .ok (.aload_n 0, 1) := by decide +kernel
theorem dX0_removeWord_48 : decode cX0_removeWord 48 = .ok (.iload_n 2, 1) := by decide +kernel
theorem dX0_removeWord_49 : decode cX0_removeWord 49 = .ok (.iload 5, 2) := by decide +kernel
theorem dX0_removeWord_51 : decode cX0_removeWord 51 = .ok (.iconst 1, 1) := by decide +kernel
theorem dX0_removeWord_52 : decode cX0_removeWord 52 = .ok (.iadd, 1) := by decide +kernel
theorem dX0_removeWord_53 : decode cX0_removeWord 53 = .ok (.invokevirtual 68, 3) := by decide +kernel
theorem dX0_removeWord_56 : decode cX0_removeWord 56 = .ok (.invokevirtual 75, 3) := by decide +kernel
theorem dX0_removeWord_59 : decode cX0_removeWord 59 = .ok (.iinc 5 1, 3) := by decide +kernel
theorem dX0_removeWord_62 : decode cX0_removeWord 62 = .ok (.goto (-26), 3) := by decide +kernel
theorem dX0_removeWord_65 : decode cX0_removeWord 65 = .ok (.aload_n 0, 1) := by decide +kernel
theorem dX0_removeWord_66 : decode cX0_removeWord 66 = .ok (.iload_n 2, 1) := by decide +kernel
theorem dX0_removeWord_67 : decode cX0_removeWord 67 = .ok (.iload 4, 2) := by decide +kernel
theorem dX0_removeWord_69 : decode cX0_removeWord 69 = .ok (.iconst (-1), 1) := by decide +kernel
theorem dX0_removeWord_70 : decode cX0_removeWord 70 = .ok (.invokevirtual 75, 3) := by decide +kernel
theorem dX0_removeWord_73 : decode cX0_removeWord 73 = .ok (.aload_n 0, 1) := by decide +kernel
theorem dX0_removeWord_74 : decode cX0_removeWord 74 = .ok (.getfield 18, 3) := by decide +kernel
theorem dX0_removeWord_77 : decode cX0_removeWord 77 = .ok (.iload_n 2, 1) := by decide +kernel
theorem dX0_removeWord_78 : decode cX0_removeWord 78 = .ok (.iload 4, 2) := by decide +kernel
theorem dX0_removeWord_80 : decode cX0_removeWord 80 = .ok (.invokestatic 43, 3) := by decide +kernel
theorem dX0_removeWord_83 : decode cX0_removeWord 83 = .ok (.aload_n 0, 1) := by decide +kernel
theorem dX0_removeWord_84 : decode cX0_removeWord 84 = .ok (.getfield 9, 3) := by decide +kernel
theorem dX0_removeWord_87 : decode cX0_removeWord 87 = .ok (.iload_n 1, 1) := by decide +kernel
theorem dX0_removeWord_88 : decode cX0_removeWord 88 = .ok (.iconst (-1), 1) := by decide +kernel
theorem dX0_removeWord_89 : decode cX0_removeWord 89 = .ok (.invokestatic 43, 3) := by decide +kernel
theorem dX0_removeWord_92 : decode cX0_removeWord 92 = .ok (.aload_n 0, 1) := by decide +kernel
theorem dX0_removeWord_93 : decode cX0_removeWord 93 = .ok (.iload_n 2, 1) := by decide +kernel
theorem dX0_removeWord_94 : decode cX0_removeWord 94 = .ok (.iload_n 3, 1) := by decide +kernel
theorem dX0_removeWord_95 : decode cX0_removeWord 95 = .ok (.iload 4, 2) := by decide +kernel
theorem dX0_removeWord_97 : decode cX0_removeWord 97 = .ok (.if_icmp .ne 7, 3) := by decide +kernel
theorem dX0_removeWord_100 : decode cX0_removeWord 100 = .ok (.iconst 1, 1) := by decide +kernel
theorem dX0_removeWord_101 : decode cX0_removeWord 101 = .ok (.goto 4, 3) := by decide +kernel
theorem dX0_removeWord_104 : decode cX0_removeWord 104 = .ok (.iconst 0, 1) := by decide +kernel
theorem dX0_removeWord_105 : decode cX0_removeWord 105 = .ok (.invokevirtual 79, 3) := by decide +kernel
theorem dX0_removeWord_108 : decode cX0_removeWord 108 = .ok (.return_, 1) := by decide +kernel
theorem dX0_emptyDoor_0 : decode cX0_emptyDoor 0 = .ok (.iconst 0, 1) := by decide +kernel
theorem dX0_emptyDoor_1 : decode cX0_emptyDoor 1 = .ok (.istore_n 2, 1) := by decide +kernel
theorem dX0_emptyDoor_2 : decode cX0_emptyDoor 2 = .ok (.iconst 0, 1) := by decide +kernel
theorem dX0_emptyDoor_3 : decode cX0_emptyDoor 3 = .ok (.istore_n 3, 1) := by decide +kernel
theorem dX0_emptyDoor_4 : decode cX0_emptyDoor 4 = .ok (.iload_n 3, 1) := by decide +kernel
theorem dX0_emptyDoor_5 : decode cX0_emptyDoor 5 = .ok (.aload_n 0, 1) := by decide +kernel
theorem dX0_emptyDoor_6 : decode cX0_emptyDoor 6 = .ok (.getfield 9, 3) := by decide +kernel
theorem dX0_emptyDoor_9 : decode cX0_emptyDoor 9 = .ok (.arraylength, 1) := by decide +kernel
theorem dX0_emptyDoor_10 : decode cX0_emptyDoor 10 = .ok (.if_icmp .ge 39, 3) := by decide +kernel
theorem dX0_emptyDoor_13 : decode cX0_emptyDoor 13 = .ok (.aload_n 0, 1) := by decide +kernel
theorem dX0_emptyDoor_14 : decode cX0_emptyDoor 14 = .ok (.getfield 9, 3) := by decide +kernel
theorem dX0_emptyDoor_17 : decode cX0_emptyDoor 17 = .ok (.iload_n 3, 1) := by decide +kernel
theorem dX0_emptyDoor_18 : decode cX0_emptyDoor 18 = .ok (.iaload, 1) := by decide +kernel
theorem dX0_emptyDoor_19 : decode cX0_emptyDoor 19 = .ok (.iconst (-1), 1) := by decide +kernel
theorem dX0_emptyDoor_20 : decode cX0_emptyDoor 20 = .ok (.if_icmp .eq 23, 3) := by decide +kernel
theorem dX0_emptyDoor_23 : decode cX0_emptyDoor 23 = .ok (.aload_n 0, 1) := by decide +kernel
theorem dX0_emptyDoor_24 : decode cX0_emptyDoor 24 = .ok (.getfield 9, 3) := by decide +kernel
theorem dX0_emptyDoor_27 : decode cX0_emptyDoor 27 = .ok (.iload_n 3, 1) := by decide +kernel
theorem dX0_emptyDoor_28 : decode cX0_emptyDoor 28 = .ok (.iaload, 1) := by decide +kernel
theorem dX0_emptyDoor_29 : decode cX0_emptyDoor 29 = .ok (.iconst 4, 1) := by decide +kernel
theorem dX0_emptyDoor_30 : decode cX0_emptyDoor 30 = .ok (.idiv, 1) := by decide +kernel
theorem dX0_emptyDoor_31 : decode cX0_emptyDoor 31 = .ok (.iload_n 1, 1) := by decide +kernel
theorem dX0_emptyDoor_32 : decode cX0_emptyDoor 32 = .ok (.if_icmp .ne 11, 3) := by decide +kernel
theorem dX0_emptyDoor_35 : decode cX0_emptyDoor 35 = .ok (.aload_n 0, 1) := by decide +kernel
theorem dX0_emptyDoor_36 : decode cX0_emptyDoor 36 = .ok (.iload_n 3, 1) := by decide +kernel
theorem dX0_emptyDoor_37 : decode cX0_emptyDoor 37 = .ok (.invokevirtual 87, 3) := by decide +kernel
theorem dX0_emptyDoor_40 : decode cX0_emptyDoor 40 = .ok (.iinc 2 1, 3) := by decide +kernel
theorem dX0_emptyDoor_43 : decode cX0_emptyDoor 43 = .ok (.iinc 3 1, 3) := by decide +kernel
theorem dX0_emptyDoor_46 : decode cX0_emptyDoor 46 = .ok (.goto (-42), 3) := by decide +kernel
theorem dX0_emptyDoor_49 : decode cX0_emptyDoor 49 = .ok (.iload_n 2, 1) := by decide +kernel
theorem dX0_emptyDoor_50 : decode cX0_emptyDoor 50 = .ok (.ireturn, 1) := by decide +kernel
theorem dX0_refusal_0 : decode cX0_refusal 0 = .ok (.aload_n 0, 1) := by decide +kernel
theorem dX0_refusal_1 : decode cX0_refusal 1 = .ok (.getfield 18, 3) := by decide +kernel
theorem dX0_refusal_4 : decode cX0_refusal 4 = .ok (.iload_n 2, 1) := by decide +kernel
theorem dX0_refusal_5 : decode cX0_refusal 5 = .ok (.invokestatic 64, 3) := by decide +kernel
theorem dX0_refusal_8 : decode cX0_refusal 8 = .ok (.istore 4, 2) := by decide +kernel
theorem dX0_refusal_10 : decode cX0_refusal 10 = .ok (.iload 4, 2) := by decide +kernel
theorem dX0_refusal_12 : decode cX0_refusal 12 = .ok (.bipush 6, 2) := by decide +kernel
theorem dX0_refusal_14 : decode cX0_refusal 14 = .ok (.if_icmp .lt 5, 3) := by decide +kernel
theorem dX0_refusal_17 : decode cX0_refusal 17 = .ok (.iconst 1, 1) := by decide +kernel
theorem dX0_refusal_18 : decode cX0_refusal 18 = .ok (.ireturn, 1) := by decide +kernel
theorem dX0_refusal_19 : decode cX0_refusal 19 = .ok (.aload_n 0, 1) := by decide +kernel
theorem dX0_refusal_20 : decode cX0_refusal 20 = .ok (.iload_n 2, 1) := by decide +kernel
theorem dX0_refusal_21 : decode cX0_refusal 21 = .ok (.invokevirtual 91, 3) := by decide +kernel
theorem dX0_refusal_24 : decode cX0_refusal 24 = .ok (.iload_n 1, 1) := by decide +kernel
theorem dX0_refusal_25 : decode cX0_refusal 25 = .ok (.invokestatic 94, 3) := by decide +kernel
theorem dX0_refusal_28 : decode cX0_refusal 28 = .ok (.iadd, 1) := by decide +kernel
theorem dX0_refusal_29 : decode cX0_refusal 29 = .ok (.bipush 12, 2) := by decide +kernel
theorem dX0_refusal_31 : decode cX0_refusal 31 = .ok (.if_icmp .le 5, 3) := by decide +kernel
theorem dX0_refusal_34 : decode cX0_refusal 34 = .ok (.iconst 2, 1) := by decide +kernel
theorem dX0_refusal_35 : decode cX0_refusal 35 = .ok (.ireturn, 1) := by decide +kernel
theorem dX0_refusal_36 : decode cX0_refusal 36 = .ok (.aload_n 0, 1) := by decide +kernel
theorem dX0_refusal_37 : decode cX0_refusal 37 = .ok (.iload_n 1, 1) := by decide +kernel
theorem dX0_refusal_38 : decode cX0_refusal 38 = .ok (.iload_n 2, 1) := by decide +kernel
theorem dX0_refusal_39 : decode cX0_refusal 39 = .ok (.iload_n 3, 1) := by decide +kernel
theorem dX0_refusal_40 : decode cX0_refusal 40 = .ok (.invokevirtual 97, 3) := by decide +kernel
theorem dX0_refusal_43 : decode cX0_refusal 43 = .ok (.ifCond .eq 5, 3) := by decide +kernel
theorem dX0_refusal_46 : decode cX0_refusal 46 = .ok (.iconst 3, 1) := by decide +kernel
theorem dX0_refusal_47 : decode cX0_refusal 47 = .ok (.ireturn, 1) := by decide +kernel
theorem dX0_refusal_48 : decode cX0_refusal 48 = .ok (.iload_n 3, 1) := by decide +kernel
theorem dX0_refusal_49 : decode cX0_refusal 49 = .ok (.ifCond .eq 9, 3) := by decide +kernel
theorem dX0_refusal_52 : decode cX0_refusal 52 = .ok (.iload_n 3, 1) := by decide +kernel
theorem dX0_refusal_53 : decode cX0_refusal 53 = .ok (.iload 4, 2) := by decide +kernel
theorem dX0_refusal_55 : decode cX0_refusal 55 = .ok (.if_icmp .ne 7, 3) := by decide +kernel
theorem dX0_refusal_58 : decode cX0_refusal 58 = .ok (.iconst 1, 1) := by decide +kernel
theorem dX0_refusal_59 : decode cX0_refusal 59 = .ok (.goto 4, 3) := by decide +kernel
theorem dX0_refusal_62 : decode cX0_refusal 62 = .ok (.iconst 0, 1) := by decide +kernel
theorem dX0_refusal_63 : decode cX0_refusal 63 = .ok (.istore 5, 2) := by decide +kernel
theorem dX0_refusal_65 : decode cX0_refusal 65 = .ok (.iload_n 1, 1) := by decide +kernel
theorem dX0_refusal_66 : decode cX0_refusal 66 = .ok (.invokestatic 101, 3) := by decide +kernel
theorem dX0_refusal_69 : decode cX0_refusal 69 = .ok (.iconst 3, 1) := by decide +kernel
theorem dX0_refusal_70 : decode cX0_refusal 70 = .ok (.if_icmp .ne 22, 3) := by decide +kernel
theorem dX0_refusal_73 : decode cX0_refusal 73 = .ok (.iload 5, 2) := by decide +kernel
theorem dX0_refusal_75 : decode cX0_refusal 75 = .ok (.ifCond .eq 17, 3) := by decide +kernel
theorem dX0_refusal_78 : decode cX0_refusal 78 = .ok (.aload_n 0, 1) := by decide +kernel
theorem dX0_refusal_79 : decode cX0_refusal 79 = .ok (.getfield 36, 3) := by decide +kernel
theorem dX0_refusal_82 : decode cX0_refusal 82 = .ok (.iconst 0, 1) := by decide +kernel
theorem dX0_refusal_83 : decode cX0_refusal 83 = .ok (.invokestatic 64, 3) := by decide +kernel
theorem dX0_refusal_86 : decode cX0_refusal 86 = .ok (.iconst 1, 1) := by decide +kernel
theorem dX0_refusal_87 : decode cX0_refusal 87 = .ok (.if_icmp .ne 5, 3) := by decide +kernel
theorem dX0_refusal_90 : decode cX0_refusal 90 = .ok (.iconst 4, 1) := by decide +kernel
theorem dX0_refusal_91 : decode cX0_refusal 91 = .ok (.ireturn, 1) := by decide +kernel
theorem dX0_refusal_92 : decode cX0_refusal 92 = .ok (.iconst 0, 1) := by decide +kernel
theorem dX0_refusal_93 : decode cX0_refusal 93 = .ok (.ireturn, 1) := by decide +kernel
theorem dX0_wouldClash_0 : decode cX0_wouldClash 0 = .ok (.aload_n 0, 1) := by decide +kernel
theorem dX0_wouldClash_1 : decode cX0_wouldClash 1 = .ok (.getfield 18, 3) := by decide +kernel
theorem dX0_wouldClash_4 : decode cX0_wouldClash 4 = .ok (.iload_n 2, 1) := by decide +kernel
theorem dX0_wouldClash_5 : decode cX0_wouldClash 5 = .ok (.invokestatic 64, 3) := by decide +kernel
theorem dX0_wouldClash_8 : decode cX0_wouldClash 8 = .ok (.istore 4, 2) := by decide +kernel
theorem dX0_wouldClash_10 : decode cX0_wouldClash 10 = .ok (.iconst (-1), 1) := by decide +kernel
theorem dX0_wouldClash_11 : decode cX0_wouldClash 11 = .ok (.istore 5, 2) := by decide +kernel
theorem dX0_wouldClash_13 : decode cX0_wouldClash 13 = .ok (.iconst 0, 1) := by decide +kernel
theorem dX0_wouldClash_14 : decode cX0_wouldClash 14 = .ok (.istore 6, 2) := by decide +kernel
theorem dX0_wouldClash_16 : decode cX0_wouldClash 16 = .ok (.iload 6, 2) := by decide +kernel
theorem dX0_wouldClash_18 : decode cX0_wouldClash 18 = .ok (.iload 4, 2) := by decide +kernel
theorem dX0_wouldClash_20 : decode cX0_wouldClash 20 = .ok (.if_icmp .gt 62, 3) := by decide +kernel
theorem dX0_wouldClash_23 : decode cX0_wouldClash 23 = .ok (.iload 6, 2) := by decide +kernel
theorem dX0_wouldClash_25 : decode cX0_wouldClash 25 = .ok (.iload_n 3, 1) := by decide +kernel
theorem dX0_wouldClash_26 : decode cX0_wouldClash 26 = .ok (.if_icmp .ne 7, 3) := by decide +kernel
theorem dX0_wouldClash_29 : decode cX0_wouldClash 29 = .ok (.iload_n 1, 1) := by decide +kernel
theorem dX0_wouldClash_30 : decode cX0_wouldClash 30 = .ok (.goto 23, 3) := by decide +kernel
theorem dX0_wouldClash_33 : decode cX0_wouldClash 33 = .ok (.aload_n 0, 1) := by decide +kernel
theorem dX0_wouldClash_34 : decode cX0_wouldClash 34 = .ok (.iload_n 2, 1) := by decide +kernel
theorem dX0_wouldClash_35 : decode cX0_wouldClash 35 = .ok (.iload 6, 2) := by decide +kernel
theorem dX0_wouldClash_37 : decode cX0_wouldClash 37 = .ok (.iload_n 3, 1) := by decide +kernel
theorem dX0_wouldClash_38 : decode cX0_wouldClash 38 = .ok (.if_icmp .ge 8, 3) := by decide +kernel
theorem dX0_wouldClash_41 : decode cX0_wouldClash 41 = .ok (.iload 6, 2) := by decide +kernel
theorem dX0_wouldClash_43 : decode cX0_wouldClash 43 = .ok (.goto 7, 3) := by decide +kernel
theorem dX0_wouldClash_46 : decode cX0_wouldClash 46 = .ok (.iload 6, 2) := by decide +kernel
theorem dX0_wouldClash_48 : decode cX0_wouldClash 48 = .ok (.iconst 1, 1) := by decide +kernel
theorem dX0_wouldClash_49 : decode cX0_wouldClash 49 = .ok (.isub, 1) := by decide +kernel
theorem dX0_wouldClash_50 : decode cX0_wouldClash 50 = .ok (.invokevirtual 68, 3) := by decide +kernel
theorem dX0_wouldClash_53 : decode cX0_wouldClash 53 = .ok (.istore 7, 2) := by decide +kernel
theorem dX0_wouldClash_55 : decode cX0_wouldClash 55 = .ok (.iload 6, 2) := by decide +kernel
theorem dX0_wouldClash_57 : decode cX0_wouldClash 57 = .ok (.ifCond .le 15, 3) := by decide +kernel
theorem dX0_wouldClash_60 : decode cX0_wouldClash 60 = .ok (.iload 5, 2) := by decide +kernel
theorem dX0_wouldClash_62 : decode cX0_wouldClash 62 = .ok (.iload 7, 2) := by decide +kernel
theorem dX0_wouldClash_64 : decode cX0_wouldClash 64 = .ok (.invokestatic 104, 3) := by decide +kernel
theorem dX0_wouldClash_67 : decode cX0_wouldClash 67 = .ok (.ifCond .eq 5, 3) := by decide +kernel
theorem dX0_wouldClash_70 : decode cX0_wouldClash 70 = .ok (.iconst 1, 1) := by decide +kernel
theorem dX0_wouldClash_71 : decode cX0_wouldClash 71 = .ok (.ireturn, 1) := by decide +kernel
theorem dX0_wouldClash_72 : decode cX0_wouldClash 72 = .ok (.iload 7, 2) := by decide +kernel
theorem dX0_wouldClash_74 : decode cX0_wouldClash 74 = .ok (.istore 5, 2) := by decide +kernel
theorem dX0_wouldClash_76 : decode cX0_wouldClash 76 = .ok (.iinc 6 1, 3) := by decide +kernel
theorem dX0_wouldClash_79 : decode cX0_wouldClash 79 = .ok (.goto (-63), 3) := by decide +kernel
theorem dX0_wouldClash_82 : decode cX0_wouldClash 82 = .ok (.iconst 0, 1) := by decide +kernel
theorem dX0_wouldClash_83 : decode cX0_wouldClash 83 = .ok (.ireturn, 1) := by decide +kernel
theorem dX0_clashes_0 : decode cX0_clashes 0 = .ok (.iconst 1, 1) := by decide +kernel
theorem dX0_clashes_1 : decode cX0_clashes 1 = .ok (.istore_n 2, 1) := by decide +kernel
theorem dX0_clashes_2 : decode cX0_clashes 2 = .ok (.iload_n 2, 1) := by decide +kernel
theorem dX0_clashes_3 : decode cX0_clashes 3 = .ok (.aload_n 0, 1) := by decide +kernel
theorem dX0_clashes_4 : decode cX0_clashes 4 = .ok (.getfield 18, 3) := by decide +kernel
theorem dX0_clashes_7 : decode cX0_clashes 7 = .ok (.iload_n 1, 1) := by decide +kernel
theorem dX0_clashes_8 : decode cX0_clashes 8 = .ok (.invokestatic 64, 3) := by decide +kernel
theorem dX0_clashes_11 : decode cX0_clashes 11 = .ok (.if_icmp .ge 31, 3) := by decide +kernel
theorem dX0_clashes_14 : decode cX0_clashes 14 = .ok (.aload_n 0, 1) := by decide +kernel
theorem dX0_clashes_15 : decode cX0_clashes 15 = .ok (.iload_n 1, 1) := by decide +kernel
theorem dX0_clashes_16 : decode cX0_clashes 16 = .ok (.iload_n 2, 1) := by decide +kernel
theorem dX0_clashes_17 : decode cX0_clashes 17 = .ok (.iconst 1, 1) := by decide +kernel
theorem dX0_clashes_18 : decode cX0_clashes 18 = .ok (.isub, 1) := by decide +kernel
theorem dX0_clashes_19 : decode cX0_clashes 19 = .ok (.invokevirtual 68, 3) := by decide +kernel
theorem dX0_clashes_22 : decode cX0_clashes 22 = .ok (.aload_n 0, 1) := by decide +kernel
theorem dX0_clashes_23 : decode cX0_clashes 23 = .ok (.iload_n 1, 1) := by decide +kernel
theorem dX0_clashes_24 : decode cX0_clashes 24 = .ok (.iload_n 2, 1) := by decide +kernel
theorem dX0_clashes_25 : decode cX0_clashes 25 = .ok (.invokevirtual 68, 3) := by decide +kernel
theorem dX0_clashes_28 : decode cX0_clashes 28 = .ok (.invokestatic 104, 3) := by decide +kernel
theorem dX0_clashes_31 : decode cX0_clashes 31 = .ok (.ifCond .eq 5, 3) := by decide +kernel
theorem dX0_clashes_34 : decode cX0_clashes 34 = .ok (.iconst 1, 1) := by decide +kernel
theorem dX0_clashes_35 : decode cX0_clashes 35 = .ok (.ireturn, 1) := by decide +kernel
theorem dX0_clashes_36 : decode cX0_clashes 36 = .ok (.iinc 2 1, 3) := by decide +kernel
theorem dX0_clashes_39 : decode cX0_clashes 39 = .ok (.goto (-37), 3) := by decide +kernel
theorem dX0_clashes_42 : decode cX0_clashes 42 = .ok (.iconst 0, 1) := by decide +kernel
theorem dX0_clashes_43 : decode cX0_clashes 43 = .ok (.ireturn, 1) := by decide +kernel
theorem dX0_beatsOn_0 : decode cX0_beatsOn 0 = .ok (.iconst 0, 1) := by decide +kernel
theorem dX0_beatsOn_1 : decode cX0_beatsOn 1 = .ok (.istore_n 2, 1) := by decide +kernel
theorem dX0_beatsOn_2 : decode cX0_beatsOn 2 = .ok (.iconst 0, 1) := by decide +kernel
theorem dX0_beatsOn_3 : decode cX0_beatsOn 3 = .ok (.istore_n 3, 1) := by decide +kernel
theorem dX0_beatsOn_4 : decode cX0_beatsOn 4 = .ok (.iload_n 3, 1) := by decide +kernel
theorem dX0_beatsOn_5 : decode cX0_beatsOn 5 = .ok (.aload_n 0, 1) := by decide +kernel
theorem dX0_beatsOn_6 : decode cX0_beatsOn 6 = .ok (.getfield 18, 3) := by decide +kernel
theorem dX0_beatsOn_9 : decode cX0_beatsOn 9 = .ok (.iload_n 1, 1) := by decide +kernel
theorem dX0_beatsOn_10 : decode cX0_beatsOn 10 = .ok (.invokestatic 64, 3) := by decide +kernel
theorem dX0_beatsOn_13 : decode cX0_beatsOn 13 = .ok (.if_icmp .ge 21, 3) := by decide +kernel
theorem dX0_beatsOn_16 : decode cX0_beatsOn 16 = .ok (.iload_n 2, 1) := by decide +kernel
theorem dX0_beatsOn_17 : decode cX0_beatsOn 17 = .ok (.aload_n 0, 1) := by decide +kernel
theorem dX0_beatsOn_18 : decode cX0_beatsOn 18 = .ok (.iload_n 1, 1) := by decide +kernel
theorem dX0_beatsOn_19 : decode cX0_beatsOn 19 = .ok (.iload_n 3, 1) := by decide +kernel
theorem dX0_beatsOn_20 : decode cX0_beatsOn 20 = .ok (.invokevirtual 68, 3) := by decide +kernel
theorem dX0_beatsOn_23 : decode cX0_beatsOn 23 = .ok (.invokestatic 94, 3) := by decide +kernel
theorem dX0_beatsOn_26 : decode cX0_beatsOn 26 = .ok (.iadd, 1) := by decide +kernel
theorem dX0_beatsOn_27 : decode cX0_beatsOn 27 = .ok (.istore_n 2, 1) := by decide +kernel
theorem dX0_beatsOn_28 : decode cX0_beatsOn 28 = .ok (.iinc 3 1, 3) := by decide +kernel
theorem dX0_beatsOn_31 : decode cX0_beatsOn 31 = .ok (.goto (-27), 3) := by decide +kernel
theorem dX0_beatsOn_34 : decode cX0_beatsOn 34 = .ok (.iload_n 2, 1) := by decide +kernel
theorem dX0_beatsOn_35 : decode cX0_beatsOn 35 = .ok (.ireturn, 1) := by decide +kernel
theorem dX0_worthOfLine_0 : decode cX0_worthOfLine 0 = .ok (.aload_n 0, 1) := by decide +kernel
theorem dX0_worthOfLine_1 : decode cX0_worthOfLine 1 = .ok (.getfield 18, 3) := by decide +kernel
theorem dX0_worthOfLine_4 : decode cX0_worthOfLine 4 = .ok (.iload_n 1, 1) := by decide +kernel
theorem dX0_worthOfLine_5 : decode cX0_worthOfLine 5 = .ok (.invokestatic 64, 3) := by decide +kernel
theorem dX0_worthOfLine_8 : decode cX0_worthOfLine 8 = .ok (.istore_n 3, 1) := by decide +kernel
theorem dX0_worthOfLine_9 : decode cX0_worthOfLine 9 = .ok (.iconst 0, 1) := by decide +kernel
theorem dX0_worthOfLine_10 : decode cX0_worthOfLine 10 = .ok (.istore 4, 2) := by decide +kernel
theorem dX0_worthOfLine_12 : decode cX0_worthOfLine 12 = .ok (.iconst 0, 1) := by decide +kernel
theorem dX0_worthOfLine_13 : decode cX0_worthOfLine 13 = .ok (.istore 5, 2) := by decide +kernel
theorem dX0_worthOfLine_15 : decode cX0_worthOfLine 15 = .ok (.iconst 0, 1) := by decide +kernel
theorem dX0_worthOfLine_16 : decode cX0_worthOfLine 16 = .ok (.istore 6, 2) := by decide +kernel
theorem dX0_worthOfLine_18 : decode cX0_worthOfLine 18 = .ok (.iconst 0, 1) := by decide +kernel
theorem dX0_worthOfLine_19 : decode cX0_worthOfLine 19 = .ok (.istore 7, 2) := by decide +kernel
theorem dX0_worthOfLine_21 : decode cX0_worthOfLine 21 = .ok (.iload 7, 2) := by decide +kernel
theorem dX0_worthOfLine_23 : decode cX0_worthOfLine 23 = .ok (.iload_n 3, 1) := by decide +kernel
theorem dX0_worthOfLine_24 : decode cX0_worthOfLine 24 = .ok (.if_icmp .gt 85, 3) := by decide +kernel
theorem dX0_worthOfLine_27 : decode cX0_worthOfLine 27 = .ok (.iload 7, 2) := by decide +kernel
theorem dX0_worthOfLine_29 : decode cX0_worthOfLine 29 = .ok (.iload_n 3, 1) := by decide +kernel
theorem dX0_worthOfLine_30 : decode cX0_worthOfLine 30 = .ok (.if_icmp .ge 13, 3) := by decide +kernel
theorem dX0_worthOfLine_33 : decode cX0_worthOfLine 33 = .ok (.aload_n 0, 1) := by decide +kernel
theorem dX0_worthOfLine_34 : decode cX0_worthOfLine 34 = .ok (.iload_n 1, 1) := by decide +kernel
theorem dX0_worthOfLine_35 : decode cX0_worthOfLine 35 = .ok (.iload 7, 2) := by decide +kernel
theorem dX0_worthOfLine_37 : decode cX0_worthOfLine 37 = .ok (.invokevirtual 68, 3) := by decide +kernel
theorem dX0_worthOfLine_40 : decode cX0_worthOfLine 40 = .ok (.goto 4, 3) := by decide +kernel
theorem dX0_worthOfLine_43 : decode cX0_worthOfLine 43 = .ok (.iload_n 2, 1) := by decide +kernel
theorem dX0_worthOfLine_44 : decode cX0_worthOfLine 44 = .ok (.istore 8, 2) := by decide +kernel
theorem dX0_worthOfLine_46 : decode cX0_worthOfLine 46 = .ok (.iload 8, 2) := by decide +kernel
theorem dX0_worthOfLine_48 : decode cX0_worthOfLine 48 = .ok (.iconst (-1), 1) := by decide +kernel
theorem dX0_worthOfLine_49 : decode cX0_worthOfLine 49 = .ok (.if_icmp .eq 54, 3) := by decide +kernel
theorem dX0_worthOfLine_52 : decode cX0_worthOfLine 52 = .ok (.iload 4, 2) := by decide +kernel
theorem dX0_worthOfLine_54 : decode cX0_worthOfLine 54 = .ok (.iload 8, 2) := by decide +kernel
theorem dX0_worthOfLine_56 : decode cX0_worthOfLine 56 = .ok (.invokestatic 94, 3) := by decide +kernel
theorem dX0_worthOfLine_59 : decode cX0_worthOfLine 59 = .ok (.iadd, 1) := by decide +kernel
theorem dX0_worthOfLine_60 : decode cX0_worthOfLine 60 = .ok (.istore 4, 2) := by decide +kernel
theorem dX0_worthOfLine_62 : decode cX0_worthOfLine 62 = .ok (.iload 5, 2) := by decide +kernel
theorem dX0_worthOfLine_64 : decode cX0_worthOfLine 64 = .ok (.ifCond .ne 11, 3) := by decide +kernel
theorem dX0_worthOfLine_67 : decode cX0_worthOfLine 67 = .ok (.iload 8, 2) := by decide +kernel
theorem dX0_worthOfLine_69 : decode cX0_worthOfLine 69 = .ok (.invokestatic 101, 3) := by decide +kernel
theorem dX0_worthOfLine_72 : decode cX0_worthOfLine 72 = .ok (.ifCond .ne 7, 3) := by decide +kernel
theorem dX0_worthOfLine_75 : decode cX0_worthOfLine 75 = .ok (.iconst 1, 1) := by decide +kernel
theorem dX0_worthOfLine_76 : decode cX0_worthOfLine 76 = .ok (.goto 4, 3) := by decide +kernel
theorem dX0_worthOfLine_79 : decode cX0_worthOfLine 79 = .ok (.iconst 0, 1) := by decide +kernel
theorem dX0_worthOfLine_80 : decode cX0_worthOfLine 80 = .ok (.istore 5, 2) := by decide +kernel
theorem dX0_worthOfLine_82 : decode cX0_worthOfLine 82 = .ok (.iload 6, 2) := by decide +kernel
theorem dX0_worthOfLine_84 : decode cX0_worthOfLine 84 = .ok (.ifCond .ne 12, 3) := by decide +kernel
theorem dX0_worthOfLine_87 : decode cX0_worthOfLine 87 = .ok (.iload 8, 2) := by decide +kernel
theorem dX0_worthOfLine_89 : decode cX0_worthOfLine 89 = .ok (.invokestatic 101, 3) := by decide +kernel
theorem dX0_worthOfLine_92 : decode cX0_worthOfLine 92 = .ok (.iconst 1, 1) := by decide +kernel
theorem dX0_worthOfLine_93 : decode cX0_worthOfLine 93 = .ok (.if_icmp .ne 7, 3) := by decide +kernel
theorem dX0_worthOfLine_96 : decode cX0_worthOfLine 96 = .ok (.iconst 1, 1) := by decide +kernel
theorem dX0_worthOfLine_97 : decode cX0_worthOfLine 97 = .ok (.goto 4, 3) := by decide +kernel
theorem dX0_worthOfLine_100 : decode cX0_worthOfLine 100 = .ok (.iconst 0, 1) := by decide +kernel
theorem dX0_worthOfLine_101 : decode cX0_worthOfLine 101 = .ok (.istore 6, 2) := by decide +kernel
theorem dX0_worthOfLine_103 : decode cX0_worthOfLine 103 = .ok (.iinc 7 1, 3) := by decide +kernel
theorem dX0_worthOfLine_106 : decode cX0_worthOfLine 106 = .ok (.goto (-85), 3) := by decide +kernel
theorem dX0_worthOfLine_109 : decode cX0_worthOfLine 109 = .ok (.iload 4, 2) := by decide +kernel
theorem dX0_worthOfLine_111 : decode cX0_worthOfLine 111 = .ok (.iload 5, 2) := by decide +kernel
theorem dX0_worthOfLine_113 : decode cX0_worthOfLine 113 = .ok (.ifCond .eq 12, 3) := by decide +kernel
theorem dX0_worthOfLine_116 : decode cX0_worthOfLine 116 = .ok (.iload 6, 2) := by decide +kernel
theorem dX0_worthOfLine_118 : decode cX0_worthOfLine 118 = .ok (.ifCond .eq 7, 3) := by decide +kernel
theorem dX0_worthOfLine_121 : decode cX0_worthOfLine 121 = .ok (.iconst 5, 1) := by decide +kernel
theorem dX0_worthOfLine_122 : decode cX0_worthOfLine 122 = .ok (.goto 4, 3) := by decide +kernel
theorem dX0_worthOfLine_125 : decode cX0_worthOfLine 125 = .ok (.iconst 0, 1) := by decide +kernel
theorem dX0_worthOfLine_126 : decode cX0_worthOfLine 126 = .ok (.iadd, 1) := by decide +kernel
theorem dX0_worthOfLine_127 : decode cX0_worthOfLine 127 = .ok (.iload 4, 2) := by decide +kernel
theorem dX0_worthOfLine_129 : decode cX0_worthOfLine 129 = .ok (.bipush 8, 2) := by decide +kernel
theorem dX0_worthOfLine_131 : decode cX0_worthOfLine 131 = .ok (.if_icmp .ne 7, 3) := by decide +kernel
theorem dX0_worthOfLine_134 : decode cX0_worthOfLine 134 = .ok (.iconst 3, 1) := by decide +kernel
theorem dX0_worthOfLine_135 : decode cX0_worthOfLine 135 = .ok (.goto 4, 3) := by decide +kernel
theorem dX0_worthOfLine_138 : decode cX0_worthOfLine 138 = .ok (.iconst 0, 1) := by decide +kernel
theorem dX0_worthOfLine_139 : decode cX0_worthOfLine 139 = .ok (.iadd, 1) := by decide +kernel
theorem dX0_worthOfLine_140 : decode cX0_worthOfLine 140 = .ok (.ireturn, 1) := by decide +kernel
theorem dX0_endingOn_0 : decode cX0_endingOn 0 = .ok (.aload_n 0, 1) := by decide +kernel
theorem dX0_endingOn_1 : decode cX0_endingOn 1 = .ok (.getfield 21, 3) := by decide +kernel
theorem dX0_endingOn_4 : decode cX0_endingOn 4 = .ok (.iload_n 1, 1) := by decide +kernel
theorem dX0_endingOn_5 : decode cX0_endingOn 5 = .ok (.invokestatic 64, 3) := by decide +kernel
theorem dX0_endingOn_8 : decode cX0_endingOn 8 = .ok (.istore_n 2, 1) := by decide +kernel
theorem dX0_endingOn_9 : decode cX0_endingOn 9 = .ok (.iload_n 2, 1) := by decide +kernel
theorem dX0_endingOn_10 : decode cX0_endingOn 10 = .ok (.iconst (-1), 1) := by decide +kernel
theorem dX0_endingOn_11 : decode cX0_endingOn 11 = .ok (.if_icmp .ne 7, 3) := by decide +kernel
theorem dX0_endingOn_14 : decode cX0_endingOn 14 = .ok (.iload_n 1, 1) := by decide +kernel
theorem dX0_endingOn_15 : decode cX0_endingOn 15 = .ok (.goto 4, 3) := by decide +kernel
theorem dX0_endingOn_18 : decode cX0_endingOn 18 = .ok (.iload_n 2, 1) := by decide +kernel
theorem dX0_endingOn_19 : decode cX0_endingOn 19 = .ok (.istore_n 3, 1) := by decide +kernel
theorem dX0_endingOn_20 : decode cX0_endingOn 20 = .ok (.aload_n 0, 1) := by decide +kernel
theorem dX0_endingOn_21 : decode cX0_endingOn 21 = .ok (.iload_n 3, 1) := by decide +kernel
theorem dX0_endingOn_22 : decode cX0_endingOn 22 = .ok (.aload_n 0, 1) := by decide +kernel
theorem dX0_endingOn_23 : decode cX0_endingOn 23 = .ok (.getfield 18, 3) := by decide +kernel
theorem dX0_endingOn_26 : decode cX0_endingOn 26 = .ok (.iload_n 3, 1) := by decide +kernel
theorem dX0_endingOn_27 : decode cX0_endingOn 27 = .ok (.invokestatic 64, 3) := by decide +kernel
theorem dX0_endingOn_30 : decode cX0_endingOn 30 = .ok (.iconst 1, 1) := by decide +kernel
theorem dX0_endingOn_31 : decode cX0_endingOn 31 = .ok (.isub, 1) := by decide +kernel
theorem dX0_endingOn_32 : decode cX0_endingOn 32 = .ok (.invokevirtual 68, 3) := by decide +kernel
theorem dX0_endingOn_35 : decode cX0_endingOn 35 = .ok (.istore 4, 2) := by decide +kernel
theorem dX0_endingOn_37 : decode cX0_endingOn 37 = .ok (.iload 4, 2) := by decide +kernel
theorem dX0_endingOn_39 : decode cX0_endingOn 39 = .ok (.iconst (-1), 1) := by decide +kernel
theorem dX0_endingOn_40 : decode cX0_endingOn 40 = .ok (.if_icmp .ne 7, 3) := by decide +kernel
theorem dX0_endingOn_43 : decode cX0_endingOn 43 = .ok (.iconst (-1), 1) := by decide +kernel
theorem dX0_endingOn_44 : decode cX0_endingOn 44 = .ok (.goto 8, 3) := by decide +kernel
theorem dX0_endingOn_47 : decode cX0_endingOn 47 = .ok (.iload 4, 2) := by decide +kernel
theorem dX0_endingOn_49 : decode cX0_endingOn 49 = .ok (.invokestatic 108, 3) := by decide +kernel
theorem dX0_endingOn_52 : decode cX0_endingOn 52 = .ok (.ireturn, 1) := by decide +kernel
theorem dX0_rhymesOf_0 : decode cX0_rhymesOf 0 = .ok (.iload_n 2, 1) := by decide +kernel
theorem dX0_rhymesOf_1 : decode cX0_rhymesOf 1 = .ok (.iconst (-1), 1) := by decide +kernel
theorem dX0_rhymesOf_2 : decode cX0_rhymesOf 2 = .ok (.if_icmp .ne 5, 3) := by decide +kernel
theorem dX0_rhymesOf_5 : decode cX0_rhymesOf 5 = .ok (.iconst 0, 1) := by decide +kernel
theorem dX0_rhymesOf_6 : decode cX0_rhymesOf 6 = .ok (.ireturn, 1) := by decide +kernel
theorem dX0_rhymesOf_7 : decode cX0_rhymesOf 7 = .ok (.iload_n 1, 1) := by decide +kernel
theorem dX0_rhymesOf_8 : decode cX0_rhymesOf 8 = .ok (.iconst 4, 1) := by decide +kernel
theorem dX0_rhymesOf_9 : decode cX0_rhymesOf 9 = .ok (.idiv, 1) := by decide +kernel
theorem dX0_rhymesOf_10 : decode cX0_rhymesOf 10 = .ok (.istore_n 3, 1) := by decide +kernel
theorem dX0_rhymesOf_11 : decode cX0_rhymesOf 11 = .ok (.iconst 0, 1) := by decide +kernel
theorem dX0_rhymesOf_12 : decode cX0_rhymesOf 12 = .ok (.istore 4, 2) := by decide +kernel
theorem dX0_rhymesOf_14 : decode cX0_rhymesOf 14 = .ok (.iconst 0, 1) := by decide +kernel
theorem dX0_rhymesOf_15 : decode cX0_rhymesOf 15 = .ok (.istore 5, 2) := by decide +kernel
theorem dX0_rhymesOf_17 : decode cX0_rhymesOf 17 = .ok (.iload 5, 2) := by decide +kernel
theorem dX0_rhymesOf_19 : decode cX0_rhymesOf 19 = .ok (.iconst 4, 1) := by decide +kernel
theorem dX0_rhymesOf_20 : decode cX0_rhymesOf 20 = .ok (.if_icmp .ge 36, 3) := by decide +kernel
theorem dX0_rhymesOf_23 : decode cX0_rhymesOf 23 = .ok (.iload_n 3, 1) := by decide +kernel
theorem dX0_rhymesOf_24 : decode cX0_rhymesOf 24 = .ok (.iload 5, 2) := by decide +kernel
theorem dX0_rhymesOf_26 : decode cX0_rhymesOf 26 = .ok (.invokestatic 72, 3) := by decide +kernel
theorem dX0_rhymesOf_29 : decode cX0_rhymesOf 29 = .ok (.istore 6, 2) := by decide +kernel
theorem dX0_rhymesOf_31 : decode cX0_rhymesOf 31 = .ok (.iload 6, 2) := by decide +kernel
theorem dX0_rhymesOf_33 : decode cX0_rhymesOf 33 = .ok (.iload_n 1, 1) := by decide +kernel
theorem dX0_rhymesOf_34 : decode cX0_rhymesOf 34 = .ok (.if_icmp .eq 16, 3) := by decide +kernel
theorem dX0_rhymesOf_37 : decode cX0_rhymesOf 37 = .ok (.aload_n 0, 1) := by decide +kernel
theorem dX0_rhymesOf_38 : decode cX0_rhymesOf 38 = .ok (.iload 6, 2) := by decide +kernel
theorem dX0_rhymesOf_40 : decode cX0_rhymesOf 40 = .ok (.invokevirtual 111, 3) := by decide +kernel
theorem dX0_rhymesOf_43 : decode cX0_rhymesOf 43 = .ok (.iload_n 2, 1) := by decide +kernel
theorem dX0_rhymesOf_44 : decode cX0_rhymesOf 44 = .ok (.if_icmp .ne 6, 3) := by decide +kernel
theorem dX0_rhymesOf_47 : decode cX0_rhymesOf 47 = .ok (.iinc 4 1, 3) := by decide +kernel
theorem dX0_rhymesOf_50 : decode cX0_rhymesOf 50 = .ok (.iinc 5 1, 3) := by decide +kernel
theorem dX0_rhymesOf_53 : decode cX0_rhymesOf 53 = .ok (.goto (-36), 3) := by decide +kernel
theorem dX0_rhymesOf_56 : decode cX0_rhymesOf 56 = .ok (.iload 4, 2) := by decide +kernel
theorem dX0_rhymesOf_58 : decode cX0_rhymesOf 58 = .ok (.ireturn, 1) := by decide +kernel
theorem dX0_rhymesOfDoor_0 : decode cX0_rhymesOfDoor 0 = .ok (.iconst 0, 1) := by decide +kernel
theorem dX0_rhymesOfDoor_1 : decode cX0_rhymesOfDoor 1 = .ok (.istore_n 2, 1) := by decide +kernel
theorem dX0_rhymesOfDoor_2 : decode cX0_rhymesOfDoor 2 = .ok (.iconst 1, 1) := by decide +kernel
theorem dX0_rhymesOfDoor_3 : decode cX0_rhymesOfDoor 3 = .ok (.istore_n 3, 1) := by decide +kernel
theorem dX0_rhymesOfDoor_4 : decode cX0_rhymesOfDoor 4 = .ok (.iload_n 3, 1) := by decide +kernel
theorem dX0_rhymesOfDoor_5 : decode cX0_rhymesOfDoor 5 = .ok (.iconst 4, 1) := by decide +kernel
theorem dX0_rhymesOfDoor_6 : decode cX0_rhymesOfDoor 6 = .ok (.if_icmp .ge 59, 3) := by decide +kernel
theorem dX0_rhymesOfDoor_9 : decode cX0_rhymesOfDoor 9 = .ok (.aload_n 0, 1) := by decide +kernel
theorem dX0_rhymesOfDoor_10 : decode cX0_rhymesOfDoor 10 = .ok (.iload_n 1, 1) := by decide +kernel
theorem dX0_rhymesOfDoor_11 : decode cX0_rhymesOfDoor 11 = .ok (.iload_n 3, 1) := by decide +kernel
theorem dX0_rhymesOfDoor_12 : decode cX0_rhymesOfDoor 12 = .ok (.invokestatic 72, 3) := by decide +kernel
theorem dX0_rhymesOfDoor_15 : decode cX0_rhymesOfDoor 15 = .ok (.invokevirtual 111, 3) := by decide +kernel
theorem dX0_rhymesOfDoor_18 : decode cX0_rhymesOfDoor 18 = .ok (.istore 4, 2) := by decide +kernel
theorem dX0_rhymesOfDoor_20 : decode cX0_rhymesOfDoor 20 = .ok (.iconst 0, 1) := by decide +kernel
theorem dX0_rhymesOfDoor_21 : decode cX0_rhymesOfDoor 21 = .ok (.istore 5, 2) := by decide +kernel
theorem dX0_rhymesOfDoor_23 : decode cX0_rhymesOfDoor 23 = .ok (.iload 5, 2) := by decide +kernel
theorem dX0_rhymesOfDoor_25 : decode cX0_rhymesOfDoor 25 = .ok (.iload_n 3, 1) := by decide +kernel
theorem dX0_rhymesOfDoor_26 : decode cX0_rhymesOfDoor 26 = .ok (.if_icmp .ge 33, 3) := by decide +kernel
theorem dX0_rhymesOfDoor_29 : decode cX0_rhymesOfDoor 29 = .ok (.iload 4, 2) := by decide +kernel
theorem dX0_rhymesOfDoor_31 : decode cX0_rhymesOfDoor 31 = .ok (.iconst (-1), 1) := by decide +kernel
theorem dX0_rhymesOfDoor_32 : decode cX0_rhymesOfDoor 32 = .ok (.if_icmp .eq 27, 3) := by decide +kernel
theorem dX0_rhymesOfDoor_35 : decode cX0_rhymesOfDoor 35 = .ok (.aload_n 0, 1) := by decide +kernel
theorem dX0_rhymesOfDoor_36 : decode cX0_rhymesOfDoor 36 = .ok (.iload_n 1, 1) := by decide +kernel
theorem dX0_rhymesOfDoor_37 : decode cX0_rhymesOfDoor 37 = .ok (.iload 5, 2) := by decide +kernel
theorem dX0_rhymesOfDoor_39 : decode cX0_rhymesOfDoor 39 = .ok (.invokestatic 72, 3) := by decide +kernel
theorem dX0_rhymesOfDoor_42 : decode cX0_rhymesOfDoor 42 = .ok (.invokevirtual 111, 3) := by decide +kernel
theorem dX0_rhymesOfDoor_45 : decode cX0_rhymesOfDoor 45 = .ok (.iload 4, 2) := by decide +kernel
theorem dX0_rhymesOfDoor_47 : decode cX0_rhymesOfDoor 47 = .ok (.if_icmp .ne 6, 3) := by decide +kernel
theorem dX0_rhymesOfDoor_50 : decode cX0_rhymesOfDoor 50 = .ok (.iinc 2 1, 3) := by decide +kernel
theorem dX0_rhymesOfDoor_53 : decode cX0_rhymesOfDoor 53 = .ok (.iinc 5 1, 3) := by decide +kernel
theorem dX0_rhymesOfDoor_56 : decode cX0_rhymesOfDoor 56 = .ok (.goto (-33), 3) := by decide +kernel
theorem dX0_rhymesOfDoor_59 : decode cX0_rhymesOfDoor 59 = .ok (.iinc 3 1, 3) := by decide +kernel
theorem dX0_rhymesOfDoor_62 : decode cX0_rhymesOfDoor 62 = .ok (.goto (-58), 3) := by decide +kernel
theorem dX0_rhymesOfDoor_65 : decode cX0_rhymesOfDoor 65 = .ok (.iload_n 2, 1) := by decide +kernel
theorem dX0_rhymesOfDoor_66 : decode cX0_rhymesOfDoor 66 = .ok (.ireturn, 1) := by decide +kernel
theorem dX0_worthOfDoor_0 : decode cX0_worthOfDoor 0 = .ok (.iconst 4, 1) := by decide +kernel
theorem dX0_worthOfDoor_1 : decode cX0_worthOfDoor 1 = .ok (.aload_n 0, 1) := by decide +kernel
theorem dX0_worthOfDoor_2 : decode cX0_worthOfDoor 2 = .ok (.iload_n 1, 1) := by decide +kernel
theorem dX0_worthOfDoor_3 : decode cX0_worthOfDoor 3 = .ok (.invokevirtual 114, 3) := by decide +kernel
theorem dX0_worthOfDoor_6 : decode cX0_worthOfDoor 6 = .ok (.imul, 1) := by decide +kernel
theorem dX0_worthOfDoor_7 : decode cX0_worthOfDoor 7 = .ok (.istore_n 2, 1) := by decide +kernel
theorem dX0_worthOfDoor_8 : decode cX0_worthOfDoor 8 = .ok (.iconst 0, 1) := by decide +kernel
theorem dX0_worthOfDoor_9 : decode cX0_worthOfDoor 9 = .ok (.istore_n 3, 1) := by decide +kernel
theorem dX0_worthOfDoor_10 : decode cX0_worthOfDoor 10 = .ok (.iload_n 3, 1) := by decide +kernel
theorem dX0_worthOfDoor_11 : decode cX0_worthOfDoor 11 = .ok (.iconst 4, 1) := by decide +kernel
theorem dX0_worthOfDoor_12 : decode cX0_worthOfDoor 12 = .ok (.if_icmp .ge 22, 3) := by decide +kernel
theorem dX0_worthOfDoor_15 : decode cX0_worthOfDoor 15 = .ok (.iload_n 2, 1) := by decide +kernel
theorem dX0_worthOfDoor_16 : decode cX0_worthOfDoor 16 = .ok (.aload_n 0, 1) := by decide +kernel
theorem dX0_worthOfDoor_17 : decode cX0_worthOfDoor 17 = .ok (.iload_n 1, 1) := by decide +kernel
theorem dX0_worthOfDoor_18 : decode cX0_worthOfDoor 18 = .ok (.iload_n 3, 1) := by decide +kernel
theorem dX0_worthOfDoor_19 : decode cX0_worthOfDoor 19 = .ok (.invokestatic 72, 3) := by decide +kernel
theorem dX0_worthOfDoor_22 : decode cX0_worthOfDoor 22 = .ok (.iconst (-1), 1) := by decide +kernel
theorem dX0_worthOfDoor_23 : decode cX0_worthOfDoor 23 = .ok (.invokevirtual 117, 3) := by decide +kernel
theorem dX0_worthOfDoor_26 : decode cX0_worthOfDoor 26 = .ok (.iadd, 1) := by decide +kernel
theorem dX0_worthOfDoor_27 : decode cX0_worthOfDoor 27 = .ok (.istore_n 2, 1) := by decide +kernel
theorem dX0_worthOfDoor_28 : decode cX0_worthOfDoor 28 = .ok (.iinc 3 1, 3) := by decide +kernel
theorem dX0_worthOfDoor_31 : decode cX0_worthOfDoor 31 = .ok (.goto (-21), 3) := by decide +kernel
theorem dX0_worthOfDoor_34 : decode cX0_worthOfDoor 34 = .ok (.iload_n 2, 1) := by decide +kernel
theorem dX0_worthOfDoor_35 : decode cX0_worthOfDoor 35 = .ok (.ireturn, 1) := by decide +kernel
theorem dX0_worthOfAll_0 : decode cX0_worthOfAll 0 = .ok (.iconst 0, 1) := by decide +kernel
theorem dX0_worthOfAll_1 : decode cX0_worthOfAll 1 = .ok (.istore_n 1, 1) := by decide +kernel
theorem dX0_worthOfAll_2 : decode cX0_worthOfAll 2 = .ok (.iconst 0, 1) := by decide +kernel
theorem dX0_worthOfAll_3 : decode cX0_worthOfAll 3 = .ok (.istore_n 2, 1) := by decide +kernel
theorem dX0_worthOfAll_4 : decode cX0_worthOfAll 4 = .ok (.iload_n 2, 1) := by decide +kernel
theorem dX0_worthOfAll_5 : decode cX0_worthOfAll 5 = .ok (.iconst 4, 1) := by decide +kernel
theorem dX0_worthOfAll_6 : decode cX0_worthOfAll 6 = .ok (.if_icmp .ge 17, 3) := by decide +kernel
theorem dX0_worthOfAll_9 : decode cX0_worthOfAll 9 = .ok (.iload_n 1, 1) := by decide +kernel
theorem dX0_worthOfAll_10 : decode cX0_worthOfAll 10 = .ok (.aload_n 0, 1) := by decide +kernel
theorem dX0_worthOfAll_11 : decode cX0_worthOfAll 11 = .ok (.iload_n 2, 1) := by decide +kernel
theorem dX0_worthOfAll_12 : decode cX0_worthOfAll 12 = .ok (.invokevirtual 120, 3) := by decide +kernel
theorem dX0_worthOfAll_15 : decode cX0_worthOfAll 15 = .ok (.iadd, 1) := by decide +kernel
theorem dX0_worthOfAll_16 : decode cX0_worthOfAll 16 = .ok (.istore_n 1, 1) := by decide +kernel
theorem dX0_worthOfAll_17 : decode cX0_worthOfAll 17 = .ok (.iinc 2 1, 3) := by decide +kernel
theorem dX0_worthOfAll_20 : decode cX0_worthOfAll 20 = .ok (.goto (-16), 3) := by decide +kernel
theorem dX0_worthOfAll_23 : decode cX0_worthOfAll 23 = .ok (.iload_n 1, 1) := by decide +kernel
theorem dX0_worthOfAll_24 : decode cX0_worthOfAll 24 = .ok (.ireturn, 1) := by decide +kernel
theorem dX0_bestWordFor_0 : decode cX0_bestWordFor 0 = .ok (.iconst (-1), 1) := by decide +kernel
theorem dX0_bestWordFor_1 : decode cX0_bestWordFor 1 = .ok (.istore_n 2, 1) := by decide +kernel
theorem dX0_bestWordFor_2 : decode cX0_bestWordFor 2 = .ok (.iconst (-1), 1) := by decide +kernel
theorem dX0_bestWordFor_3 : decode cX0_bestWordFor 3 = .ok (.istore_n 3, 1) := by decide +kernel
theorem dX0_bestWordFor_4 : decode cX0_bestWordFor 4 = .ok (.aload_n 0, 1) := by decide +kernel
theorem dX0_bestWordFor_5 : decode cX0_bestWordFor 5 = .ok (.getfield 18, 3) := by decide +kernel
theorem dX0_bestWordFor_8 : decode cX0_bestWordFor 8 = .ok (.iload_n 1, 1) := by decide +kernel
theorem dX0_bestWordFor_9 : decode cX0_bestWordFor 9 = .ok (.invokestatic 64, 3) := by decide +kernel
theorem dX0_bestWordFor_12 : decode cX0_bestWordFor 12 = .ok (.istore 4, 2) := by decide +kernel
theorem dX0_bestWordFor_14 : decode cX0_bestWordFor 14 = .ok (.iconst 0, 1) := by decide +kernel
theorem dX0_bestWordFor_15 : decode cX0_bestWordFor 15 = .ok (.istore 5, 2) := by decide +kernel
theorem dX0_bestWordFor_17 : decode cX0_bestWordFor 17 = .ok (.iload 5, 2) := by decide +kernel
theorem dX0_bestWordFor_19 : decode cX0_bestWordFor 19 = .ok (.aload_n 0, 1) := by decide +kernel
theorem dX0_bestWordFor_20 : decode cX0_bestWordFor 20 = .ok (.getfield 9, 3) := by decide +kernel
theorem dX0_bestWordFor_23 : decode cX0_bestWordFor 23 = .ok (.arraylength, 1) := by decide +kernel
theorem dX0_bestWordFor_24 : decode cX0_bestWordFor 24 = .ok (.if_icmp .ge 66, 3) := by decide +kernel
theorem dX0_bestWordFor_27 : decode cX0_bestWordFor 27 = .ok (.aload_n 0, 1) := by decide +kernel
theorem dX0_bestWordFor_28 : decode cX0_bestWordFor 28 = .ok (.getfield 9, 3) := by decide +kernel
theorem dX0_bestWordFor_31 : decode cX0_bestWordFor 31 = .ok (.iload 5, 2) := by decide +kernel
theorem dX0_bestWordFor_33 : decode cX0_bestWordFor 33 = .ok (.iaload, 1) := by decide +kernel
theorem dX0_bestWordFor_34 : decode cX0_bestWordFor 34 = .ok (.iconst (-1), 1) := by decide +kernel
theorem dX0_bestWordFor_35 : decode cX0_bestWordFor 35 = .ok (.if_icmp .ne 49, 3) := by decide +kernel
theorem dX0_bestWordFor_38 : decode cX0_bestWordFor 38 = .ok (.aload_n 0, 1) := by decide +kernel
theorem dX0_bestWordFor_39 : decode cX0_bestWordFor 39 = .ok (.iload 5, 2) := by decide +kernel
theorem dX0_bestWordFor_41 : decode cX0_bestWordFor 41 = .ok (.iload_n 1, 1) := by decide +kernel
theorem dX0_bestWordFor_42 : decode cX0_bestWordFor 42 = .ok (.iload 4, 2) := by decide +kernel
theorem dX0_bestWordFor_44 : decode cX0_bestWordFor 44 = .ok (.invokevirtual 123, 3) := by decide +kernel
theorem dX0_bestWordFor_47 : decode cX0_bestWordFor 47 = .ok (.ifCond .ne 37, 3) := by decide +kernel
theorem dX0_bestWordFor_50 : decode cX0_bestWordFor 50 = .ok (.aload_n 0, 1) := by decide +kernel
theorem dX0_bestWordFor_51 : decode cX0_bestWordFor 51 = .ok (.iload_n 1, 1) := by decide +kernel
theorem dX0_bestWordFor_52 : decode cX0_bestWordFor 52 = .ok (.iload 5, 2) := by decide +kernel
theorem dX0_bestWordFor_54 : decode cX0_bestWordFor 54 = .ok (.invokevirtual 117, 3) := by decide +kernel
theorem dX0_bestWordFor_57 : decode cX0_bestWordFor 57 = .ok (.iconst 4, 1) := by decide +kernel
theorem dX0_bestWordFor_58 : decode cX0_bestWordFor 58 = .ok (.aload_n 0, 1) := by decide +kernel
theorem dX0_bestWordFor_59 : decode cX0_bestWordFor 59 = .ok (.iload_n 1, 1) := by decide +kernel
theorem dX0_bestWordFor_60 : decode cX0_bestWordFor 60 = .ok (.iload 5, 2) := by decide +kernel
theorem dX0_bestWordFor_62 : decode cX0_bestWordFor 62 = .ok (.invokestatic 108, 3) := by decide +kernel
theorem dX0_bestWordFor_65 : decode cX0_bestWordFor 65 = .ok (.invokevirtual 127, 3) := by decide +kernel
theorem dX0_bestWordFor_68 : decode cX0_bestWordFor 68 = .ok (.imul, 1) := by decide +kernel
theorem dX0_bestWordFor_69 : decode cX0_bestWordFor 69 = .ok (.iadd, 1) := by decide +kernel
theorem dX0_bestWordFor_70 : decode cX0_bestWordFor 70 = .ok (.istore 6, 2) := by decide +kernel
theorem dX0_bestWordFor_72 : decode cX0_bestWordFor 72 = .ok (.iload 6, 2) := by decide +kernel
theorem dX0_bestWordFor_74 : decode cX0_bestWordFor 74 = .ok (.iload_n 3, 1) := by decide +kernel
theorem dX0_bestWordFor_75 : decode cX0_bestWordFor 75 = .ok (.if_icmp .le 9, 3) := by decide +kernel
theorem dX0_bestWordFor_78 : decode cX0_bestWordFor 78 = .ok (.iload 5, 2) := by decide +kernel
theorem dX0_bestWordFor_80 : decode cX0_bestWordFor 80 = .ok (.istore_n 2, 1) := by decide +kernel
theorem dX0_bestWordFor_81 : decode cX0_bestWordFor 81 = .ok (.iload 6, 2) := by decide +kernel
theorem dX0_bestWordFor_83 : decode cX0_bestWordFor 83 = .ok (.istore_n 3, 1) := by decide +kernel
theorem dX0_bestWordFor_84 : decode cX0_bestWordFor 84 = .ok (.iinc 5 1, 3) := by decide +kernel
theorem dX0_bestWordFor_87 : decode cX0_bestWordFor 87 = .ok (.goto (-70), 3) := by decide +kernel
theorem dX0_bestWordFor_90 : decode cX0_bestWordFor 90 = .ok (.iload_n 2, 1) := by decide +kernel
theorem dX0_bestWordFor_91 : decode cX0_bestWordFor 91 = .ok (.ireturn, 1) := by decide +kernel
theorem dX0_borrows_0 : decode cX0_borrows 0 = .ok (.aload_n 0, 1) := by decide +kernel
theorem dX0_borrows_1 : decode cX0_borrows 1 = .ok (.getfield 21, 3) := by decide +kernel
theorem dX0_borrows_4 : decode cX0_borrows 4 = .ok (.iload_n 1, 1) := by decide +kernel
theorem dX0_borrows_5 : decode cX0_borrows 5 = .ok (.invokestatic 64, 3) := by decide +kernel
theorem dX0_borrows_8 : decode cX0_borrows 8 = .ok (.iconst (-1), 1) := by decide +kernel
theorem dX0_borrows_9 : decode cX0_borrows 9 = .ok (.if_icmp .eq 7, 3) := by decide +kernel
theorem dX0_borrows_12 : decode cX0_borrows 12 = .ok (.iconst 1, 1) := by decide +kernel
theorem dX0_borrows_13 : decode cX0_borrows 13 = .ok (.goto 4, 3) := by decide +kernel
theorem dX0_borrows_16 : decode cX0_borrows 16 = .ok (.iconst 0, 1) := by decide +kernel
theorem dX0_borrows_17 : decode cX0_borrows 17 = .ok (.ireturn, 1) := by decide +kernel
theorem dX0_isFreeForLoan_0 : decode cX0_isFreeForLoan 0 = .ok (.aload_n 0, 1) := by decide +kernel
theorem dX0_isFreeForLoan_1 : decode cX0_isFreeForLoan 1 = .ok (.getfield 18, 3) := by decide +kernel
theorem dX0_isFreeForLoan_4 : decode cX0_isFreeForLoan 4 = .ok (.iload_n 1, 1) := by decide +kernel
theorem dX0_isFreeForLoan_5 : decode cX0_isFreeForLoan 5 = .ok (.invokestatic 64, 3) := by decide +kernel
theorem dX0_isFreeForLoan_8 : decode cX0_isFreeForLoan 8 = .ok (.ifCond .le 31, 3) := by decide +kernel
theorem dX0_isFreeForLoan_11 : decode cX0_isFreeForLoan 11 = .ok (.aload_n 0, 1) := by decide +kernel
theorem dX0_isFreeForLoan_12 : decode cX0_isFreeForLoan 12 = .ok (.getfield 21, 3) := by decide +kernel
theorem dX0_isFreeForLoan_15 : decode cX0_isFreeForLoan 15 = .ok (.iload_n 1, 1) := by decide +kernel
theorem dX0_isFreeForLoan_16 : decode cX0_isFreeForLoan 16 = .ok (.invokestatic 64, 3) := by decide +kernel
theorem dX0_isFreeForLoan_19 : decode cX0_isFreeForLoan 19 = .ok (.iconst (-1), 1) := by decide +kernel
theorem dX0_isFreeForLoan_20 : decode cX0_isFreeForLoan 20 = .ok (.if_icmp .ne 19, 3) := by decide +kernel
theorem dX0_isFreeForLoan_23 : decode cX0_isFreeForLoan 23 = .ok (.aload_n 0, 1) := by decide +kernel
theorem dX0_isFreeForLoan_24 : decode cX0_isFreeForLoan 24 = .ok (.getfield 24, 3) := by decide +kernel
theorem dX0_isFreeForLoan_27 : decode cX0_isFreeForLoan 27 = .ok (.iload_n 1, 1) := by decide +kernel
theorem dX0_isFreeForLoan_28 : decode cX0_isFreeForLoan 28 = .ok (.invokestatic 64, 3) := by decide +kernel
theorem dX0_isFreeForLoan_31 : decode cX0_isFreeForLoan 31 = .ok (.iconst (-1), 1) := by decide +kernel
theorem dX0_isFreeForLoan_32 : decode cX0_isFreeForLoan 32 = .ok (.if_icmp .ne 7, 3) := by decide +kernel
theorem dX0_isFreeForLoan_35 : decode cX0_isFreeForLoan 35 = .ok (.iconst 1, 1) := by decide +kernel
theorem dX0_isFreeForLoan_36 : decode cX0_isFreeForLoan 36 = .ok (.goto 4, 3) := by decide +kernel
theorem dX0_isFreeForLoan_39 : decode cX0_isFreeForLoan 39 = .ok (.iconst 0, 1) := by decide +kernel
theorem dX0_isFreeForLoan_40 : decode cX0_isFreeForLoan 40 = .ok (.ireturn, 1) := by decide +kernel
theorem dX0_loans_0 : decode cX0_loans 0 = .ok (.iconst 0, 1) := by decide +kernel
theorem dX0_loans_1 : decode cX0_loans 1 = .ok (.istore_n 1, 1) := by decide +kernel
theorem dX0_loans_2 : decode cX0_loans 2 = .ok (.iconst 0, 1) := by decide +kernel
theorem dX0_loans_3 : decode cX0_loans 3 = .ok (.istore_n 2, 1) := by decide +kernel
theorem dX0_loans_4 : decode cX0_loans 4 = .ok (.iload_n 2, 1) := by decide +kernel
theorem dX0_loans_5 : decode cX0_loans 5 = .ok (.aload_n 0, 1) := by decide +kernel
theorem dX0_loans_6 : decode cX0_loans 6 = .ok (.getfield 21, 3) := by decide +kernel
theorem dX0_loans_9 : decode cX0_loans 9 = .ok (.arraylength, 1) := by decide +kernel
theorem dX0_loans_10 : decode cX0_loans 10 = .ok (.if_icmp .ge 22, 3) := by decide +kernel
theorem dX0_loans_13 : decode cX0_loans 13 = .ok (.aload_n 0, 1) := by decide +kernel
theorem dX0_loans_14 : decode cX0_loans 14 = .ok (.getfield 21, 3) := by decide +kernel
theorem dX0_loans_17 : decode cX0_loans 17 = .ok (.iload_n 2, 1) := by decide +kernel
theorem dX0_loans_18 : decode cX0_loans 18 = .ok (.iaload, 1) := by decide +kernel
theorem dX0_loans_19 : decode cX0_loans 19 = .ok (.iconst (-1), 1) := by decide +kernel
theorem dX0_loans_20 : decode cX0_loans 20 = .ok (.if_icmp .eq 6, 3) := by decide +kernel
theorem dX0_loans_23 : decode cX0_loans 23 = .ok (.iinc 1 1, 3) := by decide +kernel
theorem dX0_loans_26 : decode cX0_loans 26 = .ok (.iinc 2 1, 3) := by decide +kernel
theorem dX0_loans_29 : decode cX0_loans 29 = .ok (.goto (-25), 3) := by decide +kernel
theorem dX0_loans_32 : decode cX0_loans 32 = .ok (.iload_n 1, 1) := by decide +kernel
theorem dX0_loans_33 : decode cX0_loans 33 = .ok (.ireturn, 1) := by decide +kernel
theorem dX0_startLoan_0 : decode cX0_startLoan 0 = .ok (.aload_n 0, 1) := by decide +kernel
theorem dX0_startLoan_1 : decode cX0_startLoan 1 = .ok (.getfield 21, 3) := by decide +kernel
theorem dX0_startLoan_4 : decode cX0_startLoan 4 = .ok (.iload_n 1, 1) := by decide +kernel
theorem dX0_startLoan_5 : decode cX0_startLoan 5 = .ok (.iload_n 2, 1) := by decide +kernel
theorem dX0_startLoan_6 : decode cX0_startLoan 6 = .ok (.invokestatic 43, 3) := by decide +kernel
theorem dX0_startLoan_9 : decode cX0_startLoan 9 = .ok (.aload_n 0, 1) := by decide +kernel
theorem dX0_startLoan_10 : decode cX0_startLoan 10 = .ok (.getfield 24, 3) := by decide +kernel
theorem dX0_startLoan_13 : decode cX0_startLoan 13 = .ok (.iload_n 2, 1) := by decide +kernel
theorem dX0_startLoan_14 : decode cX0_startLoan 14 = .ok (.iload_n 1, 1) := by decide +kernel
theorem dX0_startLoan_15 : decode cX0_startLoan 15 = .ok (.invokestatic 43, 3) := by decide +kernel
theorem dX0_startLoan_18 : decode cX0_startLoan 18 = .ok (.return_, 1) := by decide +kernel
theorem dX0_endLoan_0 : decode cX0_endLoan 0 = .ok (.aload_n 0, 1) := by decide +kernel
theorem dX0_endLoan_1 : decode cX0_endLoan 1 = .ok (.getfield 21, 3) := by decide +kernel
theorem dX0_endLoan_4 : decode cX0_endLoan 4 = .ok (.iload_n 1, 1) := by decide +kernel
theorem dX0_endLoan_5 : decode cX0_endLoan 5 = .ok (.invokestatic 64, 3) := by decide +kernel
theorem dX0_endLoan_8 : decode cX0_endLoan 8 = .ok (.istore_n 2, 1) := by decide +kernel
theorem dX0_endLoan_9 : decode cX0_endLoan 9 = .ok (.aload_n 0, 1) := by decide +kernel
theorem dX0_endLoan_10 : decode cX0_endLoan 10 = .ok (.getfield 21, 3) := by decide +kernel
theorem dX0_endLoan_13 : decode cX0_endLoan 13 = .ok (.iload_n 1, 1) := by decide +kernel
theorem dX0_endLoan_14 : decode cX0_endLoan 14 = .ok (.iconst (-1), 1) := by decide +kernel
theorem dX0_endLoan_15 : decode cX0_endLoan 15 = .ok (.invokestatic 43, 3) := by decide +kernel
theorem dX0_endLoan_18 : decode cX0_endLoan 18 = .ok (.aload_n 0, 1) := by decide +kernel
theorem dX0_endLoan_19 : decode cX0_endLoan 19 = .ok (.getfield 24, 3) := by decide +kernel
theorem dX0_endLoan_22 : decode cX0_endLoan 22 = .ok (.iload_n 2, 1) := by decide +kernel
theorem dX0_endLoan_23 : decode cX0_endLoan 23 = .ok (.iconst (-1), 1) := by decide +kernel
theorem dX0_endLoan_24 : decode cX0_endLoan 24 = .ok (.invokestatic 43, 3) := by decide +kernel
theorem dX0_endLoan_27 : decode cX0_endLoan 27 = .ok (.return_, 1) := by decide +kernel
theorem dX0_endLoansOf_0 : decode cX0_endLoansOf 0 = .ok (.aload_n 0, 1) := by decide +kernel
theorem dX0_endLoansOf_1 : decode cX0_endLoansOf 1 = .ok (.iload_n 1, 1) := by decide +kernel
theorem dX0_endLoansOf_2 : decode cX0_endLoansOf 2 = .ok (.invokevirtual 130, 3) := by decide +kernel
theorem dX0_endLoansOf_5 : decode cX0_endLoansOf 5 = .ok (.iload_n 2, 1) := by decide +kernel
theorem dX0_endLoansOf_6 : decode cX0_endLoansOf 6 = .ok (.ifCond .eq 15, 3) := by decide +kernel
theorem dX0_endLoansOf_9 : decode cX0_endLoansOf 9 = .ok (.aload_n 0, 1) := by decide +kernel
theorem dX0_endLoansOf_10 : decode cX0_endLoansOf 10 = .ok (.aload_n 0, 1) := by decide +kernel
theorem dX0_endLoansOf_11 : decode cX0_endLoansOf 11 = .ok (.getfield 24, 3) := by decide +kernel
theorem dX0_endLoansOf_14 : decode cX0_endLoansOf 14 = .ok (.iload_n 1, 1) := by decide +kernel
theorem dX0_endLoansOf_15 : decode cX0_endLoansOf 15 = .ok (.invokestatic 64, 3) := by decide +kernel
theorem dX0_endLoansOf_18 : decode cX0_endLoansOf 18 = .ok (.invokevirtual 130, 3) := by decide +kernel
theorem dX0_endLoansOf_21 : decode cX0_endLoansOf 21 = .ok (.return_, 1) := by decide +kernel
theorem dX0_passNights_0 : decode cX0_passNights 0 = .ok (.aload_n 0, 1) := by decide +kernel
theorem dX0_passNights_1 : decode cX0_passNights 1 = .ok (.getfield 55, 3) := by decide +kernel
theorem dX0_passNights_4 : decode cX0_passNights 4 = .ok (.istore_n 2, 1) := by decide +kernel
theorem dX0_passNights_5 : decode cX0_passNights 5 = .ok (.iconst 0, 1) := by decide +kernel
theorem dX0_passNights_6 : decode cX0_passNights 6 = .ok (.istore_n 3, 1) := by decide +kernel
theorem dX0_passNights_7 : decode cX0_passNights 7 = .ok (.iload_n 3, 1) := by decide +kernel
theorem dX0_passNights_8 : decode cX0_passNights 8 = .ok (.iload_n 1, 1) := by decide +kernel
theorem dX0_passNights_9 : decode cX0_passNights 9 = .ok (.if_icmp .ge 47, 3) := by decide +kernel
theorem dX0_passNights_12 : decode cX0_passNights 12 = .ok (.aload_n 0, 1) := by decide +kernel
theorem dX0_passNights_13 : decode cX0_passNights 13 = .ok (.invokevirtual 133, 3) := by decide +kernel
theorem dX0_passNights_16 : decode cX0_passNights 16 = .ok (.istore 4, 2) := by decide +kernel
theorem dX0_passNights_18 : decode cX0_passNights 18 = .ok (.aload_n 0, 1) := by decide +kernel
theorem dX0_passNights_19 : decode cX0_passNights 19 = .ok (.dup, 1) := by decide +kernel
theorem dX0_passNights_20 : decode cX0_passNights 20 = .ok (.getfield 51, 3) := by decide +kernel
theorem dX0_passNights_23 : decode cX0_passNights 23 = .ok (.iconst 1, 1) := by decide +kernel
theorem dX0_passNights_24 : decode cX0_passNights 24 = .ok (.iadd, 1) := by decide +kernel
theorem dX0_passNights_25 : decode cX0_passNights 25 = .ok (.putfield 51, 3) := by decide +kernel
theorem dX0_passNights_28 : decode cX0_passNights 28 = .ok (.aload_n 0, 1) := by decide +kernel
theorem dX0_passNights_29 : decode cX0_passNights 29 = .ok (.invokevirtual 137, 3) := by decide +kernel
theorem dX0_passNights_32 : decode cX0_passNights 32 = .ok (.iload 4, 2) := by decide +kernel
theorem dX0_passNights_34 : decode cX0_passNights 34 = .ok (.iconst (-1), 1) := by decide +kernel
theorem dX0_passNights_35 : decode cX0_passNights 35 = .ok (.if_icmp .eq 15, 3) := by decide +kernel
theorem dX0_passNights_38 : decode cX0_passNights 38 = .ok (.aload_n 0, 1) := by decide +kernel
theorem dX0_passNights_39 : decode cX0_passNights 39 = .ok (.aload_n 0, 1) := by decide +kernel
theorem dX0_passNights_40 : decode cX0_passNights 40 = .ok (.iload 4, 2) := by decide +kernel
theorem dX0_passNights_42 : decode cX0_passNights 42 = .ok (.invokevirtual 140, 3) := by decide +kernel
theorem dX0_passNights_45 : decode cX0_passNights 45 = .ok (.iload 4, 2) := by decide +kernel
theorem dX0_passNights_47 : decode cX0_passNights 47 = .ok (.invokevirtual 143, 3) := by decide +kernel
theorem dX0_passNights_50 : decode cX0_passNights 50 = .ok (.iinc 3 1, 3) := by decide +kernel
theorem dX0_passNights_53 : decode cX0_passNights 53 = .ok (.goto (-46), 3) := by decide +kernel
theorem dX0_passNights_56 : decode cX0_passNights 56 = .ok (.aload_n 0, 1) := by decide +kernel
theorem dX0_passNights_57 : decode cX0_passNights 57 = .ok (.getfield 55, 3) := by decide +kernel
theorem dX0_passNights_60 : decode cX0_passNights 60 = .ok (.iload_n 2, 1) := by decide +kernel
theorem dX0_passNights_61 : decode cX0_passNights 61 = .ok (.isub, 1) := by decide +kernel
theorem dX0_passNights_62 : decode cX0_passNights 62 = .ok (.ireturn, 1) := by decide +kernel
theorem dX0_nextPrey_0 : decode cX0_nextPrey 0 = .ok (.aload_n 0, 1) := by decide +kernel
theorem dX0_nextPrey_1 : decode cX0_nextPrey 1 = .ok (.invokevirtual 133, 3) := by decide +kernel
theorem dX0_nextPrey_4 : decode cX0_nextPrey 4 = .ok (.istore_n 1, 1) := by decide +kernel
theorem dX0_nextPrey_5 : decode cX0_nextPrey 5 = .ok (.iload_n 1, 1) := by decide +kernel
theorem dX0_nextPrey_6 : decode cX0_nextPrey 6 = .ok (.iconst (-1), 1) := by decide +kernel
theorem dX0_nextPrey_7 : decode cX0_nextPrey 7 = .ok (.if_icmp .ne 7, 3) := by decide +kernel
theorem dX0_nextPrey_10 : decode cX0_nextPrey 10 = .ok (.iconst (-1), 1) := by decide +kernel
theorem dX0_nextPrey_11 : decode cX0_nextPrey 11 = .ok (.goto 8, 3) := by decide +kernel
theorem dX0_nextPrey_14 : decode cX0_nextPrey 14 = .ok (.aload_n 0, 1) := by decide +kernel
theorem dX0_nextPrey_15 : decode cX0_nextPrey 15 = .ok (.iload_n 1, 1) := by decide +kernel
theorem dX0_nextPrey_16 : decode cX0_nextPrey 16 = .ok (.invokevirtual 140, 3) := by decide +kernel
theorem dX0_nextPrey_19 : decode cX0_nextPrey 19 = .ok (.ireturn, 1) := by decide +kernel
theorem dX0_doorOfThief_0 : decode cX0_doorOfThief 0 = .ok (.iconst (-1), 1) := by decide +kernel
theorem dX0_doorOfThief_1 : decode cX0_doorOfThief 1 = .ok (.istore_n 1, 1) := by decide +kernel
theorem dX0_doorOfThief_2 : decode cX0_doorOfThief 2 = .ok (.iconst (-1), 1) := by decide +kernel
theorem dX0_doorOfThief_3 : decode cX0_doorOfThief 3 = .ok (.istore_n 2, 1) := by decide +kernel
theorem dX0_doorOfThief_4 : decode cX0_doorOfThief 4 = .ok (.iconst 0, 1) := by decide +kernel
theorem dX0_doorOfThief_5 : decode cX0_doorOfThief 5 = .ok (.istore_n 3, 1) := by decide +kernel
theorem dX0_doorOfThief_6 : decode cX0_doorOfThief 6 = .ok (.iload_n 3, 1) := by decide +kernel
theorem dX0_doorOfThief_7 : decode cX0_doorOfThief 7 = .ok (.aload_n 0, 1) := by decide +kernel
theorem dX0_doorOfThief_8 : decode cX0_doorOfThief 8 = .ok (.getfield 30, 3) := by decide +kernel
theorem dX0_doorOfThief_11 : decode cX0_doorOfThief 11 = .ok (.arraylength, 1) := by decide +kernel
theorem dX0_doorOfThief_12 : decode cX0_doorOfThief 12 = .ok (.if_icmp .ge 44, 3) := by decide +kernel
theorem dX0_doorOfThief_15 : decode cX0_doorOfThief 15 = .ok (.aload_n 0, 1) := by decide +kernel
theorem dX0_doorOfThief_16 : decode cX0_doorOfThief 16 = .ok (.getfield 30, 3) := by decide +kernel
theorem dX0_doorOfThief_19 : decode cX0_doorOfThief 19 = .ok (.iload_n 3, 1) := by decide +kernel
theorem dX0_doorOfThief_20 : decode cX0_doorOfThief 20 = .ok (.iaload, 1) := by decide +kernel
theorem dX0_doorOfThief_21 : decode cX0_doorOfThief 21 = .ok (.ifCond .ne 29, 3) := by decide +kernel
theorem dX0_doorOfThief_24 : decode cX0_doorOfThief 24 = .ok (.aload_n 0, 1) := by decide +kernel
theorem dX0_doorOfThief_25 : decode cX0_doorOfThief 25 = .ok (.iload_n 3, 1) := by decide +kernel
theorem dX0_doorOfThief_26 : decode cX0_doorOfThief 26 = .ok (.invokevirtual 147, 3) := by decide +kernel
theorem dX0_doorOfThief_29 : decode cX0_doorOfThief 29 = .ok (.ifCond .le 21, 3) := by decide +kernel
theorem dX0_doorOfThief_32 : decode cX0_doorOfThief 32 = .ok (.aload_n 0, 1) := by decide +kernel
theorem dX0_doorOfThief_33 : decode cX0_doorOfThief 33 = .ok (.iload_n 3, 1) := by decide +kernel
theorem dX0_doorOfThief_34 : decode cX0_doorOfThief 34 = .ok (.invokevirtual 120, 3) := by decide +kernel
theorem dX0_doorOfThief_37 : decode cX0_doorOfThief 37 = .ok (.istore 4, 2) := by decide +kernel
theorem dX0_doorOfThief_39 : decode cX0_doorOfThief 39 = .ok (.iload 4, 2) := by decide +kernel
theorem dX0_doorOfThief_41 : decode cX0_doorOfThief 41 = .ok (.iload_n 2, 1) := by decide +kernel
theorem dX0_doorOfThief_42 : decode cX0_doorOfThief 42 = .ok (.if_icmp .le 8, 3) := by decide +kernel
theorem dX0_doorOfThief_45 : decode cX0_doorOfThief 45 = .ok (.iload_n 3, 1) := by decide +kernel
theorem dX0_doorOfThief_46 : decode cX0_doorOfThief 46 = .ok (.istore_n 1, 1) := by decide +kernel
theorem dX0_doorOfThief_47 : decode cX0_doorOfThief 47 = .ok (.iload 4, 2) := by decide +kernel
theorem dX0_doorOfThief_49 : decode cX0_doorOfThief 49 = .ok (.istore_n 2, 1) := by decide +kernel
theorem dX0_doorOfThief_50 : decode cX0_doorOfThief 50 = .ok (.iinc 3 1, 3) := by decide +kernel
theorem dX0_doorOfThief_53 : decode cX0_doorOfThief 53 = .ok (.goto (-47), 3) := by decide +kernel
theorem dX0_doorOfThief_56 : decode cX0_doorOfThief 56 = .ok (.iload_n 2, 1) := by decide +kernel
theorem dX0_doorOfThief_57 : decode cX0_doorOfThief 57 = .ok (.aload_n 0, 1) := by decide +kernel
theorem dX0_doorOfThief_58 : decode cX0_doorOfThief 58 = .ok (.getfield 36, 3) := by decide +kernel
theorem dX0_doorOfThief_61 : decode cX0_doorOfThief 61 = .ok (.iconst 1, 1) := by decide +kernel
theorem dX0_doorOfThief_62 : decode cX0_doorOfThief 62 = .ok (.invokestatic 64, 3) := by decide +kernel
theorem dX0_doorOfThief_65 : decode cX0_doorOfThief 65 = .ok (.if_icmp .lt 7, 3) := by decide +kernel
theorem dX0_doorOfThief_68 : decode cX0_doorOfThief 68 = .ok (.iload_n 1, 1) := by decide +kernel
theorem dX0_doorOfThief_69 : decode cX0_doorOfThief 69 = .ok (.goto 4, 3) := by decide +kernel
theorem dX0_doorOfThief_72 : decode cX0_doorOfThief 72 = .ok (.iconst (-1), 1) := by decide +kernel
theorem dX0_doorOfThief_73 : decode cX0_doorOfThief 73 = .ok (.ireturn, 1) := by decide +kernel
theorem dX0_preyOn_0 : decode cX0_preyOn 0 = .ok (.iconst (-1), 1) := by decide +kernel
theorem dX0_preyOn_1 : decode cX0_preyOn 1 = .ok (.istore_n 2, 1) := by decide +kernel
theorem dX0_preyOn_2 : decode cX0_preyOn 2 = .ok (.iconst 0, 1) := by decide +kernel
theorem dX0_preyOn_3 : decode cX0_preyOn 3 = .ok (.istore_n 3, 1) := by decide +kernel
theorem dX0_preyOn_4 : decode cX0_preyOn 4 = .ok (.iconst 3, 1) := by decide +kernel
theorem dX0_preyOn_5 : decode cX0_preyOn 5 = .ok (.istore 4, 2) := by decide +kernel
theorem dX0_preyOn_7 : decode cX0_preyOn 7 = .ok (.iload 4, 2) := by decide +kernel
theorem dX0_preyOn_9 : decode cX0_preyOn 9 = .ok (.ifCond .lt 68, 3) := by decide +kernel
theorem dX0_preyOn_12 : decode cX0_preyOn 12 = .ok (.iload_n 1, 1) := by decide +kernel
theorem dX0_preyOn_13 : decode cX0_preyOn 13 = .ok (.iload 4, 2) := by decide +kernel
theorem dX0_preyOn_15 : decode cX0_preyOn 15 = .ok (.invokestatic 72, 3) := by decide +kernel
theorem dX0_preyOn_18 : decode cX0_preyOn 18 = .ok (.istore 5, 2) := by decide +kernel
theorem dX0_preyOn_20 : decode cX0_preyOn 20 = .ok (.iconst 0, 1) := by decide +kernel
theorem dX0_preyOn_21 : decode cX0_preyOn 21 = .ok (.istore 6, 2) := by decide +kernel
theorem dX0_preyOn_23 : decode cX0_preyOn 23 = .ok (.iload 6, 2) := by decide +kernel
theorem dX0_preyOn_25 : decode cX0_preyOn 25 = .ok (.aload_n 0, 1) := by decide +kernel
theorem dX0_preyOn_26 : decode cX0_preyOn 26 = .ok (.getfield 18, 3) := by decide +kernel
theorem dX0_preyOn_29 : decode cX0_preyOn 29 = .ok (.iload 5, 2) := by decide +kernel
theorem dX0_preyOn_31 : decode cX0_preyOn 31 = .ok (.invokestatic 64, 3) := by decide +kernel
theorem dX0_preyOn_34 : decode cX0_preyOn 34 = .ok (.if_icmp .ge 37, 3) := by decide +kernel
theorem dX0_preyOn_37 : decode cX0_preyOn 37 = .ok (.aload_n 0, 1) := by decide +kernel
theorem dX0_preyOn_38 : decode cX0_preyOn 38 = .ok (.iload 5, 2) := by decide +kernel
theorem dX0_preyOn_40 : decode cX0_preyOn 40 = .ok (.iload 6, 2) := by decide +kernel
theorem dX0_preyOn_42 : decode cX0_preyOn 42 = .ok (.invokevirtual 68, 3) := by decide +kernel
theorem dX0_preyOn_45 : decode cX0_preyOn 45 = .ok (.istore 7, 2) := by decide +kernel
theorem dX0_preyOn_47 : decode cX0_preyOn 47 = .ok (.iload 7, 2) := by decide +kernel
theorem dX0_preyOn_49 : decode cX0_preyOn 49 = .ok (.invokestatic 94, 3) := by decide +kernel
theorem dX0_preyOn_52 : decode cX0_preyOn 52 = .ok (.iload_n 3, 1) := by decide +kernel
theorem dX0_preyOn_53 : decode cX0_preyOn 53 = .ok (.if_icmp .le 12, 3) := by decide +kernel
theorem dX0_preyOn_56 : decode cX0_preyOn 56 = .ok (.iload 7, 2) := by decide +kernel
theorem dX0_preyOn_58 : decode cX0_preyOn 58 = .ok (.istore_n 2, 1) := by decide +kernel
theorem dX0_preyOn_59 : decode cX0_preyOn 59 = .ok (.iload 7, 2) := by decide +kernel
theorem dX0_preyOn_61 : decode cX0_preyOn 61 = .ok (.invokestatic 94, 3) := by decide +kernel
theorem dX0_preyOn_64 : decode cX0_preyOn 64 = .ok (.istore_n 3, 1) := by decide +kernel
theorem dX0_preyOn_65 : decode cX0_preyOn 65 = .ok (.iinc 6 1, 3) := by decide +kernel
theorem dX0_preyOn_68 : decode cX0_preyOn 68 = .ok (.goto (-45), 3) := by decide +kernel
theorem dX0_preyOn_71 : decode cX0_preyOn 71 = .ok (.iinc 4 (-1), 3) := by decide +kernel
theorem dX0_preyOn_74 : decode cX0_preyOn 74 = .ok (.goto (-67), 3) := by decide +kernel
theorem dX0_preyOn_77 : decode cX0_preyOn 77 = .ok (.iload_n 2, 1) := by decide +kernel
theorem dX0_preyOn_78 : decode cX0_preyOn 78 = .ok (.ireturn, 1) := by decide +kernel
theorem dX0_watchOneNightFewer_0 : decode cX0_watchOneNightFewer 0 = .ok (.iconst 0, 1) := by decide +kernel
theorem dX0_watchOneNightFewer_1 : decode cX0_watchOneNightFewer 1 = .ok (.istore_n 1, 1) := by decide +kernel
theorem dX0_watchOneNightFewer_2 : decode cX0_watchOneNightFewer 2 = .ok (.iload_n 1, 1) := by decide +kernel
theorem dX0_watchOneNightFewer_3 : decode cX0_watchOneNightFewer 3 = .ok (.aload_n 0, 1) := by decide +kernel
theorem dX0_watchOneNightFewer_4 : decode cX0_watchOneNightFewer 4 = .ok (.getfield 30, 3) := by decide +kernel
theorem dX0_watchOneNightFewer_7 : decode cX0_watchOneNightFewer 7 = .ok (.arraylength, 1) := by decide +kernel
theorem dX0_watchOneNightFewer_8 : decode cX0_watchOneNightFewer 8 = .ok (.if_icmp .ge 28, 3) := by decide +kernel
theorem dX0_watchOneNightFewer_11 : decode cX0_watchOneNightFewer 11 = .ok (.aload_n 0, 1) := by decide +kernel
theorem dX0_watchOneNightFewer_12 : decode cX0_watchOneNightFewer 12 = .ok (.getfield 30, 3) := by decide +kernel
theorem dX0_watchOneNightFewer_15 : decode cX0_watchOneNightFewer 15 = .ok (.iload_n 1, 1) := by decide +kernel
theorem dX0_watchOneNightFewer_16 : decode cX0_watchOneNightFewer 16 = .ok (.iaload, 1) := by decide +kernel
theorem dX0_watchOneNightFewer_17 : decode cX0_watchOneNightFewer 17 = .ok (.ifCond .le 13, 3) := by decide +kernel
theorem dX0_watchOneNightFewer_20 : decode cX0_watchOneNightFewer 20 = .ok (.aload_n 0, 1) := by decide +kernel
theorem dX0_watchOneNightFewer_21 : decode cX0_watchOneNightFewer 21 = .ok (.getfield 30, 3) := by decide +kernel
theorem dX0_watchOneNightFewer_24 : decode cX0_watchOneNightFewer 24 = .ok (.iload_n 1, 1) := by decide +kernel
theorem dX0_watchOneNightFewer_25 : decode cX0_watchOneNightFewer 25 = .ok (.dup2, 1) := by decide +kernel
theorem dX0_watchOneNightFewer_26 : decode cX0_watchOneNightFewer 26 = .ok (.iaload, 1) := by decide +kernel
theorem dX0_watchOneNightFewer_27 : decode cX0_watchOneNightFewer 27 = .ok (.iconst 1, 1) := by decide +kernel
theorem dX0_watchOneNightFewer_28 : decode cX0_watchOneNightFewer 28 = .ok (.isub, 1) := by decide +kernel
theorem dX0_watchOneNightFewer_29 : decode cX0_watchOneNightFewer 29 = .ok (.iastore, 1) := by decide +kernel
theorem dX0_watchOneNightFewer_30 : decode cX0_watchOneNightFewer 30 = .ok (.iinc 1 1, 3) := by decide +kernel
theorem dX0_watchOneNightFewer_33 : decode cX0_watchOneNightFewer 33 = .ok (.goto (-31), 3) := by decide +kernel
theorem dX0_watchOneNightFewer_36 : decode cX0_watchOneNightFewer 36 = .ok (.return_, 1) := by decide +kernel
theorem dX0_steal_0 : decode cX0_steal 0 = .ok (.aload_n 0, 1) := by decide +kernel
theorem dX0_steal_1 : decode cX0_steal 1 = .ok (.iload_n 1, 1) := by decide +kernel
theorem dX0_steal_2 : decode cX0_steal 2 = .ok (.invokevirtual 87, 3) := by decide +kernel
theorem dX0_steal_5 : decode cX0_steal 5 = .ok (.aload_n 0, 1) := by decide +kernel
theorem dX0_steal_6 : decode cX0_steal 6 = .ok (.dup, 1) := by decide +kernel
theorem dX0_steal_7 : decode cX0_steal 7 = .ok (.getfield 55, 3) := by decide +kernel
theorem dX0_steal_10 : decode cX0_steal 10 = .ok (.iconst 1, 1) := by decide +kernel
theorem dX0_steal_11 : decode cX0_steal 11 = .ok (.iadd, 1) := by decide +kernel
theorem dX0_steal_12 : decode cX0_steal 12 = .ok (.putfield 55, 3) := by decide +kernel
theorem dX0_steal_15 : decode cX0_steal 15 = .ok (.aload_n 0, 1) := by decide +kernel
theorem dX0_steal_16 : decode cX0_steal 16 = .ok (.getfield 27, 3) := by decide +kernel
theorem dX0_steal_19 : decode cX0_steal 19 = .ok (.iload_n 1, 1) := by decide +kernel
theorem dX0_steal_20 : decode cX0_steal 20 = .ok (.aload_n 0, 1) := by decide +kernel
theorem dX0_steal_21 : decode cX0_steal 21 = .ok (.getfield 27, 3) := by decide +kernel
theorem dX0_steal_24 : decode cX0_steal 24 = .ok (.iload_n 1, 1) := by decide +kernel
theorem dX0_steal_25 : decode cX0_steal 25 = .ok (.invokestatic 64, 3) := by decide +kernel
theorem dX0_steal_28 : decode cX0_steal 28 = .ok (.iconst 1, 1) := by decide +kernel
theorem dX0_steal_29 : decode cX0_steal 29 = .ok (.iadd, 1) := by decide +kernel
theorem dX0_steal_30 : decode cX0_steal 30 = .ok (.invokestatic 43, 3) := by decide +kernel
theorem dX0_steal_33 : decode cX0_steal 33 = .ok (.aload_n 0, 1) := by decide +kernel
theorem dX0_steal_34 : decode cX0_steal 34 = .ok (.getfield 33, 3) := by decide +kernel
theorem dX0_steal_37 : decode cX0_steal 37 = .ok (.iload_n 2, 1) := by decide +kernel
theorem dX0_steal_38 : decode cX0_steal 38 = .ok (.aload_n 0, 1) := by decide +kernel
theorem dX0_steal_39 : decode cX0_steal 39 = .ok (.getfield 33, 3) := by decide +kernel
theorem dX0_steal_42 : decode cX0_steal 42 = .ok (.iload_n 2, 1) := by decide +kernel
theorem dX0_steal_43 : decode cX0_steal 43 = .ok (.invokestatic 64, 3) := by decide +kernel
theorem dX0_steal_46 : decode cX0_steal 46 = .ok (.iconst 1, 1) := by decide +kernel
theorem dX0_steal_47 : decode cX0_steal 47 = .ok (.iadd, 1) := by decide +kernel
theorem dX0_steal_48 : decode cX0_steal 48 = .ok (.invokestatic 43, 3) := by decide +kernel
theorem dX0_steal_51 : decode cX0_steal 51 = .ok (.aload_n 0, 1) := by decide +kernel
theorem dX0_steal_52 : decode cX0_steal 52 = .ok (.getfield 30, 3) := by decide +kernel
theorem dX0_steal_55 : decode cX0_steal 55 = .ok (.iload_n 2, 1) := by decide +kernel
theorem dX0_steal_56 : decode cX0_steal 56 = .ok (.aload_n 0, 1) := by decide +kernel
theorem dX0_steal_57 : decode cX0_steal 57 = .ok (.getfield 36, 3) := by decide +kernel
theorem dX0_steal_60 : decode cX0_steal 60 = .ok (.iconst 2, 1) := by decide +kernel
theorem dX0_steal_61 : decode cX0_steal 61 = .ok (.invokestatic 64, 3) := by decide +kernel
theorem dX0_steal_64 : decode cX0_steal 64 = .ok (.invokestatic 43, 3) := by decide +kernel
theorem dX0_steal_67 : decode cX0_steal 67 = .ok (.return_, 1) := by decide +kernel
theorem dX0_settingValue_0 : decode cX0_settingValue 0 = .ok (.aload_n 0, 1) := by decide +kernel
theorem dX0_settingValue_1 : decode cX0_settingValue 1 = .ok (.getfield 36, 3) := by decide +kernel
theorem dX0_settingValue_4 : decode cX0_settingValue 4 = .ok (.iload_n 1, 1) := by decide +kernel
theorem dX0_settingValue_5 : decode cX0_settingValue 5 = .ok (.invokestatic 64, 3) := by decide +kernel
theorem dX0_settingValue_8 : decode cX0_settingValue 8 = .ok (.ireturn, 1) := by decide +kernel
theorem dX0_changeSetting_0 : decode cX0_changeSetting 0 = .ok (.aload_n 0, 1) := by decide +kernel
theorem dX0_changeSetting_1 : decode cX0_changeSetting 1 = .ok (.getfield 36, 3) := by decide +kernel
theorem dX0_changeSetting_4 : decode cX0_changeSetting 4 = .ok (.iload_n 1, 1) := by decide +kernel
theorem dX0_changeSetting_5 : decode cX0_changeSetting 5 = .ok (.iload_n 2, 1) := by decide +kernel
theorem dX0_changeSetting_6 : decode cX0_changeSetting 6 = .ok (.invokestatic 43, 3) := by decide +kernel
theorem dX0_changeSetting_9 : decode cX0_changeSetting 9 = .ok (.return_, 1) := by decide +kernel
theorem dX0_wordProperty_0 : decode cX0_wordProperty 0 = .ok (.aload_n 0, 1) := by decide +kernel
theorem dX0_wordProperty_1 : decode cX0_wordProperty 1 = .ok (.getfield 9, 3) := by decide +kernel
theorem dX0_wordProperty_4 : decode cX0_wordProperty 4 = .ok (.iload_n 1, 1) := by decide +kernel
theorem dX0_wordProperty_5 : decode cX0_wordProperty 5 = .ok (.invokestatic 64, 3) := by decide +kernel
theorem dX0_wordProperty_8 : decode cX0_wordProperty 8 = .ok (.istore_n 3, 1) := by decide +kernel
theorem dX0_wordProperty_9 : decode cX0_wordProperty 9 = .ok (.iload_n 2, 1) := by decide +kernel
theorem dX0_wordProperty_10 : decode cX0_wordProperty 10 = .ok (.tableswitch 85 0 5 #[38, 43, 48, 53, 66, 79], 38) := by decide +kernel
theorem dX0_wordProperty_48 : decode cX0_wordProperty 48 = .ok (.iload_n 1, 1) := by decide +kernel
theorem dX0_wordProperty_49 : decode cX0_wordProperty 49 = .ok (.invokestatic 101, 3) := by decide +kernel
theorem dX0_wordProperty_52 : decode cX0_wordProperty 52 = .ok (.ireturn, 1) := by decide +kernel
theorem dX0_wordProperty_53 : decode cX0_wordProperty 53 = .ok (.iload_n 1, 1) := by decide +kernel
theorem dX0_wordProperty_54 : decode cX0_wordProperty 54 = .ok (.invokestatic 108, 3) := by decide +kernel
theorem dX0_wordProperty_57 : decode cX0_wordProperty 57 = .ok (.ireturn, 1) := by decide +kernel
theorem dX0_wordProperty_58 : decode cX0_wordProperty 58 = .ok (.iload_n 1, 1) := by decide +kernel
theorem dX0_wordProperty_59 : decode cX0_wordProperty 59 = .ok (.invokestatic 94, 3) := by decide +kernel
theorem dX0_wordProperty_62 : decode cX0_wordProperty 62 = .ok (.ireturn, 1) := by decide +kernel
theorem dX0_wordProperty_63 : decode cX0_wordProperty 63 = .ok (.iload_n 3, 1) := by decide +kernel
theorem dX0_wordProperty_64 : decode cX0_wordProperty 64 = .ok (.iconst (-1), 1) := by decide +kernel
theorem dX0_wordProperty_65 : decode cX0_wordProperty 65 = .ok (.if_icmp .ne 7, 3) := by decide +kernel
theorem dX0_wordProperty_68 : decode cX0_wordProperty 68 = .ok (.iconst (-1), 1) := by decide +kernel
theorem dX0_wordProperty_69 : decode cX0_wordProperty 69 = .ok (.goto 6, 3) := by decide +kernel
theorem dX0_wordProperty_72 : decode cX0_wordProperty 72 = .ok (.iload_n 3, 1) := by decide +kernel
theorem dX0_wordProperty_73 : decode cX0_wordProperty 73 = .ok (.iconst 4, 1) := by decide +kernel
theorem dX0_wordProperty_74 : decode cX0_wordProperty 74 = .ok (.idiv, 1) := by decide +kernel
theorem dX0_wordProperty_75 : decode cX0_wordProperty 75 = .ok (.ireturn, 1) := by decide +kernel
theorem dX0_wordProperty_76 : decode cX0_wordProperty 76 = .ok (.iload_n 3, 1) := by decide +kernel
theorem dX0_wordProperty_77 : decode cX0_wordProperty 77 = .ok (.iconst (-1), 1) := by decide +kernel
theorem dX0_wordProperty_78 : decode cX0_wordProperty 78 = .ok (.if_icmp .ne 7, 3) := by decide +kernel
theorem dX0_wordProperty_81 : decode cX0_wordProperty 81 = .ok (.iconst (-1), 1) := by decide +kernel
theorem dX0_wordProperty_82 : decode cX0_wordProperty 82 = .ok (.goto 6, 3) := by decide +kernel
theorem dX0_wordProperty_85 : decode cX0_wordProperty 85 = .ok (.iload_n 3, 1) := by decide +kernel
theorem dX0_wordProperty_86 : decode cX0_wordProperty 86 = .ok (.iconst 4, 1) := by decide +kernel
theorem dX0_wordProperty_87 : decode cX0_wordProperty 87 = .ok (.irem, 1) := by decide +kernel
theorem dX0_wordProperty_88 : decode cX0_wordProperty 88 = .ok (.ireturn, 1) := by decide +kernel
theorem dX0_wordProperty_89 : decode cX0_wordProperty 89 = .ok (.aload_n 0, 1) := by decide +kernel
theorem dX0_wordProperty_90 : decode cX0_wordProperty 90 = .ok (.iload_n 1, 1) := by decide +kernel
theorem dX0_wordProperty_91 : decode cX0_wordProperty 91 = .ok (.invokevirtual 83, 3) := by decide +kernel
theorem dX0_wordProperty_94 : decode cX0_wordProperty 94 = .ok (.ireturn, 1) := by decide +kernel
theorem dX0_wordProperty_95 : decode cX0_wordProperty 95 = .ok (.aload_n 0, 1) := by decide +kernel
theorem dX0_wordProperty_96 : decode cX0_wordProperty 96 = .ok (.getfield 27, 3) := by decide +kernel
theorem dX0_wordProperty_99 : decode cX0_wordProperty 99 = .ok (.iload_n 1, 1) := by decide +kernel
theorem dX0_wordProperty_100 : decode cX0_wordProperty 100 = .ok (.invokestatic 64, 3) := by decide +kernel
theorem dX0_wordProperty_103 : decode cX0_wordProperty 103 = .ok (.ireturn, 1) := by decide +kernel
theorem dX0_lineProperty_0 : decode cX0_lineProperty 0 = .ok (.iload_n 2, 1) := by decide +kernel
theorem dX0_lineProperty_1 : decode cX0_lineProperty 1 = .ok (.tableswitch 106 0 6 #[43, 52, 58, 65, 71, 83, 95], 43) := by decide +kernel
theorem dX0_lineProperty_44 : decode cX0_lineProperty 44 = .ok (.aload_n 0, 1) := by decide +kernel
theorem dX0_lineProperty_45 : decode cX0_lineProperty 45 = .ok (.getfield 18, 3) := by decide +kernel
theorem dX0_lineProperty_48 : decode cX0_lineProperty 48 = .ok (.iload_n 1, 1) := by decide +kernel
theorem dX0_lineProperty_49 : decode cX0_lineProperty 49 = .ok (.invokestatic 64, 3) := by decide +kernel
theorem dX0_lineProperty_52 : decode cX0_lineProperty 52 = .ok (.ireturn, 1) := by decide +kernel
theorem dX0_lineProperty_53 : decode cX0_lineProperty 53 = .ok (.aload_n 0, 1) := by decide +kernel
theorem dX0_lineProperty_54 : decode cX0_lineProperty 54 = .ok (.iload_n 1, 1) := by decide +kernel
theorem dX0_lineProperty_55 : decode cX0_lineProperty 55 = .ok (.invokevirtual 91, 3) := by decide +kernel
theorem dX0_lineProperty_58 : decode cX0_lineProperty 58 = .ok (.ireturn, 1) := by decide +kernel
theorem dX0_lineProperty_59 : decode cX0_lineProperty 59 = .ok (.aload_n 0, 1) := by decide +kernel
theorem dX0_lineProperty_60 : decode cX0_lineProperty 60 = .ok (.iload_n 1, 1) := by decide +kernel
theorem dX0_lineProperty_61 : decode cX0_lineProperty 61 = .ok (.iconst (-1), 1) := by decide +kernel
theorem dX0_lineProperty_62 : decode cX0_lineProperty 62 = .ok (.invokevirtual 117, 3) := by decide +kernel
theorem dX0_lineProperty_65 : decode cX0_lineProperty 65 = .ok (.ireturn, 1) := by decide +kernel
theorem dX0_lineProperty_66 : decode cX0_lineProperty 66 = .ok (.aload_n 0, 1) := by decide +kernel
theorem dX0_lineProperty_67 : decode cX0_lineProperty 67 = .ok (.iload_n 1, 1) := by decide +kernel
theorem dX0_lineProperty_68 : decode cX0_lineProperty 68 = .ok (.invokevirtual 111, 3) := by decide +kernel
theorem dX0_lineProperty_71 : decode cX0_lineProperty 71 = .ok (.ireturn, 1) := by decide +kernel
theorem dX0_lineProperty_72 : decode cX0_lineProperty 72 = .ok (.aload_n 0, 1) := by decide +kernel
theorem dX0_lineProperty_73 : decode cX0_lineProperty 73 = .ok (.getfield 21, 3) := by decide +kernel
theorem dX0_lineProperty_76 : decode cX0_lineProperty 76 = .ok (.iload_n 1, 1) := by decide +kernel
theorem dX0_lineProperty_77 : decode cX0_lineProperty 77 = .ok (.invokestatic 64, 3) := by decide +kernel
theorem dX0_lineProperty_80 : decode cX0_lineProperty 80 = .ok (.invokestatic 150, 3) := by decide +kernel
theorem dX0_lineProperty_83 : decode cX0_lineProperty 83 = .ok (.ireturn, 1) := by decide +kernel
theorem dX0_lineProperty_84 : decode cX0_lineProperty 84 = .ok (.aload_n 0, 1) := by decide +kernel
theorem dX0_lineProperty_85 : decode cX0_lineProperty 85 = .ok (.getfield 24, 3) := by decide +kernel
theorem dX0_lineProperty_88 : decode cX0_lineProperty 88 = .ok (.iload_n 1, 1) := by decide +kernel
theorem dX0_lineProperty_89 : decode cX0_lineProperty 89 = .ok (.invokestatic 64, 3) := by decide +kernel
theorem dX0_lineProperty_92 : decode cX0_lineProperty 92 = .ok (.invokestatic 150, 3) := by decide +kernel
theorem dX0_lineProperty_95 : decode cX0_lineProperty 95 = .ok (.ireturn, 1) := by decide +kernel
theorem dX0_lineProperty_96 : decode cX0_lineProperty 96 = .ok (.aload_n 0, 1) := by decide +kernel
theorem dX0_lineProperty_97 : decode cX0_lineProperty 97 = .ok (.iload_n 1, 1) := by decide +kernel
theorem dX0_lineProperty_98 : decode cX0_lineProperty 98 = .ok (.aload_n 0, 1) := by decide +kernel
theorem dX0_lineProperty_99 : decode cX0_lineProperty 99 = .ok (.iload_n 1, 1) := by decide +kernel
theorem dX0_lineProperty_100 : decode cX0_lineProperty 100 = .ok (.invokevirtual 111, 3) := by decide +kernel
theorem dX0_lineProperty_103 : decode cX0_lineProperty 103 = .ok (.invokevirtual 127, 3) := by decide +kernel
theorem dX0_lineProperty_106 : decode cX0_lineProperty 106 = .ok (.ireturn, 1) := by decide +kernel
theorem dX0_lineProperty_107 : decode cX0_lineProperty 107 = .ok (.aload_n 0, 1) := by decide +kernel
theorem dX0_lineProperty_108 : decode cX0_lineProperty 108 = .ok (.iload_n 1, 1) := by decide +kernel
theorem dX0_lineProperty_109 : decode cX0_lineProperty 109 = .ok (.invokevirtual 153, 3) := by decide +kernel
theorem dX0_lineProperty_112 : decode cX0_lineProperty 112 = .ok (.ifCond .eq 7, 3) := by decide +kernel
theorem dX0_lineProperty_115 : decode cX0_lineProperty 115 = .ok (.iconst 0, 1) := by decide +kernel
theorem dX0_lineProperty_116 : decode cX0_lineProperty 116 = .ok (.goto 4, 3) := by decide +kernel
theorem dX0_lineProperty_119 : decode cX0_lineProperty 119 = .ok (.iconst 1, 1) := by decide +kernel
theorem dX0_lineProperty_120 : decode cX0_lineProperty 120 = .ok (.ireturn, 1) := by decide +kernel
theorem dX0_doorProperty_0 : decode cX0_doorProperty 0 = .ok (.iload_n 2, 1) := by decide +kernel
theorem dX0_doorProperty_1 : decode cX0_doorProperty 1 = .ok (.tableswitch 58 0 3 #[31, 37, 43, 49], 31) := by decide +kernel
theorem dX0_doorProperty_32 : decode cX0_doorProperty 32 = .ok (.aload_n 0, 1) := by decide +kernel
theorem dX0_doorProperty_33 : decode cX0_doorProperty 33 = .ok (.iload_n 1, 1) := by decide +kernel
theorem dX0_doorProperty_34 : decode cX0_doorProperty 34 = .ok (.invokevirtual 120, 3) := by decide +kernel
theorem dX0_doorProperty_37 : decode cX0_doorProperty 37 = .ok (.ireturn, 1) := by decide +kernel
theorem dX0_doorProperty_38 : decode cX0_doorProperty 38 = .ok (.aload_n 0, 1) := by decide +kernel
theorem dX0_doorProperty_39 : decode cX0_doorProperty 39 = .ok (.iload_n 1, 1) := by decide +kernel
theorem dX0_doorProperty_40 : decode cX0_doorProperty 40 = .ok (.invokevirtual 147, 3) := by decide +kernel
theorem dX0_doorProperty_43 : decode cX0_doorProperty 43 = .ok (.ireturn, 1) := by decide +kernel
theorem dX0_doorProperty_44 : decode cX0_doorProperty 44 = .ok (.aload_n 0, 1) := by decide +kernel
theorem dX0_doorProperty_45 : decode cX0_doorProperty 45 = .ok (.iload_n 1, 1) := by decide +kernel
theorem dX0_doorProperty_46 : decode cX0_doorProperty 46 = .ok (.invokevirtual 114, 3) := by decide +kernel
theorem dX0_doorProperty_49 : decode cX0_doorProperty 49 = .ok (.ireturn, 1) := by decide +kernel
theorem dX0_doorProperty_50 : decode cX0_doorProperty 50 = .ok (.aload_n 0, 1) := by decide +kernel
theorem dX0_doorProperty_51 : decode cX0_doorProperty 51 = .ok (.getfield 30, 3) := by decide +kernel
theorem dX0_doorProperty_54 : decode cX0_doorProperty 54 = .ok (.iload_n 1, 1) := by decide +kernel
theorem dX0_doorProperty_55 : decode cX0_doorProperty 55 = .ok (.invokestatic 64, 3) := by decide +kernel
theorem dX0_doorProperty_58 : decode cX0_doorProperty 58 = .ok (.ireturn, 1) := by decide +kernel
theorem dX0_doorProperty_59 : decode cX0_doorProperty 59 = .ok (.aload_n 0, 1) := by decide +kernel
theorem dX0_doorProperty_60 : decode cX0_doorProperty 60 = .ok (.getfield 33, 3) := by decide +kernel
theorem dX0_doorProperty_63 : decode cX0_doorProperty 63 = .ok (.iload_n 1, 1) := by decide +kernel
theorem dX0_doorProperty_64 : decode cX0_doorProperty 64 = .ok (.invokestatic 64, 3) := by decide +kernel
theorem dX0_doorProperty_67 : decode cX0_doorProperty 67 = .ok (.ireturn, 1) := by decide +kernel
theorem dX1_init_0 : decode cX1_init 0 = .ok (.aload_n 0, 1) := by decide +kernel
theorem dX1_init_1 : decode cX1_init 1 = .ok (.invokespecial 3, 3) := by decide +kernel
theorem dX1_init_4 : decode cX1_init 4 = .ok (.aload_n 0, 1) := by decide +kernel
theorem dX1_init_5 : decode cX1_init 5 = .ok (.bipush 6, 2) := by decide +kernel
theorem dX1_init_7 : decode cX1_init 7 = .ok (.anewarray 9, 3) := by decide +kernel
theorem dX1_init_10 : decode cX1_init 10 = .ok (.putfield 11, 3) := by decide +kernel
theorem dX1_init_13 : decode cX1_init 13 = .ok (.iconst 0, 1) := by decide +kernel
theorem dX1_init_14 : decode cX1_init 14 = .ok (.istore_n 1, 1) := by decide +kernel
theorem dX1_init_15 : decode cX1_init 15 = .ok (.iload_n 1, 1) := by decide +kernel
theorem dX1_init_16 : decode cX1_init 16 = .ok (.aload_n 0, 1) := by decide +kernel
theorem dX1_init_17 : decode cX1_init 17 = .ok (.getfield 11, 3) := by decide +kernel
theorem dX1_init_20 : decode cX1_init 20 = .ok (.arraylength, 1) := by decide +kernel
theorem dX1_init_21 : decode cX1_init 21 = .ok (.if_icmp .ge 22, 3) := by decide +kernel
theorem dX1_init_24 : decode cX1_init 24 = .ok (.aload_n 0, 1) := by decide +kernel
theorem dX1_init_25 : decode cX1_init 25 = .ok (.getfield 11, 3) := by decide +kernel
theorem dX1_init_28 : decode cX1_init 28 = .ok (.iload_n 1, 1) := by decide +kernel
theorem dX1_init_29 : decode cX1_init 29 = .ok (.new 9, 3) := by decide +kernel
theorem dX1_init_32 : decode cX1_init 32 = .ok (.dup, 1) := by decide +kernel
theorem dX1_init_33 : decode cX1_init 33 = .ok (.invokespecial 17, 3) := by decide +kernel
theorem dX1_init_36 : decode cX1_init 36 = .ok (.aastore, 1) := by decide +kernel
theorem dX1_init_37 : decode cX1_init 37 = .ok (.iinc 1 1, 3) := by decide +kernel
theorem dX1_init_40 : decode cX1_init 40 = .ok (.goto (-25), 3) := by decide +kernel
theorem dX1_init_43 : decode cX1_init 43 = .ok (.return_, 1) := by decide +kernel
theorem dX1_save_0 : decode cX1_save 0 = .ok (.aload_n 0, 1) := by decide +kernel
theorem dX1_save_1 : decode cX1_save 1 = .ok (.getfield 18, 3) := by decide +kernel
theorem dX1_save_4 : decode cX1_save 4 = .ok (.bipush 6, 2) := by decide +kernel
theorem dX1_save_6 : decode cX1_save 6 = .ok (.if_icmp .lt 26, 3) := by decide +kernel
theorem dX1_save_9 : decode cX1_save 9 = .ok (.aload_n 0, 1) := by decide +kernel
theorem dX1_save_10 : decode cX1_save 10 = .ok (.aload_n 0, 1) := by decide +kernel
theorem dX1_save_11 : decode cX1_save 11 = .ok (.getfield 22, 3) := by decide +kernel
theorem dX1_save_14 : decode cX1_save 14 = .ok (.iconst 1, 1) := by decide +kernel
theorem dX1_save_15 : decode cX1_save 15 = .ok (.iadd, 1) := by decide +kernel
theorem dX1_save_16 : decode cX1_save 16 = .ok (.bipush 6, 2) := by decide +kernel
theorem dX1_save_18 : decode cX1_save 18 = .ok (.irem, 1) := by decide +kernel
theorem dX1_save_19 : decode cX1_save 19 = .ok (.putfield 22, 3) := by decide +kernel
theorem dX1_save_22 : decode cX1_save 22 = .ok (.aload_n 0, 1) := by decide +kernel
theorem dX1_save_23 : decode cX1_save 23 = .ok (.dup, 1) := by decide +kernel
theorem dX1_save_24 : decode cX1_save 24 = .ok (.getfield 18, 3) := by decide +kernel
theorem dX1_save_27 : decode cX1_save 27 = .ok (.iconst 1, 1) := by decide +kernel
theorem dX1_save_28 : decode cX1_save 28 = .ok (.isub, 1) := by decide +kernel
theorem dX1_save_29 : decode cX1_save 29 = .ok (.putfield 18, 3) := by decide +kernel
theorem dX1_save_32 : decode cX1_save 32 = .ok (.aload_n 0, 1) := by decide +kernel
theorem dX1_save_33 : decode cX1_save 33 = .ok (.aload_n 0, 1) := by decide +kernel
theorem dX1_save_34 : decode cX1_save 34 = .ok (.getfield 18, 3) := by decide +kernel
theorem dX1_save_37 : decode cX1_save 37 = .ok (.invokevirtual 25, 3) := by decide +kernel
theorem dX1_save_40 : decode cX1_save 40 = .ok (.astore_n 2, 1) := by decide +kernel
theorem dX1_save_41 : decode cX1_save 41 = .ok (.aload_n 2, 1) := by decide +kernel
theorem dX1_save_42 : decode cX1_save 42 = .ok (.ifnull 18, 3) := by decide +kernel
theorem dX1_save_45 : decode cX1_save 45 = .ok (.aload_n 2, 1) := by decide +kernel
theorem dX1_save_46 : decode cX1_save 46 = .ok (.aload_n 1, 1) := by decide +kernel
theorem dX1_save_47 : decode cX1_save 47 = .ok (.invokevirtual 29, 3) := by decide +kernel
theorem dX1_save_50 : decode cX1_save 50 = .ok (.aload_n 0, 1) := by decide +kernel
theorem dX1_save_51 : decode cX1_save 51 = .ok (.dup, 1) := by decide +kernel
theorem dX1_save_52 : decode cX1_save 52 = .ok (.getfield 18, 3) := by decide +kernel
theorem dX1_save_55 : decode cX1_save 55 = .ok (.iconst 1, 1) := by decide +kernel
theorem dX1_save_56 : decode cX1_save 56 = .ok (.iadd, 1) := by decide +kernel
theorem dX1_save_57 : decode cX1_save 57 = .ok (.putfield 18, 3) := by decide +kernel
theorem dX1_save_60 : decode cX1_save 60 = .ok (.return_, 1) := by decide +kernel
theorem dX1_restore_0 : decode cX1_restore 0 = .ok (.aload_n 0, 1) := by decide +kernel
theorem dX1_restore_1 : decode cX1_restore 1 = .ok (.aload_n 0, 1) := by decide +kernel
theorem dX1_restore_2 : decode cX1_restore 2 = .ok (.getfield 18, 3) := by decide +kernel
theorem dX1_restore_5 : decode cX1_restore 5 = .ok (.iconst 1, 1) := by decide +kernel
theorem dX1_restore_6 : decode cX1_restore 6 = .ok (.isub, 1) := by decide +kernel
theorem dX1_restore_7 : decode cX1_restore 7 = .ok (.invokevirtual 25, 3) := by decide +kernel
theorem dX1_restore_10 : decode cX1_restore 10 = .ok (.astore_n 2, 1) := by decide +kernel
theorem dX1_restore_11 : decode cX1_restore 11 = .ok (.aload_n 2, 1) := by decide +kernel
theorem dX1_restore_12 : decode cX1_restore 12 = .ok (.ifnull 18, 3) := by decide +kernel
theorem dX1_restore_15 : decode cX1_restore 15 = .ok (.aload_n 1, 1) := by decide +kernel
theorem dX1_restore_16 : decode cX1_restore 16 = .ok (.aload_n 2, 1) := by decide +kernel
theorem dX1_restore_17 : decode cX1_restore 17 = .ok (.invokevirtual 29, 3) := by decide +kernel
theorem dX1_restore_20 : decode cX1_restore 20 = .ok (.aload_n 0, 1) := by decide +kernel
theorem dX1_restore_21 : decode cX1_restore 21 = .ok (.dup, 1) := by decide +kernel
theorem dX1_restore_22 : decode cX1_restore 22 = .ok (.getfield 18, 3) := by decide +kernel
theorem dX1_restore_25 : decode cX1_restore 25 = .ok (.iconst 1, 1) := by decide +kernel
theorem dX1_restore_26 : decode cX1_restore 26 = .ok (.isub, 1) := by decide +kernel
theorem dX1_restore_27 : decode cX1_restore 27 = .ok (.putfield 18, 3) := by decide +kernel
theorem dX1_restore_30 : decode cX1_restore 30 = .ok (.return_, 1) := by decide +kernel
theorem dX1_stateAt_0 : decode cX1_stateAt 0 = .ok (.aload_n 0, 1) := by decide +kernel
theorem dX1_stateAt_1 : decode cX1_stateAt 1 = .ok (.getfield 22, 3) := by decide +kernel
theorem dX1_stateAt_4 : decode cX1_stateAt 4 = .ok (.iload_n 1, 1) := by decide +kernel
theorem dX1_stateAt_5 : decode cX1_stateAt 5 = .ok (.iadd, 1) := by decide +kernel
theorem dX1_stateAt_6 : decode cX1_stateAt 6 = .ok (.bipush 6, 2) := by decide +kernel
theorem dX1_stateAt_8 : decode cX1_stateAt 8 = .ok (.irem, 1) := by decide +kernel
theorem dX1_stateAt_9 : decode cX1_stateAt 9 = .ok (.istore_n 2, 1) := by decide +kernel
theorem dX1_stateAt_10 : decode cX1_stateAt 10 = .ok (.iload_n 1, 1) := by decide +kernel
theorem dX1_stateAt_11 : decode cX1_stateAt 11 = .ok (.ifCond .lt 25, 3) := by decide +kernel
theorem dX1_stateAt_14 : decode cX1_stateAt 14 = .ok (.iload_n 2, 1) := by decide +kernel
theorem dX1_stateAt_15 : decode cX1_stateAt 15 = .ok (.ifCond .lt 21, 3) := by decide +kernel
theorem dX1_stateAt_18 : decode cX1_stateAt 18 = .ok (.iload_n 2, 1) := by decide +kernel
theorem dX1_stateAt_19 : decode cX1_stateAt 19 = .ok (.aload_n 0, 1) := by decide +kernel
theorem dX1_stateAt_20 : decode cX1_stateAt 20 = .ok (.getfield 11, 3) := by decide +kernel
theorem dX1_stateAt_23 : decode cX1_stateAt 23 = .ok (.arraylength, 1) := by decide +kernel
theorem dX1_stateAt_24 : decode cX1_stateAt 24 = .ok (.if_icmp .ge 12, 3) := by decide +kernel
theorem dX1_stateAt_27 : decode cX1_stateAt 27 = .ok (.aload_n 0, 1) := by decide +kernel
theorem dX1_stateAt_28 : decode cX1_stateAt 28 = .ok (.getfield 11, 3) := by decide +kernel
theorem dX1_stateAt_31 : decode cX1_stateAt 31 = .ok (.iload_n 2, 1) := by decide +kernel
theorem dX1_stateAt_32 : decode cX1_stateAt 32 = .ok (.aaload, 1) := by decide +kernel
theorem dX1_stateAt_33 : decode cX1_stateAt 33 = .ok (.goto 4, 3) := by decide +kernel
theorem dX1_stateAt_36 : decode cX1_stateAt 36 = .ok (.aconst_null, 1) := by decide +kernel
theorem dX1_stateAt_37 : decode cX1_stateAt 37 = .ok (.areturn, 1) := by decide +kernel
theorem dX2_init_0 : decode cX2_init 0 = .ok (.aload_n 0, 1) := by decide +kernel
theorem dX2_init_1 : decode cX2_init 1 = .ok (.invokespecial 3, 3) := by decide +kernel
theorem dX2_init_4 : decode cX2_init 4 = .ok (.aload_n 0, 1) := by decide +kernel
theorem dX2_init_5 : decode cX2_init 5 = .ok (.bipush 40, 2) := by decide +kernel
theorem dX2_init_7 : decode cX2_init 7 = .ok (.newarray .boolean, 2) := by decide +kernel
theorem dX2_init_9 : decode cX2_init 9 = .ok (.putfield 9, 3) := by decide +kernel
theorem dX2_init_12 : decode cX2_init 12 = .ok (.aload_n 0, 1) := by decide +kernel
theorem dX2_init_13 : decode cX2_init 13 = .ok (.bipush 24, 2) := by decide +kernel
theorem dX2_init_15 : decode cX2_init 15 = .ok (.newarray .int, 2) := by decide +kernel
theorem dX2_init_17 : decode cX2_init 17 = .ok (.putfield 15, 3) := by decide +kernel
theorem dX2_init_20 : decode cX2_init 20 = .ok (.aload_n 0, 1) := by decide +kernel
theorem dX2_init_21 : decode cX2_init 21 = .ok (.bipush 24, 2) := by decide +kernel
theorem dX2_init_23 : decode cX2_init 23 = .ok (.newarray .int, 2) := by decide +kernel
theorem dX2_init_25 : decode cX2_init 25 = .ok (.putfield 19, 3) := by decide +kernel
theorem dX2_init_28 : decode cX2_init 28 = .ok (.return_, 1) := by decide +kernel
theorem dX2_restart_0 : decode cX2_restart 0 = .ok (.iconst 0, 1) := by decide +kernel
theorem dX2_restart_1 : decode cX2_restart 1 = .ok (.istore_n 1, 1) := by decide +kernel
theorem dX2_restart_2 : decode cX2_restart 2 = .ok (.iload_n 1, 1) := by decide +kernel
theorem dX2_restart_3 : decode cX2_restart 3 = .ok (.aload_n 0, 1) := by decide +kernel
theorem dX2_restart_4 : decode cX2_restart 4 = .ok (.getfield 9, 3) := by decide +kernel
theorem dX2_restart_7 : decode cX2_restart 7 = .ok (.arraylength, 1) := by decide +kernel
theorem dX2_restart_8 : decode cX2_restart 8 = .ok (.if_icmp .ge 16, 3) := by decide +kernel
theorem dX2_restart_11 : decode cX2_restart 11 = .ok (.aload_n 0, 1) := by decide +kernel
theorem dX2_restart_12 : decode cX2_restart 12 = .ok (.getfield 9, 3) := by decide +kernel
theorem dX2_restart_15 : decode cX2_restart 15 = .ok (.iload_n 1, 1) := by decide +kernel
theorem dX2_restart_16 : decode cX2_restart 16 = .ok (.iconst 0, 1) := by decide +kernel
theorem dX2_restart_17 : decode cX2_restart 17 = .ok (.bastore, 1) := by decide +kernel
theorem dX2_restart_18 : decode cX2_restart 18 = .ok (.iinc 1 1, 3) := by decide +kernel
theorem dX2_restart_21 : decode cX2_restart 21 = .ok (.goto (-19), 3) := by decide +kernel
theorem dX2_restart_24 : decode cX2_restart 24 = .ok (.aload_n 0, 1) := by decide +kernel
theorem dX2_restart_25 : decode cX2_restart 25 = .ok (.iconst 0, 1) := by decide +kernel
theorem dX2_restart_26 : decode cX2_restart 26 = .ok (.putfield 22, 3) := by decide +kernel
theorem dX2_restart_29 : decode cX2_restart 29 = .ok (.aload_n 0, 1) := by decide +kernel
theorem dX2_restart_30 : decode cX2_restart 30 = .ok (.iconst 0, 1) := by decide +kernel
theorem dX2_restart_31 : decode cX2_restart 31 = .ok (.putfield 26, 3) := by decide +kernel
theorem dX2_restart_34 : decode cX2_restart 34 = .ok (.aload_n 0, 1) := by decide +kernel
theorem dX2_restart_35 : decode cX2_restart 35 = .ok (.iconst 0, 1) := by decide +kernel
theorem dX2_restart_36 : decode cX2_restart 36 = .ok (.putfield 29, 3) := by decide +kernel
theorem dX2_restart_39 : decode cX2_restart 39 = .ok (.aload_n 0, 1) := by decide +kernel
theorem dX2_restart_40 : decode cX2_restart 40 = .ok (.iconst (-1), 1) := by decide +kernel
theorem dX2_restart_41 : decode cX2_restart 41 = .ok (.putfield 32, 3) := by decide +kernel
theorem dX2_restart_44 : decode cX2_restart 44 = .ok (.return_, 1) := by decide +kernel
theorem dX2_wordTold_0 : decode cX2_wordTold 0 = .ok (.aload_n 0, 1) := by decide +kernel
theorem dX2_wordTold_1 : decode cX2_wordTold 1 = .ok (.getfield 15, 3) := by decide +kernel
theorem dX2_wordTold_4 : decode cX2_wordTold 4 = .ok (.iload_n 1, 1) := by decide +kernel
theorem dX2_wordTold_5 : decode cX2_wordTold 5 = .ok (.invokestatic 35, 3) := by decide +kernel
theorem dX2_wordTold_8 : decode cX2_wordTold 8 = .ok (.ireturn, 1) := by decide +kernel
theorem dX2_lineTold_0 : decode cX2_lineTold 0 = .ok (.aload_n 0, 1) := by decide +kernel
theorem dX2_lineTold_1 : decode cX2_lineTold 1 = .ok (.getfield 19, 3) := by decide +kernel
theorem dX2_lineTold_4 : decode cX2_lineTold 4 = .ok (.iload_n 1, 1) := by decide +kernel
theorem dX2_lineTold_5 : decode cX2_lineTold 5 = .ok (.invokestatic 35, 3) := by decide +kernel
theorem dX2_lineTold_8 : decode cX2_lineTold 8 = .ok (.ireturn, 1) := by decide +kernel
theorem dX2_takes_0 : decode cX2_takes 0 = .ok (.iload_n 1, 1) := by decide +kernel
theorem dX2_takes_1 : decode cX2_takes 1 = .ok (.bipush 48, 2) := by decide +kernel
theorem dX2_takes_3 : decode cX2_takes 3 = .ok (.if_icmp .lt 18, 3) := by decide +kernel
theorem dX2_takes_6 : decode cX2_takes 6 = .ok (.iload_n 1, 1) := by decide +kernel
theorem dX2_takes_7 : decode cX2_takes 7 = .ok (.bipush 57, 2) := by decide +kernel
theorem dX2_takes_9 : decode cX2_takes 9 = .ok (.if_icmp .gt 12, 3) := by decide +kernel
theorem dX2_takes_12 : decode cX2_takes 12 = .ok (.aload_n 0, 1) := by decide +kernel
theorem dX2_takes_13 : decode cX2_takes 13 = .ok (.iload_n 1, 1) := by decide +kernel
theorem dX2_takes_14 : decode cX2_takes 14 = .ok (.bipush 48, 2) := by decide +kernel
theorem dX2_takes_16 : decode cX2_takes 16 = .ok (.isub, 1) := by decide +kernel
theorem dX2_takes_17 : decode cX2_takes 17 = .ok (.invokevirtual 39, 3) := by decide +kernel
theorem dX2_takes_20 : decode cX2_takes 20 = .ok (.ireturn, 1) := by decide +kernel
theorem dX2_takes_21 : decode cX2_takes 21 = .ok (.iload_n 1, 1) := by decide +kernel
theorem dX2_takes_22 : decode cX2_takes 22 = .ok (.bipush 44, 2) := by decide +kernel
theorem dX2_takes_24 : decode cX2_takes 24 = .ok (.if_icmp .ne 24, 3) := by decide +kernel
theorem dX2_takes_27 : decode cX2_takes 27 = .ok (.aload_n 0, 1) := by decide +kernel
theorem dX2_takes_28 : decode cX2_takes 28 = .ok (.getfield 29, 3) := by decide +kernel
theorem dX2_takes_31 : decode cX2_takes 31 = .ok (.iconst 5, 1) := by decide +kernel
theorem dX2_takes_32 : decode cX2_takes 32 = .ok (.if_icmp .ge 14, 3) := by decide +kernel
theorem dX2_takes_35 : decode cX2_takes 35 = .ok (.aload_n 0, 1) := by decide +kernel
theorem dX2_takes_36 : decode cX2_takes 36 = .ok (.invokevirtual 43, 3) := by decide +kernel
theorem dX2_takes_39 : decode cX2_takes 39 = .ok (.ifCond .eq 7, 3) := by decide +kernel
theorem dX2_takes_42 : decode cX2_takes 42 = .ok (.iconst 1, 1) := by decide +kernel
theorem dX2_takes_43 : decode cX2_takes 43 = .ok (.goto 4, 3) := by decide +kernel
theorem dX2_takes_46 : decode cX2_takes 46 = .ok (.iconst 0, 1) := by decide +kernel
theorem dX2_takes_47 : decode cX2_takes 47 = .ok (.ireturn, 1) := by decide +kernel
theorem dX2_takes_48 : decode cX2_takes 48 = .ok (.iload_n 1, 1) := by decide +kernel
theorem dX2_takes_49 : decode cX2_takes 49 = .ok (.bipush 47, 2) := by decide +kernel
theorem dX2_takes_51 : decode cX2_takes 51 = .ok (.if_icmp .ne 18, 3) := by decide +kernel
theorem dX2_takes_54 : decode cX2_takes 54 = .ok (.aload_n 0, 1) := by decide +kernel
theorem dX2_takes_55 : decode cX2_takes 55 = .ok (.getfield 26, 3) := by decide +kernel
theorem dX2_takes_58 : decode cX2_takes 58 = .ok (.iconst 3, 1) := by decide +kernel
theorem dX2_takes_59 : decode cX2_takes 59 = .ok (.if_icmp .ge 10, 3) := by decide +kernel
theorem dX2_takes_62 : decode cX2_takes 62 = .ok (.aload_n 0, 1) := by decide +kernel
theorem dX2_takes_63 : decode cX2_takes 63 = .ok (.invokevirtual 43, 3) := by decide +kernel
theorem dX2_takes_66 : decode cX2_takes 66 = .ok (.ifCond .ne 5, 3) := by decide +kernel
theorem dX2_takes_69 : decode cX2_takes 69 = .ok (.iconst 0, 1) := by decide +kernel
theorem dX2_takes_70 : decode cX2_takes 70 = .ok (.ireturn, 1) := by decide +kernel
theorem dX2_takes_71 : decode cX2_takes 71 = .ok (.aload_n 0, 1) := by decide +kernel
theorem dX2_takes_72 : decode cX2_takes 72 = .ok (.dup, 1) := by decide +kernel
theorem dX2_takes_73 : decode cX2_takes 73 = .ok (.getfield 26, 3) := by decide +kernel
theorem dX2_takes_76 : decode cX2_takes 76 = .ok (.iconst 1, 1) := by decide +kernel
theorem dX2_takes_77 : decode cX2_takes 77 = .ok (.iadd, 1) := by decide +kernel
theorem dX2_takes_78 : decode cX2_takes 78 = .ok (.putfield 26, 3) := by decide +kernel
theorem dX2_takes_81 : decode cX2_takes 81 = .ok (.aload_n 0, 1) := by decide +kernel
theorem dX2_takes_82 : decode cX2_takes 82 = .ok (.iconst 0, 1) := by decide +kernel
theorem dX2_takes_83 : decode cX2_takes 83 = .ok (.putfield 29, 3) := by decide +kernel
theorem dX2_takes_86 : decode cX2_takes 86 = .ok (.iconst 1, 1) := by decide +kernel
theorem dX2_takes_87 : decode cX2_takes 87 = .ok (.ireturn, 1) := by decide +kernel
theorem dX2_closesNumber_0 : decode cX2_closesNumber 0 = .ok (.aload_n 0, 1) := by decide +kernel
theorem dX2_closesNumber_1 : decode cX2_closesNumber 1 = .ok (.aload_n 0, 1) := by decide +kernel
theorem dX2_closesNumber_2 : decode cX2_closesNumber 2 = .ok (.getfield 32, 3) := by decide +kernel
theorem dX2_closesNumber_5 : decode cX2_closesNumber 5 = .ok (.invokevirtual 47, 3) := by decide +kernel
theorem dX2_closesNumber_8 : decode cX2_closesNumber 8 = .ok (.ifCond .eq 19, 3) := by decide +kernel
theorem dX2_closesNumber_11 : decode cX2_closesNumber 11 = .ok (.aload_n 0, 1) := by decide +kernel
theorem dX2_closesNumber_12 : decode cX2_closesNumber 12 = .ok (.getfield 22, 3) := by decide +kernel
theorem dX2_closesNumber_15 : decode cX2_closesNumber 15 = .ok (.ifCond .lt 12, 3) := by decide +kernel
theorem dX2_closesNumber_18 : decode cX2_closesNumber 18 = .ok (.aload_n 0, 1) := by decide +kernel
theorem dX2_closesNumber_19 : decode cX2_closesNumber 19 = .ok (.getfield 22, 3) := by decide +kernel
theorem dX2_closesNumber_22 : decode cX2_closesNumber 22 = .ok (.bipush 24, 2) := by decide +kernel
theorem dX2_closesNumber_24 : decode cX2_closesNumber 24 = .ok (.if_icmp .lt 5, 3) := by decide +kernel
theorem dX2_closesNumber_27 : decode cX2_closesNumber 27 = .ok (.iconst 0, 1) := by decide +kernel
theorem dX2_closesNumber_28 : decode cX2_closesNumber 28 = .ok (.ireturn, 1) := by decide +kernel
theorem dX2_closesNumber_29 : decode cX2_closesNumber 29 = .ok (.aload_n 0, 1) := by decide +kernel
theorem dX2_closesNumber_30 : decode cX2_closesNumber 30 = .ok (.aload_n 0, 1) := by decide +kernel
theorem dX2_closesNumber_31 : decode cX2_closesNumber 31 = .ok (.getfield 32, 3) := by decide +kernel
theorem dX2_closesNumber_34 : decode cX2_closesNumber 34 = .ok (.invokevirtual 50, 3) := by decide +kernel
theorem dX2_closesNumber_37 : decode cX2_closesNumber 37 = .ok (.aload_n 0, 1) := by decide +kernel
theorem dX2_closesNumber_38 : decode cX2_closesNumber 38 = .ok (.getfield 15, 3) := by decide +kernel
theorem dX2_closesNumber_41 : decode cX2_closesNumber 41 = .ok (.aload_n 0, 1) := by decide +kernel
theorem dX2_closesNumber_42 : decode cX2_closesNumber 42 = .ok (.getfield 22, 3) := by decide +kernel
theorem dX2_closesNumber_45 : decode cX2_closesNumber 45 = .ok (.aload_n 0, 1) := by decide +kernel
theorem dX2_closesNumber_46 : decode cX2_closesNumber 46 = .ok (.getfield 32, 3) := by decide +kernel
theorem dX2_closesNumber_49 : decode cX2_closesNumber 49 = .ok (.invokestatic 54, 3) := by decide +kernel
theorem dX2_closesNumber_52 : decode cX2_closesNumber 52 = .ok (.aload_n 0, 1) := by decide +kernel
theorem dX2_closesNumber_53 : decode cX2_closesNumber 53 = .ok (.getfield 19, 3) := by decide +kernel
theorem dX2_closesNumber_56 : decode cX2_closesNumber 56 = .ok (.aload_n 0, 1) := by decide +kernel
theorem dX2_closesNumber_57 : decode cX2_closesNumber 57 = .ok (.getfield 22, 3) := by decide +kernel
theorem dX2_closesNumber_60 : decode cX2_closesNumber 60 = .ok (.aload_n 0, 1) := by decide +kernel
theorem dX2_closesNumber_61 : decode cX2_closesNumber 61 = .ok (.getfield 26, 3) := by decide +kernel
theorem dX2_closesNumber_64 : decode cX2_closesNumber 64 = .ok (.invokestatic 54, 3) := by decide +kernel
theorem dX2_closesNumber_67 : decode cX2_closesNumber 67 = .ok (.aload_n 0, 1) := by decide +kernel
theorem dX2_closesNumber_68 : decode cX2_closesNumber 68 = .ok (.dup, 1) := by decide +kernel
theorem dX2_closesNumber_69 : decode cX2_closesNumber 69 = .ok (.getfield 22, 3) := by decide +kernel
theorem dX2_closesNumber_72 : decode cX2_closesNumber 72 = .ok (.iconst 1, 1) := by decide +kernel
theorem dX2_closesNumber_73 : decode cX2_closesNumber 73 = .ok (.iadd, 1) := by decide +kernel
theorem dX2_closesNumber_74 : decode cX2_closesNumber 74 = .ok (.putfield 22, 3) := by decide +kernel
theorem dX2_closesNumber_77 : decode cX2_closesNumber 77 = .ok (.aload_n 0, 1) := by decide +kernel
theorem dX2_closesNumber_78 : decode cX2_closesNumber 78 = .ok (.dup, 1) := by decide +kernel
theorem dX2_closesNumber_79 : decode cX2_closesNumber 79 = .ok (.getfield 29, 3) := by decide +kernel
theorem dX2_closesNumber_82 : decode cX2_closesNumber 82 = .ok (.iconst 1, 1) := by decide +kernel
theorem dX2_closesNumber_83 : decode cX2_closesNumber 83 = .ok (.iadd, 1) := by decide +kernel
theorem dX2_closesNumber_84 : decode cX2_closesNumber 84 = .ok (.putfield 29, 3) := by decide +kernel
theorem dX2_closesNumber_87 : decode cX2_closesNumber 87 = .ok (.aload_n 0, 1) := by decide +kernel
theorem dX2_closesNumber_88 : decode cX2_closesNumber 88 = .ok (.iconst (-1), 1) := by decide +kernel
theorem dX2_closesNumber_89 : decode cX2_closesNumber 89 = .ok (.putfield 32, 3) := by decide +kernel
theorem dX2_closesNumber_92 : decode cX2_closesNumber 92 = .ok (.iconst 1, 1) := by decide +kernel
theorem dX2_closesNumber_93 : decode cX2_closesNumber 93 = .ok (.ireturn, 1) := by decide +kernel
theorem dX2_takesDigit_0 : decode cX2_takesDigit 0 = .ok (.aload_n 0, 1) := by decide +kernel
theorem dX2_takesDigit_1 : decode cX2_takesDigit 1 = .ok (.getfield 32, 3) := by decide +kernel
theorem dX2_takesDigit_4 : decode cX2_takesDigit 4 = .ok (.iconst (-1), 1) := by decide +kernel
theorem dX2_takesDigit_5 : decode cX2_takesDigit 5 = .ok (.if_icmp .ne 7, 3) := by decide +kernel
theorem dX2_takesDigit_8 : decode cX2_takesDigit 8 = .ok (.iload_n 1, 1) := by decide +kernel
theorem dX2_takesDigit_9 : decode cX2_takesDigit 9 = .ok (.goto 12, 3) := by decide +kernel
theorem dX2_takesDigit_12 : decode cX2_takesDigit 12 = .ok (.bipush 10, 2) := by decide +kernel
theorem dX2_takesDigit_14 : decode cX2_takesDigit 14 = .ok (.aload_n 0, 1) := by decide +kernel
theorem dX2_takesDigit_15 : decode cX2_takesDigit 15 = .ok (.getfield 32, 3) := by decide +kernel
theorem dX2_takesDigit_18 : decode cX2_takesDigit 18 = .ok (.imul, 1) := by decide +kernel
theorem dX2_takesDigit_19 : decode cX2_takesDigit 19 = .ok (.iload_n 1, 1) := by decide +kernel
theorem dX2_takesDigit_20 : decode cX2_takesDigit 20 = .ok (.iadd, 1) := by decide +kernel
theorem dX2_takesDigit_21 : decode cX2_takesDigit 21 = .ok (.istore_n 2, 1) := by decide +kernel
theorem dX2_takesDigit_22 : decode cX2_takesDigit 22 = .ok (.aload_n 0, 1) := by decide +kernel
theorem dX2_takesDigit_23 : decode cX2_takesDigit 23 = .ok (.getfield 32, 3) := by decide +kernel
theorem dX2_takesDigit_26 : decode cX2_takesDigit 26 = .ok (.iconst (-1), 1) := by decide +kernel
theorem dX2_takesDigit_27 : decode cX2_takesDigit 27 = .ok (.if_icmp .ne 11, 3) := by decide +kernel
theorem dX2_takesDigit_30 : decode cX2_takesDigit 30 = .ok (.aload_n 0, 1) := by decide +kernel
theorem dX2_takesDigit_31 : decode cX2_takesDigit 31 = .ok (.iload_n 1, 1) := by decide +kernel
theorem dX2_takesDigit_32 : decode cX2_takesDigit 32 = .ok (.invokevirtual 58, 3) := by decide +kernel
theorem dX2_takesDigit_35 : decode cX2_takesDigit 35 = .ok (.goto 23, 3) := by decide +kernel
theorem dX2_takesDigit_38 : decode cX2_takesDigit 38 = .ok (.aload_n 0, 1) := by decide +kernel
theorem dX2_takesDigit_39 : decode cX2_takesDigit 39 = .ok (.getfield 32, 3) := by decide +kernel
theorem dX2_takesDigit_42 : decode cX2_takesDigit 42 = .ok (.ifCond .eq 15, 3) := by decide +kernel
theorem dX2_takesDigit_45 : decode cX2_takesDigit 45 = .ok (.aload_n 0, 1) := by decide +kernel
theorem dX2_takesDigit_46 : decode cX2_takesDigit 46 = .ok (.iload_n 2, 1) := by decide +kernel
theorem dX2_takesDigit_47 : decode cX2_takesDigit 47 = .ok (.invokevirtual 47, 3) := by decide +kernel
theorem dX2_takesDigit_50 : decode cX2_takesDigit 50 = .ok (.ifCond .eq 7, 3) := by decide +kernel
theorem dX2_takesDigit_53 : decode cX2_takesDigit 53 = .ok (.iconst 1, 1) := by decide +kernel
theorem dX2_takesDigit_54 : decode cX2_takesDigit 54 = .ok (.goto 4, 3) := by decide +kernel
theorem dX2_takesDigit_57 : decode cX2_takesDigit 57 = .ok (.iconst 0, 1) := by decide +kernel
theorem dX2_takesDigit_58 : decode cX2_takesDigit 58 = .ok (.istore_n 3, 1) := by decide +kernel
theorem dX2_takesDigit_59 : decode cX2_takesDigit 59 = .ok (.iload_n 3, 1) := by decide +kernel
theorem dX2_takesDigit_60 : decode cX2_takesDigit 60 = .ok (.ifCond .eq 8, 3) := by decide +kernel
theorem dX2_takesDigit_63 : decode cX2_takesDigit 63 = .ok (.aload_n 0, 1) := by decide +kernel
theorem dX2_takesDigit_64 : decode cX2_takesDigit 64 = .ok (.iload_n 2, 1) := by decide +kernel
theorem dX2_takesDigit_65 : decode cX2_takesDigit 65 = .ok (.putfield 32, 3) := by decide +kernel
theorem dX2_takesDigit_68 : decode cX2_takesDigit 68 = .ok (.iload_n 3, 1) := by decide +kernel
theorem dX2_takesDigit_69 : decode cX2_takesDigit 69 = .ok (.ireturn, 1) := by decide +kernel
theorem dX2_canBegin_0 : decode cX2_canBegin 0 = .ok (.aload_n 0, 1) := by decide +kernel
theorem dX2_canBegin_1 : decode cX2_canBegin 1 = .ok (.iload_n 1, 1) := by decide +kernel
theorem dX2_canBegin_2 : decode cX2_canBegin 2 = .ok (.invokevirtual 47, 3) := by decide +kernel
theorem dX2_canBegin_5 : decode cX2_canBegin 5 = .ok (.ifCond .eq 5, 3) := by decide +kernel
theorem dX2_canBegin_8 : decode cX2_canBegin 8 = .ok (.iconst 1, 1) := by decide +kernel
theorem dX2_canBegin_9 : decode cX2_canBegin 9 = .ok (.ireturn, 1) := by decide +kernel
theorem dX2_canBegin_10 : decode cX2_canBegin 10 = .ok (.iconst 0, 1) := by decide +kernel
theorem dX2_canBegin_11 : decode cX2_canBegin 11 = .ok (.istore_n 2, 1) := by decide +kernel
theorem dX2_canBegin_12 : decode cX2_canBegin 12 = .ok (.iconst 0, 1) := by decide +kernel
theorem dX2_canBegin_13 : decode cX2_canBegin 13 = .ok (.istore_n 3, 1) := by decide +kernel
theorem dX2_canBegin_14 : decode cX2_canBegin 14 = .ok (.iload_n 3, 1) := by decide +kernel
theorem dX2_canBegin_15 : decode cX2_canBegin 15 = .ok (.bipush 10, 2) := by decide +kernel
theorem dX2_canBegin_17 : decode cX2_canBegin 17 = .ok (.if_icmp .ge 36, 3) := by decide +kernel
theorem dX2_canBegin_20 : decode cX2_canBegin 20 = .ok (.iload_n 1, 1) := by decide +kernel
theorem dX2_canBegin_21 : decode cX2_canBegin 21 = .ok (.ifCond .le 32, 3) := by decide +kernel
theorem dX2_canBegin_24 : decode cX2_canBegin 24 = .ok (.iload_n 2, 1) := by decide +kernel
theorem dX2_canBegin_25 : decode cX2_canBegin 25 = .ok (.ifCond .ne 16, 3) := by decide +kernel
theorem dX2_canBegin_28 : decode cX2_canBegin 28 = .ok (.aload_n 0, 1) := by decide +kernel
theorem dX2_canBegin_29 : decode cX2_canBegin 29 = .ok (.bipush 10, 2) := by decide +kernel
theorem dX2_canBegin_31 : decode cX2_canBegin 31 = .ok (.iload_n 1, 1) := by decide +kernel
theorem dX2_canBegin_32 : decode cX2_canBegin 32 = .ok (.imul, 1) := by decide +kernel
theorem dX2_canBegin_33 : decode cX2_canBegin 33 = .ok (.iload_n 3, 1) := by decide +kernel
theorem dX2_canBegin_34 : decode cX2_canBegin 34 = .ok (.iadd, 1) := by decide +kernel
theorem dX2_canBegin_35 : decode cX2_canBegin 35 = .ok (.invokevirtual 47, 3) := by decide +kernel
theorem dX2_canBegin_38 : decode cX2_canBegin 38 = .ok (.ifCond .eq 7, 3) := by decide +kernel
theorem dX2_canBegin_41 : decode cX2_canBegin 41 = .ok (.iconst 1, 1) := by decide +kernel
theorem dX2_canBegin_42 : decode cX2_canBegin 42 = .ok (.goto 4, 3) := by decide +kernel
theorem dX2_canBegin_45 : decode cX2_canBegin 45 = .ok (.iconst 0, 1) := by decide +kernel
theorem dX2_canBegin_46 : decode cX2_canBegin 46 = .ok (.istore_n 2, 1) := by decide +kernel
theorem dX2_canBegin_47 : decode cX2_canBegin 47 = .ok (.iinc 3 1, 3) := by decide +kernel
theorem dX2_canBegin_50 : decode cX2_canBegin 50 = .ok (.goto (-36), 3) := by decide +kernel
theorem dX2_canBegin_53 : decode cX2_canBegin 53 = .ok (.iload_n 2, 1) := by decide +kernel
theorem dX2_canBegin_54 : decode cX2_canBegin 54 = .ok (.ireturn, 1) := by decide +kernel
theorem dX2_isFree_0 : decode cX2_isFree 0 = .ok (.iload_n 1, 1) := by decide +kernel
theorem dX2_isFree_1 : decode cX2_isFree 1 = .ok (.ifCond .lt 25, 3) := by decide +kernel
theorem dX2_isFree_4 : decode cX2_isFree 4 = .ok (.iload_n 1, 1) := by decide +kernel
theorem dX2_isFree_5 : decode cX2_isFree 5 = .ok (.aload_n 0, 1) := by decide +kernel
theorem dX2_isFree_6 : decode cX2_isFree 6 = .ok (.getfield 9, 3) := by decide +kernel
theorem dX2_isFree_9 : decode cX2_isFree 9 = .ok (.arraylength, 1) := by decide +kernel
theorem dX2_isFree_10 : decode cX2_isFree 10 = .ok (.if_icmp .ge 16, 3) := by decide +kernel
theorem dX2_isFree_13 : decode cX2_isFree 13 = .ok (.aload_n 0, 1) := by decide +kernel
theorem dX2_isFree_14 : decode cX2_isFree 14 = .ok (.getfield 9, 3) := by decide +kernel
theorem dX2_isFree_17 : decode cX2_isFree 17 = .ok (.iload_n 1, 1) := by decide +kernel
theorem dX2_isFree_18 : decode cX2_isFree 18 = .ok (.baload, 1) := by decide +kernel
theorem dX2_isFree_19 : decode cX2_isFree 19 = .ok (.ifCond .ne 7, 3) := by decide +kernel
theorem dX2_isFree_22 : decode cX2_isFree 22 = .ok (.iconst 1, 1) := by decide +kernel
theorem dX2_isFree_23 : decode cX2_isFree 23 = .ok (.goto 4, 3) := by decide +kernel
theorem dX2_isFree_26 : decode cX2_isFree 26 = .ok (.iconst 0, 1) := by decide +kernel
theorem dX2_isFree_27 : decode cX2_isFree 27 = .ok (.ireturn, 1) := by decide +kernel
theorem dX2_setTold_0 : decode cX2_setTold 0 = .ok (.iload_n 1, 1) := by decide +kernel
theorem dX2_setTold_1 : decode cX2_setTold 1 = .ok (.ifCond .lt 19, 3) := by decide +kernel
theorem dX2_setTold_4 : decode cX2_setTold 4 = .ok (.iload_n 1, 1) := by decide +kernel
theorem dX2_setTold_5 : decode cX2_setTold 5 = .ok (.aload_n 0, 1) := by decide +kernel
theorem dX2_setTold_6 : decode cX2_setTold 6 = .ok (.getfield 9, 3) := by decide +kernel
theorem dX2_setTold_9 : decode cX2_setTold 9 = .ok (.arraylength, 1) := by decide +kernel
theorem dX2_setTold_10 : decode cX2_setTold 10 = .ok (.if_icmp .ge 10, 3) := by decide +kernel
theorem dX2_setTold_13 : decode cX2_setTold 13 = .ok (.aload_n 0, 1) := by decide +kernel
theorem dX2_setTold_14 : decode cX2_setTold 14 = .ok (.getfield 9, 3) := by decide +kernel
theorem dX2_setTold_17 : decode cX2_setTold 17 = .ok (.iload_n 1, 1) := by decide +kernel
theorem dX2_setTold_18 : decode cX2_setTold 18 = .ok (.iconst 1, 1) := by decide +kernel
theorem dX2_setTold_19 : decode cX2_setTold 19 = .ok (.bastore, 1) := by decide +kernel
theorem dX2_setTold_20 : decode cX2_setTold 20 = .ok (.return_, 1) := by decide +kernel
theorem dX3_init_0 : decode cX3_init 0 = .ok (.aload_n 0, 1) := by decide +kernel
theorem dX3_init_1 : decode cX3_init 1 = .ok (.invokespecial 1, 3) := by decide +kernel
theorem dX3_init_4 : decode cX3_init 4 = .ok (.aload_n 0, 1) := by decide +kernel
theorem dX3_init_5 : decode cX3_init 5 = .ok (.new 7, 3) := by decide +kernel
theorem dX3_init_8 : decode cX3_init 8 = .ok (.dup, 1) := by decide +kernel
theorem dX3_init_9 : decode cX3_init 9 = .ok (.invokespecial 9, 3) := by decide +kernel
theorem dX3_init_12 : decode cX3_init 12 = .ok (.putfield 10, 3) := by decide +kernel
theorem dX3_init_15 : decode cX3_init 15 = .ok (.aload_n 0, 1) := by decide +kernel
theorem dX3_init_16 : decode cX3_init 16 = .ok (.new 7, 3) := by decide +kernel
theorem dX3_init_19 : decode cX3_init 19 = .ok (.dup, 1) := by decide +kernel
theorem dX3_init_20 : decode cX3_init 20 = .ok (.invokespecial 9, 3) := by decide +kernel
theorem dX3_init_23 : decode cX3_init 23 = .ok (.putfield 16, 3) := by decide +kernel
theorem dX3_init_26 : decode cX3_init 26 = .ok (.aload_n 0, 1) := by decide +kernel
theorem dX3_init_27 : decode cX3_init 27 = .ok (.new 19, 3) := by decide +kernel
theorem dX3_init_30 : decode cX3_init 30 = .ok (.dup, 1) := by decide +kernel
theorem dX3_init_31 : decode cX3_init 31 = .ok (.invokespecial 21, 3) := by decide +kernel
theorem dX3_init_34 : decode cX3_init 34 = .ok (.putfield 22, 3) := by decide +kernel
theorem dX3_init_37 : decode cX3_init 37 = .ok (.aload_n 0, 1) := by decide +kernel
theorem dX3_init_38 : decode cX3_init 38 = .ok (.iconst 2, 1) := by decide +kernel
theorem dX3_init_39 : decode cX3_init 39 = .ok (.anewarray 7, 3) := by decide +kernel
theorem dX3_init_42 : decode cX3_init 42 = .ok (.putfield 26, 3) := by decide +kernel
theorem dX3_init_45 : decode cX3_init 45 = .ok (.aload_n 0, 1) := by decide +kernel
theorem dX3_init_46 : decode cX3_init 46 = .ok (.iconst 2, 1) := by decide +kernel
theorem dX3_init_47 : decode cX3_init 47 = .ok (.newarray .boolean, 2) := by decide +kernel
theorem dX3_init_49 : decode cX3_init 49 = .ok (.putfield 30, 3) := by decide +kernel
theorem dX3_init_52 : decode cX3_init 52 = .ok (.aload_n 0, 1) := by decide +kernel
theorem dX3_init_53 : decode cX3_init 53 = .ok (.bipush 60, 2) := by decide +kernel
theorem dX3_init_55 : decode cX3_init 55 = .ok (.newarray .int, 2) := by decide +kernel
theorem dX3_init_57 : decode cX3_init 57 = .ok (.putfield 34, 3) := by decide +kernel
theorem dX3_init_60 : decode cX3_init 60 = .ok (.aload_n 0, 1) := by decide +kernel
theorem dX3_init_61 : decode cX3_init 61 = .ok (.new 38, 3) := by decide +kernel
theorem dX3_init_64 : decode cX3_init 64 = .ok (.dup, 1) := by decide +kernel
theorem dX3_init_65 : decode cX3_init 65 = .ok (.invokespecial 40, 3) := by decide +kernel
theorem dX3_init_68 : decode cX3_init 68 = .ok (.putfield 41, 3) := by decide +kernel
theorem dX3_init_71 : decode cX3_init 71 = .ok (.iconst 0, 1) := by decide +kernel
theorem dX3_init_72 : decode cX3_init 72 = .ok (.istore_n 1, 1) := by decide +kernel
theorem dX3_init_73 : decode cX3_init 73 = .ok (.iload_n 1, 1) := by decide +kernel
theorem dX3_init_74 : decode cX3_init 74 = .ok (.aload_n 0, 1) := by decide +kernel
theorem dX3_init_75 : decode cX3_init 75 = .ok (.getfield 26, 3) := by decide +kernel
theorem dX3_init_78 : decode cX3_init 78 = .ok (.arraylength, 1) := by decide +kernel
theorem dX3_init_79 : decode cX3_init 79 = .ok (.if_icmp .ge 22, 3) := by decide +kernel
theorem dX3_init_82 : decode cX3_init 82 = .ok (.aload_n 0, 1) := by decide +kernel
theorem dX3_init_83 : decode cX3_init 83 = .ok (.getfield 26, 3) := by decide +kernel
theorem dX3_init_86 : decode cX3_init 86 = .ok (.iload_n 1, 1) := by decide +kernel
theorem dX3_init_87 : decode cX3_init 87 = .ok (.new 7, 3) := by decide +kernel
theorem dX3_init_90 : decode cX3_init 90 = .ok (.dup, 1) := by decide +kernel
theorem dX3_init_91 : decode cX3_init 91 = .ok (.invokespecial 9, 3) := by decide +kernel
theorem dX3_init_94 : decode cX3_init 94 = .ok (.aastore, 1) := by decide +kernel
theorem dX3_init_95 : decode cX3_init 95 = .ok (.iinc 1 1, 3) := by decide +kernel
theorem dX3_init_98 : decode cX3_init 98 = .ok (.goto (-25), 3) := by decide +kernel
theorem dX3_init_101 : decode cX3_init 101 = .ok (.return_, 1) := by decide +kernel
theorem dX3_put_0 : decode cX3_put 0 = .ok (.iload_n 1, 1) := by decide +kernel
theorem dX3_put_1 : decode cX3_put 1 = .ok (.invokestatic 45, 3) := by decide +kernel
theorem dX3_put_4 : decode cX3_put 4 = .ok (.ifCond .eq 14, 3) := by decide +kernel
theorem dX3_put_7 : decode cX3_put 7 = .ok (.aload_n 0, 1) := by decide +kernel
theorem dX3_put_8 : decode cX3_put 8 = .ok (.iload_n 2, 1) := by decide +kernel
theorem dX3_put_9 : decode cX3_put 9 = .ok (.iload_n 3, 1) := by decide +kernel
theorem dX3_put_10 : decode cX3_put 10 = .ok (.iload 4, 2) := by decide +kernel
theorem dX3_put_12 : decode cX3_put 12 = .ok (.invokevirtual 49, 3) := by decide +kernel
theorem dX3_put_15 : decode cX3_put 15 = .ok (.ifCond .ne 13, 3) := by decide +kernel
theorem dX3_put_18 : decode cX3_put 18 = .ok (.new 53, 3) := by decide +kernel
theorem dX3_put_21 : decode cX3_put 21 = .ok (.dup, 1) := by decide +kernel
theorem dX3_put_22 : decode cX3_put 22 = .ok (.ldc 55, 2) := by decide +kernel
theorem dX3_put_24 : decode cX3_put 24 = .ok (.invokespecial 57, 3) := by decide +kernel
theorem dX3_put_27 : decode cX3_put 27 = .ok (.athrow, 1) := by decide +kernel
theorem dX3_put_28 : decode cX3_put 28 = .ok (.aload_n 0, 1) := by decide +kernel
theorem dX3_put_29 : decode cX3_put 29 = .ok (.getfield 10, 3) := by decide +kernel
theorem dX3_put_32 : decode cX3_put 32 = .ok (.iload_n 1, 1) := by decide +kernel
theorem dX3_put_33 : decode cX3_put 33 = .ok (.invokevirtual 60, 3) := by decide +kernel
theorem dX3_put_36 : decode cX3_put 36 = .ok (.ifCond .ne 13, 3) := by decide +kernel
theorem dX3_put_39 : decode cX3_put 39 = .ok (.new 63, 3) := by decide +kernel
theorem dX3_put_42 : decode cX3_put 42 = .ok (.dup, 1) := by decide +kernel
theorem dX3_put_43 : decode cX3_put 43 = .ok (.ldc 65, 2) := by decide +kernel
theorem dX3_put_45 : decode cX3_put 45 = .ok (.invokespecial 67, 3) := by decide +kernel
theorem dX3_put_48 : decode cX3_put 48 = .ok (.athrow, 1) := by decide +kernel
theorem dX3_put_49 : decode cX3_put 49 = .ok (.aload_n 0, 1) := by decide +kernel
theorem dX3_put_50 : decode cX3_put 50 = .ok (.getfield 22, 3) := by decide +kernel
theorem dX3_put_53 : decode cX3_put 53 = .ok (.aload_n 0, 1) := by decide +kernel
theorem dX3_put_54 : decode cX3_put 54 = .ok (.getfield 10, 3) := by decide +kernel
theorem dX3_put_57 : decode cX3_put 57 = .ok (.invokevirtual 68, 3) := by decide +kernel
theorem dX3_put_60 : decode cX3_put 60 = .ok (.iload_n 2, 1) := by decide +kernel
theorem dX3_put_61 : decode cX3_put 61 = .ok (.iload_n 3, 1) := by decide +kernel
theorem dX3_put_62 : decode cX3_put 62 = .ok (.invokestatic 72, 3) := by decide +kernel
theorem dX3_put_65 : decode cX3_put 65 = .ok (.istore 5, 2) := by decide +kernel
theorem dX3_put_67 : decode cX3_put 67 = .ok (.aload_n 0, 1) := by decide +kernel
theorem dX3_put_68 : decode cX3_put 68 = .ok (.getfield 10, 3) := by decide +kernel
theorem dX3_put_71 : decode cX3_put 71 = .ok (.iload_n 1, 1) := by decide +kernel
theorem dX3_put_72 : decode cX3_put 72 = .ok (.iload 5, 2) := by decide +kernel
theorem dX3_put_74 : decode cX3_put 74 = .ok (.iload 4, 2) := by decide +kernel
theorem dX3_put_76 : decode cX3_put 76 = .ok (.invokevirtual 76, 3) := by decide +kernel
theorem dX3_put_79 : decode cX3_put 79 = .ok (.istore 6, 2) := by decide +kernel
theorem dX3_put_81 : decode cX3_put 81 = .ok (.iload 6, 2) := by decide +kernel
theorem dX3_put_83 : decode cX3_put 83 = .ok (.ifCond .eq 19, 3) := by decide +kernel
theorem dX3_put_86 : decode cX3_put 86 = .ok (.aload_n 0, 1) := by decide +kernel
theorem dX3_put_87 : decode cX3_put 87 = .ok (.getfield 10, 3) := by decide +kernel
theorem dX3_put_90 : decode cX3_put 90 = .ok (.dup, 1) := by decide +kernel
theorem dX3_put_91 : decode cX3_put 91 = .ok (.getfield 80, 3) := by decide +kernel
theorem dX3_put_94 : decode cX3_put 94 = .ok (.iconst 1, 1) := by decide +kernel
theorem dX3_put_95 : decode cX3_put 95 = .ok (.iadd, 1) := by decide +kernel
theorem dX3_put_96 : decode cX3_put 96 = .ok (.putfield 80, 3) := by decide +kernel
theorem dX3_put_99 : decode cX3_put 99 = .ok (.iload 6, 2) := by decide +kernel
theorem dX3_put_101 : decode cX3_put 101 = .ok (.ireturn, 1) := by decide +kernel
theorem dX3_put_102 : decode cX3_put 102 = .ok (.aload_n 0, 1) := by decide +kernel
theorem dX3_put_103 : decode cX3_put 103 = .ok (.getfield 10, 3) := by decide +kernel
theorem dX3_put_106 : decode cX3_put 106 = .ok (.iload_n 1, 1) := by decide +kernel
theorem dX3_put_107 : decode cX3_put 107 = .ok (.iload 5, 2) := by decide +kernel
theorem dX3_put_109 : decode cX3_put 109 = .ok (.iload 4, 2) := by decide +kernel
theorem dX3_put_111 : decode cX3_put 111 = .ok (.invokevirtual 84, 3) := by decide +kernel
theorem dX3_put_114 : decode cX3_put 114 = .ok (.aload_n 0, 1) := by decide +kernel
theorem dX3_put_115 : decode cX3_put 115 = .ok (.getfield 10, 3) := by decide +kernel
theorem dX3_put_118 : decode cX3_put 118 = .ok (.dup, 1) := by decide +kernel
theorem dX3_put_119 : decode cX3_put 119 = .ok (.getfield 88, 3) := by decide +kernel
theorem dX3_put_122 : decode cX3_put 122 = .ok (.iconst 1, 1) := by decide +kernel
theorem dX3_put_123 : decode cX3_put 123 = .ok (.iadd, 1) := by decide +kernel
theorem dX3_put_124 : decode cX3_put 124 = .ok (.putfield 88, 3) := by decide +kernel
theorem dX3_put_127 : decode cX3_put 127 = .ok (.iconst 0, 1) := by decide +kernel
theorem dX3_put_128 : decode cX3_put 128 = .ok (.ireturn, 1) := by decide +kernel
theorem dX3_takeOff_0 : decode cX3_takeOff 0 = .ok (.iload_n 1, 1) := by decide +kernel
theorem dX3_takeOff_1 : decode cX3_takeOff 1 = .ok (.invokestatic 45, 3) := by decide +kernel
theorem dX3_takeOff_4 : decode cX3_takeOff 4 = .ok (.ifCond .ne 13, 3) := by decide +kernel
theorem dX3_takeOff_7 : decode cX3_takeOff 7 = .ok (.new 53, 3) := by decide +kernel
theorem dX3_takeOff_10 : decode cX3_takeOff 10 = .ok (.dup, 1) := by decide +kernel
theorem dX3_takeOff_11 : decode cX3_takeOff 11 = .ok (.ldc 91, 2) := by decide +kernel
theorem dX3_takeOff_13 : decode cX3_takeOff 13 = .ok (.invokespecial 57, 3) := by decide +kernel
theorem dX3_takeOff_16 : decode cX3_takeOff 16 = .ok (.athrow, 1) := by decide +kernel
theorem dX3_takeOff_17 : decode cX3_takeOff 17 = .ok (.aload_n 0, 1) := by decide +kernel
theorem dX3_takeOff_18 : decode cX3_takeOff 18 = .ok (.getfield 10, 3) := by decide +kernel
theorem dX3_takeOff_21 : decode cX3_takeOff 21 = .ok (.iload_n 1, 1) := by decide +kernel
theorem dX3_takeOff_22 : decode cX3_takeOff 22 = .ok (.invokevirtual 60, 3) := by decide +kernel
theorem dX3_takeOff_25 : decode cX3_takeOff 25 = .ok (.ifCond .eq 13, 3) := by decide +kernel
theorem dX3_takeOff_28 : decode cX3_takeOff 28 = .ok (.new 63, 3) := by decide +kernel
theorem dX3_takeOff_31 : decode cX3_takeOff 31 = .ok (.dup, 1) := by decide +kernel
theorem dX3_takeOff_32 : decode cX3_takeOff 32 = .ok (.ldc 93, 2) := by decide +kernel
theorem dX3_takeOff_34 : decode cX3_takeOff 34 = .ok (.invokespecial 67, 3) := by decide +kernel
theorem dX3_takeOff_37 : decode cX3_takeOff 37 = .ok (.athrow, 1) := by decide +kernel
theorem dX3_takeOff_38 : decode cX3_takeOff 38 = .ok (.aload_n 0, 1) := by decide +kernel
theorem dX3_takeOff_39 : decode cX3_takeOff 39 = .ok (.getfield 22, 3) := by decide +kernel
theorem dX3_takeOff_42 : decode cX3_takeOff 42 = .ok (.aload_n 0, 1) := by decide +kernel
theorem dX3_takeOff_43 : decode cX3_takeOff 43 = .ok (.getfield 10, 3) := by decide +kernel
theorem dX3_takeOff_46 : decode cX3_takeOff 46 = .ok (.invokevirtual 68, 3) := by decide +kernel
theorem dX3_takeOff_49 : decode cX3_takeOff 49 = .ok (.aload_n 0, 1) := by decide +kernel
theorem dX3_takeOff_50 : decode cX3_takeOff 50 = .ok (.getfield 10, 3) := by decide +kernel
theorem dX3_takeOff_53 : decode cX3_takeOff 53 = .ok (.iload_n 1, 1) := by decide +kernel
theorem dX3_takeOff_54 : decode cX3_takeOff 54 = .ok (.invokevirtual 95, 3) := by decide +kernel
theorem dX3_takeOff_57 : decode cX3_takeOff 57 = .ok (.istore_n 2, 1) := by decide +kernel
theorem dX3_takeOff_58 : decode cX3_takeOff 58 = .ok (.aload_n 0, 1) := by decide +kernel
theorem dX3_takeOff_59 : decode cX3_takeOff 59 = .ok (.getfield 10, 3) := by decide +kernel
theorem dX3_takeOff_62 : decode cX3_takeOff 62 = .ok (.iload_n 1, 1) := by decide +kernel
theorem dX3_takeOff_63 : decode cX3_takeOff 63 = .ok (.invokevirtual 99, 3) := by decide +kernel
theorem dX3_takeOff_66 : decode cX3_takeOff 66 = .ok (.iload_n 2, 1) := by decide +kernel
theorem dX3_takeOff_67 : decode cX3_takeOff 67 = .ok (.invokestatic 103, 3) := by decide +kernel
theorem dX3_takeOff_70 : decode cX3_takeOff 70 = .ok (.ireturn, 1) := by decide +kernel
theorem dX3_move_0 : decode cX3_move 0 = .ok (.iload_n 1, 1) := by decide +kernel
theorem dX3_move_1 : decode cX3_move 1 = .ok (.invokestatic 45, 3) := by decide +kernel
theorem dX3_move_4 : decode cX3_move 4 = .ok (.ifCond .eq 11, 3) := by decide +kernel
theorem dX3_move_7 : decode cX3_move 7 = .ok (.iload_n 2, 1) := by decide +kernel
theorem dX3_move_8 : decode cX3_move 8 = .ok (.iload_n 3, 1) := by decide +kernel
theorem dX3_move_9 : decode cX3_move 9 = .ok (.invokestatic 106, 3) := by decide +kernel
theorem dX3_move_12 : decode cX3_move 12 = .ok (.ifCond .ne 13, 3) := by decide +kernel
theorem dX3_move_15 : decode cX3_move 15 = .ok (.new 53, 3) := by decide +kernel
theorem dX3_move_18 : decode cX3_move 18 = .ok (.dup, 1) := by decide +kernel
theorem dX3_move_19 : decode cX3_move 19 = .ok (.ldc 110, 2) := by decide +kernel
theorem dX3_move_21 : decode cX3_move 21 = .ok (.invokespecial 57, 3) := by decide +kernel
theorem dX3_move_24 : decode cX3_move 24 = .ok (.athrow, 1) := by decide +kernel
theorem dX3_move_25 : decode cX3_move 25 = .ok (.iload_n 2, 1) := by decide +kernel
theorem dX3_move_26 : decode cX3_move 26 = .ok (.iload_n 3, 1) := by decide +kernel
theorem dX3_move_27 : decode cX3_move 27 = .ok (.invokestatic 72, 3) := by decide +kernel
theorem dX3_move_30 : decode cX3_move 30 = .ok (.istore 4, 2) := by decide +kernel
theorem dX3_move_32 : decode cX3_move 32 = .ok (.aload_n 0, 1) := by decide +kernel
theorem dX3_move_33 : decode cX3_move 33 = .ok (.getfield 10, 3) := by decide +kernel
theorem dX3_move_36 : decode cX3_move 36 = .ok (.iload_n 1, 1) := by decide +kernel
theorem dX3_move_37 : decode cX3_move 37 = .ok (.invokevirtual 60, 3) := by decide +kernel
theorem dX3_move_40 : decode cX3_move 40 = .ok (.ifCond .ne 16, 3) := by decide +kernel
theorem dX3_move_43 : decode cX3_move 43 = .ok (.aload_n 0, 1) := by decide +kernel
theorem dX3_move_44 : decode cX3_move 44 = .ok (.getfield 10, 3) := by decide +kernel
theorem dX3_move_47 : decode cX3_move 47 = .ok (.iload_n 1, 1) := by decide +kernel
theorem dX3_move_48 : decode cX3_move 48 = .ok (.invokevirtual 95, 3) := by decide +kernel
theorem dX3_move_51 : decode cX3_move 51 = .ok (.iload 4, 2) := by decide +kernel
theorem dX3_move_53 : decode cX3_move 53 = .ok (.if_icmp .ne 13, 3) := by decide +kernel
theorem dX3_move_56 : decode cX3_move 56 = .ok (.new 63, 3) := by decide +kernel
theorem dX3_move_59 : decode cX3_move 59 = .ok (.dup, 1) := by decide +kernel
theorem dX3_move_60 : decode cX3_move 60 = .ok (.ldc 112, 2) := by decide +kernel
theorem dX3_move_62 : decode cX3_move 62 = .ok (.invokespecial 67, 3) := by decide +kernel
theorem dX3_move_65 : decode cX3_move 65 = .ok (.athrow, 1) := by decide +kernel
theorem dX3_move_66 : decode cX3_move 66 = .ok (.aload_n 0, 1) := by decide +kernel
theorem dX3_move_67 : decode cX3_move 67 = .ok (.getfield 22, 3) := by decide +kernel
theorem dX3_move_70 : decode cX3_move 70 = .ok (.aload_n 0, 1) := by decide +kernel
theorem dX3_move_71 : decode cX3_move 71 = .ok (.getfield 10, 3) := by decide +kernel
theorem dX3_move_74 : decode cX3_move 74 = .ok (.invokevirtual 68, 3) := by decide +kernel
theorem dX3_move_77 : decode cX3_move 77 = .ok (.aload_n 0, 1) := by decide +kernel
theorem dX3_move_78 : decode cX3_move 78 = .ok (.getfield 10, 3) := by decide +kernel
theorem dX3_move_81 : decode cX3_move 81 = .ok (.iload 4, 2) := by decide +kernel
theorem dX3_move_83 : decode cX3_move 83 = .ok (.invokevirtual 114, 3) := by decide +kernel
theorem dX3_move_86 : decode cX3_move 86 = .ok (.istore 5, 2) := by decide +kernel
theorem dX3_move_88 : decode cX3_move 88 = .ok (.aload_n 0, 1) := by decide +kernel
theorem dX3_move_89 : decode cX3_move 89 = .ok (.getfield 10, 3) := by decide +kernel
theorem dX3_move_92 : decode cX3_move 92 = .ok (.iload_n 1, 1) := by decide +kernel
theorem dX3_move_93 : decode cX3_move 93 = .ok (.iload 4, 2) := by decide +kernel
theorem dX3_move_95 : decode cX3_move 95 = .ok (.iload 5, 2) := by decide +kernel
theorem dX3_move_97 : decode cX3_move 97 = .ok (.invokevirtual 76, 3) := by decide +kernel
theorem dX3_move_100 : decode cX3_move 100 = .ok (.istore 6, 2) := by decide +kernel
theorem dX3_move_102 : decode cX3_move 102 = .ok (.iload 6, 2) := by decide +kernel
theorem dX3_move_104 : decode cX3_move 104 = .ok (.ifCond .eq 19, 3) := by decide +kernel
theorem dX3_move_107 : decode cX3_move 107 = .ok (.aload_n 0, 1) := by decide +kernel
theorem dX3_move_108 : decode cX3_move 108 = .ok (.getfield 10, 3) := by decide +kernel
theorem dX3_move_111 : decode cX3_move 111 = .ok (.dup, 1) := by decide +kernel
theorem dX3_move_112 : decode cX3_move 112 = .ok (.getfield 80, 3) := by decide +kernel
theorem dX3_move_115 : decode cX3_move 115 = .ok (.iconst 1, 1) := by decide +kernel
theorem dX3_move_116 : decode cX3_move 116 = .ok (.iadd, 1) := by decide +kernel
theorem dX3_move_117 : decode cX3_move 117 = .ok (.putfield 80, 3) := by decide +kernel
theorem dX3_move_120 : decode cX3_move 120 = .ok (.iload 6, 2) := by decide +kernel
theorem dX3_move_122 : decode cX3_move 122 = .ok (.ireturn, 1) := by decide +kernel
theorem dX3_move_123 : decode cX3_move 123 = .ok (.aload_n 0, 1) := by decide +kernel
theorem dX3_move_124 : decode cX3_move 124 = .ok (.getfield 10, 3) := by decide +kernel
theorem dX3_move_127 : decode cX3_move 127 = .ok (.iload_n 1, 1) := by decide +kernel
theorem dX3_move_128 : decode cX3_move 128 = .ok (.invokevirtual 99, 3) := by decide +kernel
theorem dX3_move_131 : decode cX3_move 131 = .ok (.aload_n 0, 1) := by decide +kernel
theorem dX3_move_132 : decode cX3_move 132 = .ok (.getfield 10, 3) := by decide +kernel
theorem dX3_move_135 : decode cX3_move 135 = .ok (.iload_n 1, 1) := by decide +kernel
theorem dX3_move_136 : decode cX3_move 136 = .ok (.iload 4, 2) := by decide +kernel
theorem dX3_move_138 : decode cX3_move 138 = .ok (.iload 5, 2) := by decide +kernel
theorem dX3_move_140 : decode cX3_move 140 = .ok (.invokevirtual 84, 3) := by decide +kernel
theorem dX3_move_143 : decode cX3_move 143 = .ok (.aload_n 0, 1) := by decide +kernel
theorem dX3_move_144 : decode cX3_move 144 = .ok (.getfield 10, 3) := by decide +kernel
theorem dX3_move_147 : decode cX3_move 147 = .ok (.dup, 1) := by decide +kernel
theorem dX3_move_148 : decode cX3_move 148 = .ok (.getfield 88, 3) := by decide +kernel
theorem dX3_move_151 : decode cX3_move 151 = .ok (.iconst 1, 1) := by decide +kernel
theorem dX3_move_152 : decode cX3_move 152 = .ok (.iadd, 1) := by decide +kernel
theorem dX3_move_153 : decode cX3_move 153 = .ok (.putfield 88, 3) := by decide +kernel
theorem dX3_move_156 : decode cX3_move 156 = .ok (.iconst 0, 1) := by decide +kernel
theorem dX3_move_157 : decode cX3_move 157 = .ok (.ireturn, 1) := by decide +kernel
theorem dX3_clearDoor_0 : decode cX3_clearDoor 0 = .ok (.iload_n 1, 1) := by decide +kernel
theorem dX3_clearDoor_1 : decode cX3_clearDoor 1 = .ok (.invokestatic 117, 3) := by decide +kernel
theorem dX3_clearDoor_4 : decode cX3_clearDoor 4 = .ok (.ifCond .ne 13, 3) := by decide +kernel
theorem dX3_clearDoor_7 : decode cX3_clearDoor 7 = .ok (.new 53, 3) := by decide +kernel
theorem dX3_clearDoor_10 : decode cX3_clearDoor 10 = .ok (.dup, 1) := by decide +kernel
theorem dX3_clearDoor_11 : decode cX3_clearDoor 11 = .ok (.ldc 120, 2) := by decide +kernel
theorem dX3_clearDoor_13 : decode cX3_clearDoor 13 = .ok (.invokespecial 57, 3) := by decide +kernel
theorem dX3_clearDoor_16 : decode cX3_clearDoor 16 = .ok (.athrow, 1) := by decide +kernel
theorem dX3_clearDoor_17 : decode cX3_clearDoor 17 = .ok (.aload_n 0, 1) := by decide +kernel
theorem dX3_clearDoor_18 : decode cX3_clearDoor 18 = .ok (.getfield 22, 3) := by decide +kernel
theorem dX3_clearDoor_21 : decode cX3_clearDoor 21 = .ok (.aload_n 0, 1) := by decide +kernel
theorem dX3_clearDoor_22 : decode cX3_clearDoor 22 = .ok (.getfield 10, 3) := by decide +kernel
theorem dX3_clearDoor_25 : decode cX3_clearDoor 25 = .ok (.invokevirtual 68, 3) := by decide +kernel
theorem dX3_clearDoor_28 : decode cX3_clearDoor 28 = .ok (.aload_n 0, 1) := by decide +kernel
theorem dX3_clearDoor_29 : decode cX3_clearDoor 29 = .ok (.getfield 10, 3) := by decide +kernel
theorem dX3_clearDoor_32 : decode cX3_clearDoor 32 = .ok (.iload_n 1, 1) := by decide +kernel
theorem dX3_clearDoor_33 : decode cX3_clearDoor 33 = .ok (.invokevirtual 122, 3) := by decide +kernel
theorem dX3_clearDoor_36 : decode cX3_clearDoor 36 = .ok (.ireturn, 1) := by decide +kernel
theorem dX3_borrow_0 : decode cX3_borrow 0 = .ok (.iload_n 1, 1) := by decide +kernel
theorem dX3_borrow_1 : decode cX3_borrow 1 = .ok (.iload_n 2, 1) := by decide +kernel
theorem dX3_borrow_2 : decode cX3_borrow 2 = .ok (.invokestatic 106, 3) := by decide +kernel
theorem dX3_borrow_5 : decode cX3_borrow 5 = .ok (.ifCond .eq 12, 3) := by decide +kernel
theorem dX3_borrow_8 : decode cX3_borrow 8 = .ok (.iload_n 3, 1) := by decide +kernel
theorem dX3_borrow_9 : decode cX3_borrow 9 = .ok (.iload 4, 2) := by decide +kernel
theorem dX3_borrow_11 : decode cX3_borrow 11 = .ok (.invokestatic 106, 3) := by decide +kernel
theorem dX3_borrow_14 : decode cX3_borrow 14 = .ok (.ifCond .ne 13, 3) := by decide +kernel
theorem dX3_borrow_17 : decode cX3_borrow 17 = .ok (.new 53, 3) := by decide +kernel
theorem dX3_borrow_20 : decode cX3_borrow 20 = .ok (.dup, 1) := by decide +kernel
theorem dX3_borrow_21 : decode cX3_borrow 21 = .ok (.ldc 125, 2) := by decide +kernel
theorem dX3_borrow_23 : decode cX3_borrow 23 = .ok (.invokespecial 57, 3) := by decide +kernel
theorem dX3_borrow_26 : decode cX3_borrow 26 = .ok (.athrow, 1) := by decide +kernel
theorem dX3_borrow_27 : decode cX3_borrow 27 = .ok (.iload_n 1, 1) := by decide +kernel
theorem dX3_borrow_28 : decode cX3_borrow 28 = .ok (.iload_n 3, 1) := by decide +kernel
theorem dX3_borrow_29 : decode cX3_borrow 29 = .ok (.if_icmp .ne 13, 3) := by decide +kernel
theorem dX3_borrow_32 : decode cX3_borrow 32 = .ok (.new 127, 3) := by decide +kernel
theorem dX3_borrow_35 : decode cX3_borrow 35 = .ok (.dup, 1) := by decide +kernel
theorem dX3_borrow_36 : decode cX3_borrow 36 = .ok (.ldc 129, 2) := by decide +kernel
theorem dX3_borrow_38 : decode cX3_borrow 38 = .ok (.invokespecial 131, 3) := by decide +kernel
theorem dX3_borrow_41 : decode cX3_borrow 41 = .ok (.athrow, 1) := by decide +kernel
theorem dX3_borrow_42 : decode cX3_borrow 42 = .ok (.iload_n 1, 1) := by decide +kernel
theorem dX3_borrow_43 : decode cX3_borrow 43 = .ok (.iload_n 2, 1) := by decide +kernel
theorem dX3_borrow_44 : decode cX3_borrow 44 = .ok (.invokestatic 72, 3) := by decide +kernel
theorem dX3_borrow_47 : decode cX3_borrow 47 = .ok (.istore 5, 2) := by decide +kernel
theorem dX3_borrow_49 : decode cX3_borrow 49 = .ok (.iload_n 3, 1) := by decide +kernel
theorem dX3_borrow_50 : decode cX3_borrow 50 = .ok (.iload 4, 2) := by decide +kernel
theorem dX3_borrow_52 : decode cX3_borrow 52 = .ok (.invokestatic 72, 3) := by decide +kernel
theorem dX3_borrow_55 : decode cX3_borrow 55 = .ok (.istore 6, 2) := by decide +kernel
theorem dX3_borrow_57 : decode cX3_borrow 57 = .ok (.aload_n 0, 1) := by decide +kernel
theorem dX3_borrow_58 : decode cX3_borrow 58 = .ok (.getfield 10, 3) := by decide +kernel
theorem dX3_borrow_61 : decode cX3_borrow 61 = .ok (.iload 5, 2) := by decide +kernel
theorem dX3_borrow_63 : decode cX3_borrow 63 = .ok (.invokevirtual 132, 3) := by decide +kernel
theorem dX3_borrow_66 : decode cX3_borrow 66 = .ok (.ifCond .eq 15, 3) := by decide +kernel
theorem dX3_borrow_69 : decode cX3_borrow 69 = .ok (.aload_n 0, 1) := by decide +kernel
theorem dX3_borrow_70 : decode cX3_borrow 70 = .ok (.getfield 10, 3) := by decide +kernel
theorem dX3_borrow_73 : decode cX3_borrow 73 = .ok (.iload 6, 2) := by decide +kernel
theorem dX3_borrow_75 : decode cX3_borrow 75 = .ok (.invokevirtual 132, 3) := by decide +kernel
theorem dX3_borrow_78 : decode cX3_borrow 78 = .ok (.ifCond .ne 13, 3) := by decide +kernel
theorem dX3_borrow_81 : decode cX3_borrow 81 = .ok (.new 63, 3) := by decide +kernel
theorem dX3_borrow_84 : decode cX3_borrow 84 = .ok (.dup, 1) := by decide +kernel
theorem dX3_borrow_85 : decode cX3_borrow 85 = .ok (.ldc 135, 2) := by decide +kernel
theorem dX3_borrow_87 : decode cX3_borrow 87 = .ok (.invokespecial 67, 3) := by decide +kernel
theorem dX3_borrow_90 : decode cX3_borrow 90 = .ok (.athrow, 1) := by decide +kernel
theorem dX3_borrow_91 : decode cX3_borrow 91 = .ok (.aload_n 0, 1) := by decide +kernel
theorem dX3_borrow_92 : decode cX3_borrow 92 = .ok (.getfield 22, 3) := by decide +kernel
theorem dX3_borrow_95 : decode cX3_borrow 95 = .ok (.aload_n 0, 1) := by decide +kernel
end
section
theorem dX3_borrow_96 : decode cX3_borrow 96 = .ok (.getfield 10, 3) := by decide +kernel
theorem dX3_borrow_99 : decode cX3_borrow 99 = .ok (.invokevirtual 68, 3) := by decide +kernel
theorem dX3_borrow_102 : decode cX3_borrow 102 = .ok (.aload_n 0, 1) := by decide +kernel
theorem dX3_borrow_103 : decode cX3_borrow 103 = .ok (.getfield 10, 3) := by decide +kernel
theorem dX3_borrow_106 : decode cX3_borrow 106 = .ok (.iload 5, 2) := by decide +kernel
theorem dX3_borrow_108 : decode cX3_borrow 108 = .ok (.iload 6, 2) := by decide +kernel
theorem dX3_borrow_110 : decode cX3_borrow 110 = .ok (.invokevirtual 137, 3) := by decide +kernel
theorem dX3_borrow_113 : decode cX3_borrow 113 = .ok (.aload_n 0, 1) := by decide +kernel
theorem dX3_borrow_114 : decode cX3_borrow 114 = .ok (.getfield 10, 3) := by decide +kernel
theorem dX3_borrow_117 : decode cX3_borrow 117 = .ok (.iload 5, 2) := by decide +kernel
theorem dX3_borrow_119 : decode cX3_borrow 119 = .ok (.invokevirtual 141, 3) := by decide +kernel
theorem dX3_borrow_122 : decode cX3_borrow 122 = .ok (.ireturn, 1) := by decide +kernel
theorem dX3_bringBack_0 : decode cX3_bringBack 0 = .ok (.iload_n 1, 1) := by decide +kernel
theorem dX3_bringBack_1 : decode cX3_bringBack 1 = .ok (.iload_n 2, 1) := by decide +kernel
theorem dX3_bringBack_2 : decode cX3_bringBack 2 = .ok (.invokestatic 106, 3) := by decide +kernel
theorem dX3_bringBack_5 : decode cX3_bringBack 5 = .ok (.ifCond .ne 13, 3) := by decide +kernel
theorem dX3_bringBack_8 : decode cX3_bringBack 8 = .ok (.new 53, 3) := by decide +kernel
theorem dX3_bringBack_11 : decode cX3_bringBack 11 = .ok (.dup, 1) := by decide +kernel
theorem dX3_bringBack_12 : decode cX3_bringBack 12 = .ok (.ldc 125, 2) := by decide +kernel
theorem dX3_bringBack_14 : decode cX3_bringBack 14 = .ok (.invokespecial 57, 3) := by decide +kernel
theorem dX3_bringBack_17 : decode cX3_bringBack 17 = .ok (.athrow, 1) := by decide +kernel
theorem dX3_bringBack_18 : decode cX3_bringBack 18 = .ok (.iload_n 1, 1) := by decide +kernel
theorem dX3_bringBack_19 : decode cX3_bringBack 19 = .ok (.iload_n 2, 1) := by decide +kernel
theorem dX3_bringBack_20 : decode cX3_bringBack 20 = .ok (.invokestatic 72, 3) := by decide +kernel
theorem dX3_bringBack_23 : decode cX3_bringBack 23 = .ok (.istore_n 3, 1) := by decide +kernel
theorem dX3_bringBack_24 : decode cX3_bringBack 24 = .ok (.aload_n 0, 1) := by decide +kernel
theorem dX3_bringBack_25 : decode cX3_bringBack 25 = .ok (.getfield 10, 3) := by decide +kernel
theorem dX3_bringBack_28 : decode cX3_bringBack 28 = .ok (.iload_n 3, 1) := by decide +kernel
theorem dX3_bringBack_29 : decode cX3_bringBack 29 = .ok (.invokevirtual 144, 3) := by decide +kernel
theorem dX3_bringBack_32 : decode cX3_bringBack 32 = .ok (.ifCond .ne 13, 3) := by decide +kernel
theorem dX3_bringBack_35 : decode cX3_bringBack 35 = .ok (.new 63, 3) := by decide +kernel
theorem dX3_bringBack_38 : decode cX3_bringBack 38 = .ok (.dup, 1) := by decide +kernel
theorem dX3_bringBack_39 : decode cX3_bringBack 39 = .ok (.ldc 147, 2) := by decide +kernel
theorem dX3_bringBack_41 : decode cX3_bringBack 41 = .ok (.invokespecial 67, 3) := by decide +kernel
theorem dX3_bringBack_44 : decode cX3_bringBack 44 = .ok (.athrow, 1) := by decide +kernel
theorem dX3_bringBack_45 : decode cX3_bringBack 45 = .ok (.aload_n 0, 1) := by decide +kernel
theorem dX3_bringBack_46 : decode cX3_bringBack 46 = .ok (.getfield 22, 3) := by decide +kernel
theorem dX3_bringBack_49 : decode cX3_bringBack 49 = .ok (.aload_n 0, 1) := by decide +kernel
theorem dX3_bringBack_50 : decode cX3_bringBack 50 = .ok (.getfield 10, 3) := by decide +kernel
theorem dX3_bringBack_53 : decode cX3_bringBack 53 = .ok (.invokevirtual 68, 3) := by decide +kernel
theorem dX3_bringBack_56 : decode cX3_bringBack 56 = .ok (.aload_n 0, 1) := by decide +kernel
theorem dX3_bringBack_57 : decode cX3_bringBack 57 = .ok (.getfield 10, 3) := by decide +kernel
theorem dX3_bringBack_60 : decode cX3_bringBack 60 = .ok (.iload_n 3, 1) := by decide +kernel
theorem dX3_bringBack_61 : decode cX3_bringBack 61 = .ok (.invokevirtual 149, 3) := by decide +kernel
theorem dX3_bringBack_64 : decode cX3_bringBack 64 = .ok (.aload_n 0, 1) := by decide +kernel
theorem dX3_bringBack_65 : decode cX3_bringBack 65 = .ok (.getfield 10, 3) := by decide +kernel
theorem dX3_bringBack_68 : decode cX3_bringBack 68 = .ok (.iload_n 3, 1) := by decide +kernel
theorem dX3_bringBack_69 : decode cX3_bringBack 69 = .ok (.invokevirtual 141, 3) := by decide +kernel
theorem dX3_bringBack_72 : decode cX3_bringBack 72 = .ok (.ireturn, 1) := by decide +kernel
theorem dX3_sleep_0 : decode cX3_sleep 0 = .ok (.iload_n 1, 1) := by decide +kernel
theorem dX3_sleep_1 : decode cX3_sleep 1 = .ok (.invokestatic 152, 3) := by decide +kernel
theorem dX3_sleep_4 : decode cX3_sleep 4 = .ok (.ifCond .ne 13, 3) := by decide +kernel
theorem dX3_sleep_7 : decode cX3_sleep 7 = .ok (.new 127, 3) := by decide +kernel
theorem dX3_sleep_10 : decode cX3_sleep 10 = .ok (.dup, 1) := by decide +kernel
theorem dX3_sleep_11 : decode cX3_sleep 11 = .ok (.ldc 155, 2) := by decide +kernel
theorem dX3_sleep_13 : decode cX3_sleep 13 = .ok (.invokespecial 131, 3) := by decide +kernel
theorem dX3_sleep_16 : decode cX3_sleep 16 = .ok (.athrow, 1) := by decide +kernel
theorem dX3_sleep_17 : decode cX3_sleep 17 = .ok (.aload_n 0, 1) := by decide +kernel
theorem dX3_sleep_18 : decode cX3_sleep 18 = .ok (.getfield 10, 3) := by decide +kernel
theorem dX3_sleep_21 : decode cX3_sleep 21 = .ok (.getfield 157, 3) := by decide +kernel
theorem dX3_sleep_24 : decode cX3_sleep 24 = .ok (.iload_n 1, 1) := by decide +kernel
theorem dX3_sleep_25 : decode cX3_sleep 25 = .ok (.iadd, 1) := by decide +kernel
theorem dX3_sleep_26 : decode cX3_sleep 26 = .ok (.sipush 9999, 3) := by decide +kernel
theorem dX3_sleep_29 : decode cX3_sleep 29 = .ok (.if_icmp .le 13, 3) := by decide +kernel
theorem dX3_sleep_32 : decode cX3_sleep 32 = .ok (.new 63, 3) := by decide +kernel
theorem dX3_sleep_35 : decode cX3_sleep 35 = .ok (.dup, 1) := by decide +kernel
theorem dX3_sleep_36 : decode cX3_sleep 36 = .ok (.ldc 160, 2) := by decide +kernel
theorem dX3_sleep_38 : decode cX3_sleep 38 = .ok (.invokespecial 67, 3) := by decide +kernel
theorem dX3_sleep_41 : decode cX3_sleep 41 = .ok (.athrow, 1) := by decide +kernel
theorem dX3_sleep_42 : decode cX3_sleep 42 = .ok (.aload_n 0, 1) := by decide +kernel
theorem dX3_sleep_43 : decode cX3_sleep 43 = .ok (.getfield 22, 3) := by decide +kernel
theorem dX3_sleep_46 : decode cX3_sleep 46 = .ok (.aload_n 0, 1) := by decide +kernel
theorem dX3_sleep_47 : decode cX3_sleep 47 = .ok (.getfield 10, 3) := by decide +kernel
theorem dX3_sleep_50 : decode cX3_sleep 50 = .ok (.invokevirtual 68, 3) := by decide +kernel
theorem dX3_sleep_53 : decode cX3_sleep 53 = .ok (.aload_n 0, 1) := by decide +kernel
theorem dX3_sleep_54 : decode cX3_sleep 54 = .ok (.getfield 10, 3) := by decide +kernel
theorem dX3_sleep_57 : decode cX3_sleep 57 = .ok (.iload_n 1, 1) := by decide +kernel
theorem dX3_sleep_58 : decode cX3_sleep 58 = .ok (.invokevirtual 162, 3) := by decide +kernel
theorem dX3_sleep_61 : decode cX3_sleep 61 = .ok (.ireturn, 1) := by decide +kernel
theorem dX3_set_0 : decode cX3_set 0 = .ok (.iload_n 1, 1) := by decide +kernel
theorem dX3_set_1 : decode cX3_set 1 = .ok (.invokestatic 165, 3) := by decide +kernel
theorem dX3_set_4 : decode cX3_set 4 = .ok (.ifCond .ne 13, 3) := by decide +kernel
theorem dX3_set_7 : decode cX3_set 7 = .ok (.new 53, 3) := by decide +kernel
theorem dX3_set_10 : decode cX3_set 10 = .ok (.dup, 1) := by decide +kernel
theorem dX3_set_11 : decode cX3_set 11 = .ok (.ldc 168, 2) := by decide +kernel
theorem dX3_set_13 : decode cX3_set 13 = .ok (.invokespecial 57, 3) := by decide +kernel
theorem dX3_set_16 : decode cX3_set 16 = .ok (.athrow, 1) := by decide +kernel
theorem dX3_set_17 : decode cX3_set 17 = .ok (.iload_n 2, 1) := by decide +kernel
theorem dX3_set_18 : decode cX3_set 18 = .ok (.ifCond .lt 11, 3) := by decide +kernel
theorem dX3_set_21 : decode cX3_set 21 = .ok (.iload_n 2, 1) := by decide +kernel
theorem dX3_set_22 : decode cX3_set 22 = .ok (.iload_n 1, 1) := by decide +kernel
theorem dX3_set_23 : decode cX3_set 23 = .ok (.invokestatic 170, 3) := by decide +kernel
theorem dX3_set_26 : decode cX3_set 26 = .ok (.if_icmp .le 13, 3) := by decide +kernel
theorem dX3_set_29 : decode cX3_set 29 = .ok (.new 127, 3) := by decide +kernel
theorem dX3_set_32 : decode cX3_set 32 = .ok (.dup, 1) := by decide +kernel
theorem dX3_set_33 : decode cX3_set 33 = .ok (.ldc 173, 2) := by decide +kernel
theorem dX3_set_35 : decode cX3_set 35 = .ok (.invokespecial 131, 3) := by decide +kernel
theorem dX3_set_38 : decode cX3_set 38 = .ok (.athrow, 1) := by decide +kernel
theorem dX3_set_39 : decode cX3_set 39 = .ok (.aload_n 0, 1) := by decide +kernel
theorem dX3_set_40 : decode cX3_set 40 = .ok (.getfield 22, 3) := by decide +kernel
theorem dX3_set_43 : decode cX3_set 43 = .ok (.aload_n 0, 1) := by decide +kernel
theorem dX3_set_44 : decode cX3_set 44 = .ok (.getfield 10, 3) := by decide +kernel
theorem dX3_set_47 : decode cX3_set 47 = .ok (.invokevirtual 68, 3) := by decide +kernel
theorem dX3_set_50 : decode cX3_set 50 = .ok (.aload_n 0, 1) := by decide +kernel
theorem dX3_set_51 : decode cX3_set 51 = .ok (.getfield 10, 3) := by decide +kernel
theorem dX3_set_54 : decode cX3_set 54 = .ok (.iload_n 1, 1) := by decide +kernel
theorem dX3_set_55 : decode cX3_set 55 = .ok (.invokevirtual 175, 3) := by decide +kernel
theorem dX3_set_58 : decode cX3_set 58 = .ok (.istore_n 3, 1) := by decide +kernel
theorem dX3_set_59 : decode cX3_set 59 = .ok (.aload_n 0, 1) := by decide +kernel
theorem dX3_set_60 : decode cX3_set 60 = .ok (.getfield 10, 3) := by decide +kernel
theorem dX3_set_63 : decode cX3_set 63 = .ok (.iload_n 1, 1) := by decide +kernel
theorem dX3_set_64 : decode cX3_set 64 = .ok (.iload_n 2, 1) := by decide +kernel
theorem dX3_set_65 : decode cX3_set 65 = .ok (.invokevirtual 178, 3) := by decide +kernel
theorem dX3_set_68 : decode cX3_set 68 = .ok (.iload_n 3, 1) := by decide +kernel
theorem dX3_set_69 : decode cX3_set 69 = .ok (.ireturn, 1) := by decide +kernel
theorem dX3_append_0 : decode cX3_append 0 = .ok (.iload_n 1, 1) := by decide +kernel
theorem dX3_append_1 : decode cX3_append 1 = .ok (.bipush 33, 2) := by decide +kernel
theorem dX3_append_3 : decode cX3_append 3 = .ok (.if_icmp .lt 9, 3) := by decide +kernel
theorem dX3_append_6 : decode cX3_append 6 = .ok (.iload_n 1, 1) := by decide +kernel
theorem dX3_append_7 : decode cX3_append 7 = .ok (.bipush 126, 2) := by decide +kernel
theorem dX3_append_9 : decode cX3_append 9 = .ok (.if_icmp .le 13, 3) := by decide +kernel
theorem dX3_append_12 : decode cX3_append 12 = .ok (.new 127, 3) := by decide +kernel
theorem dX3_append_15 : decode cX3_append 15 = .ok (.dup, 1) := by decide +kernel
theorem dX3_append_16 : decode cX3_append 16 = .ok (.ldc 181, 2) := by decide +kernel
theorem dX3_append_18 : decode cX3_append 18 = .ok (.invokespecial 131, 3) := by decide +kernel
theorem dX3_append_21 : decode cX3_append 21 = .ok (.athrow, 1) := by decide +kernel
theorem dX3_append_22 : decode cX3_append 22 = .ok (.aload_n 0, 1) := by decide +kernel
theorem dX3_append_23 : decode cX3_append 23 = .ok (.getfield 183, 3) := by decide +kernel
theorem dX3_append_26 : decode cX3_append 26 = .ok (.bipush 60, 2) := by decide +kernel
theorem dX3_append_28 : decode cX3_append 28 = .ok (.if_icmp .lt 13, 3) := by decide +kernel
theorem dX3_append_31 : decode cX3_append 31 = .ok (.new 63, 3) := by decide +kernel
theorem dX3_append_34 : decode cX3_append 34 = .ok (.dup, 1) := by decide +kernel
theorem dX3_append_35 : decode cX3_append 35 = .ok (.ldc 186, 2) := by decide +kernel
theorem dX3_append_37 : decode cX3_append 37 = .ok (.invokespecial 67, 3) := by decide +kernel
theorem dX3_append_40 : decode cX3_append 40 = .ok (.athrow, 1) := by decide +kernel
theorem dX3_append_41 : decode cX3_append 41 = .ok (.aload_n 0, 1) := by decide +kernel
theorem dX3_append_42 : decode cX3_append 42 = .ok (.iload_n 1, 1) := by decide +kernel
theorem dX3_append_43 : decode cX3_append 43 = .ok (.invokevirtual 188, 3) := by decide +kernel
theorem dX3_append_46 : decode cX3_append 46 = .ok (.aload_n 0, 1) := by decide +kernel
theorem dX3_append_47 : decode cX3_append 47 = .ok (.getfield 183, 3) := by decide +kernel
theorem dX3_append_50 : decode cX3_append 50 = .ok (.ireturn, 1) := by decide +kernel
theorem dX3_clearBuffer_0 : decode cX3_clearBuffer 0 = .ok (.aload_n 0, 1) := by decide +kernel
theorem dX3_clearBuffer_1 : decode cX3_clearBuffer 1 = .ok (.getfield 183, 3) := by decide +kernel
theorem dX3_clearBuffer_4 : decode cX3_clearBuffer 4 = .ok (.istore_n 1, 1) := by decide +kernel
theorem dX3_clearBuffer_5 : decode cX3_clearBuffer 5 = .ok (.aload_n 0, 1) := by decide +kernel
theorem dX3_clearBuffer_6 : decode cX3_clearBuffer 6 = .ok (.iconst 0, 1) := by decide +kernel
theorem dX3_clearBuffer_7 : decode cX3_clearBuffer 7 = .ok (.putfield 183, 3) := by decide +kernel
theorem dX3_clearBuffer_10 : decode cX3_clearBuffer 10 = .ok (.iload_n 1, 1) := by decide +kernel
theorem dX3_clearBuffer_11 : decode cX3_clearBuffer 11 = .ok (.ireturn, 1) := by decide +kernel
theorem dX3_firstError_0 : decode cX3_firstError 0 = .ok (.aload_n 0, 1) := by decide +kernel
theorem dX3_firstError_1 : decode cX3_firstError 1 = .ok (.invokevirtual 191, 3) := by decide +kernel
theorem dX3_firstError_4 : decode cX3_firstError 4 = .ok (.ireturn, 1) := by decide +kernel
theorem dX3_load_0 : decode cX3_load 0 = .ok (.iload_n 1, 1) := by decide +kernel
theorem dX3_load_1 : decode cX3_load 1 = .ok (.invokestatic 117, 3) := by decide +kernel
theorem dX3_load_4 : decode cX3_load 4 = .ok (.ifCond .ne 13, 3) := by decide +kernel
theorem dX3_load_7 : decode cX3_load 7 = .ok (.new 53, 3) := by decide +kernel
theorem dX3_load_10 : decode cX3_load 10 = .ok (.dup, 1) := by decide +kernel
theorem dX3_load_11 : decode cX3_load 11 = .ok (.ldc 120, 2) := by decide +kernel
theorem dX3_load_13 : decode cX3_load 13 = .ok (.invokespecial 57, 3) := by decide +kernel
theorem dX3_load_16 : decode cX3_load 16 = .ok (.athrow, 1) := by decide +kernel
theorem dX3_load_17 : decode cX3_load 17 = .ok (.aload_n 0, 1) := by decide +kernel
theorem dX3_load_18 : decode cX3_load 18 = .ok (.invokevirtual 191, 3) := by decide +kernel
theorem dX3_load_21 : decode cX3_load 21 = .ok (.aload_n 0, 1) := by decide +kernel
theorem dX3_load_22 : decode cX3_load 22 = .ok (.getfield 183, 3) := by decide +kernel
theorem dX3_load_25 : decode cX3_load 25 = .ok (.if_icmp .lt 13, 3) := by decide +kernel
theorem dX3_load_28 : decode cX3_load 28 = .ok (.aload_n 0, 1) := by decide +kernel
theorem dX3_load_29 : decode cX3_load 29 = .ok (.getfield 41, 3) := by decide +kernel
theorem dX3_load_32 : decode cX3_load 32 = .ok (.invokevirtual 195, 3) := by decide +kernel
theorem dX3_load_35 : decode cX3_load 35 = .ok (.ifCond .ne 13, 3) := by decide +kernel
theorem dX3_load_38 : decode cX3_load 38 = .ok (.new 127, 3) := by decide +kernel
theorem dX3_load_41 : decode cX3_load 41 = .ok (.dup, 1) := by decide +kernel
theorem dX3_load_42 : decode cX3_load 42 = .ok (.ldc 199, 2) := by decide +kernel
theorem dX3_load_44 : decode cX3_load 44 = .ok (.invokespecial 131, 3) := by decide +kernel
theorem dX3_load_47 : decode cX3_load 47 = .ok (.athrow, 1) := by decide +kernel
theorem dX3_load_48 : decode cX3_load 48 = .ok (.aload_n 0, 1) := by decide +kernel
theorem dX3_load_49 : decode cX3_load 49 = .ok (.getfield 22, 3) := by decide +kernel
theorem dX3_load_52 : decode cX3_load 52 = .ok (.aload_n 0, 1) := by decide +kernel
theorem dX3_load_53 : decode cX3_load 53 = .ok (.getfield 10, 3) := by decide +kernel
theorem dX3_load_56 : decode cX3_load 56 = .ok (.invokevirtual 68, 3) := by decide +kernel
theorem dX3_load_59 : decode cX3_load 59 = .ok (.aload_n 0, 1) := by decide +kernel
theorem dX3_load_60 : decode cX3_load 60 = .ok (.iconst 0, 1) := by decide +kernel
theorem dX3_load_61 : decode cX3_load 61 = .ok (.putfield 183, 3) := by decide +kernel
theorem dX3_load_64 : decode cX3_load 64 = .ok (.aload_n 0, 1) := by decide +kernel
theorem dX3_load_65 : decode cX3_load 65 = .ok (.getfield 10, 3) := by decide +kernel
theorem dX3_load_68 : decode cX3_load 68 = .ok (.iload_n 1, 1) := by decide +kernel
theorem dX3_load_69 : decode cX3_load 69 = .ok (.invokevirtual 122, 3) := by decide +kernel
theorem dX3_load_72 : decode cX3_load 72 = .ok (.pop, 1) := by decide +kernel
theorem dX3_load_73 : decode cX3_load 73 = .ok (.aload_n 0, 1) := by decide +kernel
theorem dX3_load_74 : decode cX3_load 74 = .ok (.iload_n 1, 1) := by decide +kernel
theorem dX3_load_75 : decode cX3_load 75 = .ok (.invokevirtual 201, 3) := by decide +kernel
theorem dX3_load_78 : decode cX3_load 78 = .ok (.ireturn, 1) := by decide +kernel
theorem dX3_write_0 : decode cX3_write 0 = .ok (.iload_n 1, 1) := by decide +kernel
theorem dX3_write_1 : decode cX3_write 1 = .ok (.invokestatic 117, 3) := by decide +kernel
theorem dX3_write_4 : decode cX3_write 4 = .ok (.ifCond .ne 13, 3) := by decide +kernel
theorem dX3_write_7 : decode cX3_write 7 = .ok (.new 53, 3) := by decide +kernel
theorem dX3_write_10 : decode cX3_write 10 = .ok (.dup, 1) := by decide +kernel
theorem dX3_write_11 : decode cX3_write 11 = .ok (.ldc 120, 2) := by decide +kernel
theorem dX3_write_13 : decode cX3_write 13 = .ok (.invokespecial 57, 3) := by decide +kernel
theorem dX3_write_16 : decode cX3_write 16 = .ok (.athrow, 1) := by decide +kernel
theorem dX3_write_17 : decode cX3_write 17 = .ok (.aload_n 0, 1) := by decide +kernel
theorem dX3_write_18 : decode cX3_write 18 = .ok (.iload_n 1, 1) := by decide +kernel
theorem dX3_write_19 : decode cX3_write 19 = .ok (.invokevirtual 204, 3) := by decide +kernel
theorem dX3_write_22 : decode cX3_write 22 = .ok (.bipush 60, 2) := by decide +kernel
theorem dX3_write_24 : decode cX3_write 24 = .ok (.if_icmp .le 5, 3) := by decide +kernel
theorem dX3_write_27 : decode cX3_write 27 = .ok (.iconst (-1), 1) := by decide +kernel
theorem dX3_write_28 : decode cX3_write 28 = .ok (.ireturn, 1) := by decide +kernel
theorem dX3_write_29 : decode cX3_write 29 = .ok (.aload_n 0, 1) := by decide +kernel
theorem dX3_write_30 : decode cX3_write 30 = .ok (.iconst 0, 1) := by decide +kernel
theorem dX3_write_31 : decode cX3_write 31 = .ok (.putfield 183, 3) := by decide +kernel
theorem dX3_write_34 : decode cX3_write 34 = .ok (.iconst 0, 1) := by decide +kernel
theorem dX3_write_35 : decode cX3_write 35 = .ok (.istore_n 2, 1) := by decide +kernel
theorem dX3_write_36 : decode cX3_write 36 = .ok (.iload_n 2, 1) := by decide +kernel
theorem dX3_write_37 : decode cX3_write 37 = .ok (.iconst 4, 1) := by decide +kernel
theorem dX3_write_38 : decode cX3_write 38 = .ok (.if_icmp .ge 18, 3) := by decide +kernel
theorem dX3_write_41 : decode cX3_write 41 = .ok (.aload_n 0, 1) := by decide +kernel
theorem dX3_write_42 : decode cX3_write 42 = .ok (.iload_n 1, 1) := by decide +kernel
theorem dX3_write_43 : decode cX3_write 43 = .ok (.iload_n 2, 1) := by decide +kernel
theorem dX3_write_44 : decode cX3_write 44 = .ok (.invokestatic 72, 3) := by decide +kernel
theorem dX3_write_47 : decode cX3_write 47 = .ok (.invokevirtual 207, 3) := by decide +kernel
theorem dX3_write_50 : decode cX3_write 50 = .ok (.iinc 2 1, 3) := by decide +kernel
theorem dX3_write_53 : decode cX3_write 53 = .ok (.goto (-17), 3) := by decide +kernel
theorem dX3_write_56 : decode cX3_write 56 = .ok (.aload_n 0, 1) := by decide +kernel
theorem dX3_write_57 : decode cX3_write 57 = .ok (.getfield 183, 3) := by decide +kernel
theorem dX3_write_60 : decode cX3_write 60 = .ok (.ireturn, 1) := by decide +kernel
theorem dX3_keep_0 : decode cX3_keep 0 = .ok (.iload_n 1, 1) := by decide +kernel
theorem dX3_keep_1 : decode cX3_keep 1 = .ok (.invokestatic 210, 3) := by decide +kernel
theorem dX3_keep_4 : decode cX3_keep 4 = .ok (.ifCond .ne 13, 3) := by decide +kernel
theorem dX3_keep_7 : decode cX3_keep 7 = .ok (.new 127, 3) := by decide +kernel
theorem dX3_keep_10 : decode cX3_keep 10 = .ok (.dup, 1) := by decide +kernel
theorem dX3_keep_11 : decode cX3_keep 11 = .ok (.ldc 213, 2) := by decide +kernel
theorem dX3_keep_13 : decode cX3_keep 13 = .ok (.invokespecial 131, 3) := by decide +kernel
theorem dX3_keep_16 : decode cX3_keep 16 = .ok (.athrow, 1) := by decide +kernel
theorem dX3_keep_17 : decode cX3_keep 17 = .ok (.aload_n 0, 1) := by decide +kernel
theorem dX3_keep_18 : decode cX3_keep 18 = .ok (.getfield 26, 3) := by decide +kernel
theorem dX3_keep_21 : decode cX3_keep 21 = .ok (.iload_n 1, 1) := by decide +kernel
theorem dX3_keep_22 : decode cX3_keep 22 = .ok (.aaload, 1) := by decide +kernel
theorem dX3_keep_23 : decode cX3_keep 23 = .ok (.astore_n 2, 1) := by decide +kernel
theorem dX3_keep_24 : decode cX3_keep 24 = .ok (.aload_n 2, 1) := by decide +kernel
theorem dX3_keep_25 : decode cX3_keep 25 = .ok (.ifnull 18, 3) := by decide +kernel
theorem dX3_keep_28 : decode cX3_keep 28 = .ok (.aload_n 2, 1) := by decide +kernel
theorem dX3_keep_29 : decode cX3_keep 29 = .ok (.aload_n 0, 1) := by decide +kernel
theorem dX3_keep_30 : decode cX3_keep 30 = .ok (.getfield 10, 3) := by decide +kernel
theorem dX3_keep_33 : decode cX3_keep 33 = .ok (.invokevirtual 215, 3) := by decide +kernel
theorem dX3_keep_36 : decode cX3_keep 36 = .ok (.aload_n 0, 1) := by decide +kernel
theorem dX3_keep_37 : decode cX3_keep 37 = .ok (.getfield 30, 3) := by decide +kernel
theorem dX3_keep_40 : decode cX3_keep 40 = .ok (.iload_n 1, 1) := by decide +kernel
theorem dX3_keep_41 : decode cX3_keep 41 = .ok (.iconst 1, 1) := by decide +kernel
theorem dX3_keep_42 : decode cX3_keep 42 = .ok (.bastore, 1) := by decide +kernel
theorem dX3_keep_43 : decode cX3_keep 43 = .ok (.aload_n 0, 1) := by decide +kernel
theorem dX3_keep_44 : decode cX3_keep 44 = .ok (.getfield 10, 3) := by decide +kernel
theorem dX3_keep_47 : decode cX3_keep 47 = .ok (.invokevirtual 218, 3) := by decide +kernel
theorem dX3_keep_50 : decode cX3_keep 50 = .ok (.ireturn, 1) := by decide +kernel
theorem dX3_goBack_0 : decode cX3_goBack 0 = .ok (.iload_n 1, 1) := by decide +kernel
theorem dX3_goBack_1 : decode cX3_goBack 1 = .ok (.invokestatic 210, 3) := by decide +kernel
theorem dX3_goBack_4 : decode cX3_goBack 4 = .ok (.ifCond .ne 13, 3) := by decide +kernel
theorem dX3_goBack_7 : decode cX3_goBack 7 = .ok (.new 127, 3) := by decide +kernel
theorem dX3_goBack_10 : decode cX3_goBack 10 = .ok (.dup, 1) := by decide +kernel
theorem dX3_goBack_11 : decode cX3_goBack 11 = .ok (.ldc 213, 2) := by decide +kernel
theorem dX3_goBack_13 : decode cX3_goBack 13 = .ok (.invokespecial 131, 3) := by decide +kernel
theorem dX3_goBack_16 : decode cX3_goBack 16 = .ok (.athrow, 1) := by decide +kernel
theorem dX3_goBack_17 : decode cX3_goBack 17 = .ok (.aload_n 0, 1) := by decide +kernel
theorem dX3_goBack_18 : decode cX3_goBack 18 = .ok (.getfield 26, 3) := by decide +kernel
theorem dX3_goBack_21 : decode cX3_goBack 21 = .ok (.iload_n 1, 1) := by decide +kernel
theorem dX3_goBack_22 : decode cX3_goBack 22 = .ok (.aaload, 1) := by decide +kernel
theorem dX3_goBack_23 : decode cX3_goBack 23 = .ok (.astore_n 2, 1) := by decide +kernel
theorem dX3_goBack_24 : decode cX3_goBack 24 = .ok (.aload_n 2, 1) := by decide +kernel
theorem dX3_goBack_25 : decode cX3_goBack 25 = .ok (.ifnull 12, 3) := by decide +kernel
theorem dX3_goBack_28 : decode cX3_goBack 28 = .ok (.aload_n 0, 1) := by decide +kernel
theorem dX3_goBack_29 : decode cX3_goBack 29 = .ok (.getfield 30, 3) := by decide +kernel
theorem dX3_goBack_32 : decode cX3_goBack 32 = .ok (.iload_n 1, 1) := by decide +kernel
theorem dX3_goBack_33 : decode cX3_goBack 33 = .ok (.baload, 1) := by decide +kernel
theorem dX3_goBack_34 : decode cX3_goBack 34 = .ok (.ifCond .ne 13, 3) := by decide +kernel
theorem dX3_goBack_37 : decode cX3_goBack 37 = .ok (.new 63, 3) := by decide +kernel
theorem dX3_goBack_40 : decode cX3_goBack 40 = .ok (.dup, 1) := by decide +kernel
theorem dX3_goBack_41 : decode cX3_goBack 41 = .ok (.ldc 221, 2) := by decide +kernel
theorem dX3_goBack_43 : decode cX3_goBack 43 = .ok (.invokespecial 67, 3) := by decide +kernel
theorem dX3_goBack_46 : decode cX3_goBack 46 = .ok (.athrow, 1) := by decide +kernel
theorem dX3_goBack_47 : decode cX3_goBack 47 = .ok (.aload_n 0, 1) := by decide +kernel
theorem dX3_goBack_48 : decode cX3_goBack 48 = .ok (.getfield 22, 3) := by decide +kernel
theorem dX3_goBack_51 : decode cX3_goBack 51 = .ok (.aload_n 0, 1) := by decide +kernel
theorem dX3_goBack_52 : decode cX3_goBack 52 = .ok (.getfield 10, 3) := by decide +kernel
theorem dX3_goBack_55 : decode cX3_goBack 55 = .ok (.invokevirtual 68, 3) := by decide +kernel
theorem dX3_goBack_58 : decode cX3_goBack 58 = .ok (.aload_n 0, 1) := by decide +kernel
theorem dX3_goBack_59 : decode cX3_goBack 59 = .ok (.getfield 10, 3) := by decide +kernel
theorem dX3_goBack_62 : decode cX3_goBack 62 = .ok (.aload_n 2, 1) := by decide +kernel
theorem dX3_goBack_63 : decode cX3_goBack 63 = .ok (.invokevirtual 215, 3) := by decide +kernel
theorem dX3_goBack_66 : decode cX3_goBack 66 = .ok (.aload_n 0, 1) := by decide +kernel
theorem dX3_goBack_67 : decode cX3_goBack 67 = .ok (.getfield 10, 3) := by decide +kernel
theorem dX3_goBack_70 : decode cX3_goBack 70 = .ok (.invokevirtual 218, 3) := by decide +kernel
theorem dX3_goBack_73 : decode cX3_goBack 73 = .ok (.ireturn, 1) := by decide +kernel
theorem dX3_undo_0 : decode cX3_undo 0 = .ok (.aload_n 0, 1) := by decide +kernel
theorem dX3_undo_1 : decode cX3_undo 1 = .ok (.getfield 22, 3) := by decide +kernel
theorem dX3_undo_4 : decode cX3_undo 4 = .ok (.getfield 223, 3) := by decide +kernel
theorem dX3_undo_7 : decode cX3_undo 7 = .ok (.iconst 1, 1) := by decide +kernel
theorem dX3_undo_8 : decode cX3_undo 8 = .ok (.if_icmp .ge 13, 3) := by decide +kernel
theorem dX3_undo_11 : decode cX3_undo 11 = .ok (.new 63, 3) := by decide +kernel
theorem dX3_undo_14 : decode cX3_undo 14 = .ok (.dup, 1) := by decide +kernel
theorem dX3_undo_15 : decode cX3_undo 15 = .ok (.ldc 226, 2) := by decide +kernel
theorem dX3_undo_17 : decode cX3_undo 17 = .ok (.invokespecial 67, 3) := by decide +kernel
theorem dX3_undo_20 : decode cX3_undo 20 = .ok (.athrow, 1) := by decide +kernel
theorem dX3_undo_21 : decode cX3_undo 21 = .ok (.aload_n 0, 1) := by decide +kernel
theorem dX3_undo_22 : decode cX3_undo 22 = .ok (.getfield 22, 3) := by decide +kernel
theorem dX3_undo_25 : decode cX3_undo 25 = .ok (.aload_n 0, 1) := by decide +kernel
theorem dX3_undo_26 : decode cX3_undo 26 = .ok (.getfield 10, 3) := by decide +kernel
theorem dX3_undo_29 : decode cX3_undo 29 = .ok (.invokevirtual 228, 3) := by decide +kernel
theorem dX3_undo_32 : decode cX3_undo 32 = .ok (.aload_n 0, 1) := by decide +kernel
theorem dX3_undo_33 : decode cX3_undo 33 = .ok (.getfield 22, 3) := by decide +kernel
theorem dX3_undo_36 : decode cX3_undo 36 = .ok (.getfield 223, 3) := by decide +kernel
theorem dX3_undo_39 : decode cX3_undo 39 = .ok (.ireturn, 1) := by decide +kernel
theorem dX3_wordOf_0 : decode cX3_wordOf 0 = .ok (.iload_n 1, 1) := by decide +kernel
theorem dX3_wordOf_1 : decode cX3_wordOf 1 = .ok (.invokestatic 45, 3) := by decide +kernel
theorem dX3_wordOf_4 : decode cX3_wordOf 4 = .ok (.ifCond .ne 13, 3) := by decide +kernel
theorem dX3_wordOf_7 : decode cX3_wordOf 7 = .ok (.new 53, 3) := by decide +kernel
theorem dX3_wordOf_10 : decode cX3_wordOf 10 = .ok (.dup, 1) := by decide +kernel
theorem dX3_wordOf_11 : decode cX3_wordOf 11 = .ok (.ldc 91, 2) := by decide +kernel
theorem dX3_wordOf_13 : decode cX3_wordOf 13 = .ok (.invokespecial 57, 3) := by decide +kernel
theorem dX3_wordOf_16 : decode cX3_wordOf 16 = .ok (.athrow, 1) := by decide +kernel
theorem dX3_wordOf_17 : decode cX3_wordOf 17 = .ok (.iload_n 2, 1) := by decide +kernel
theorem dX3_wordOf_18 : decode cX3_wordOf 18 = .ok (.ifCond .lt 9, 3) := by decide +kernel
theorem dX3_wordOf_21 : decode cX3_wordOf 21 = .ok (.iload_n 2, 1) := by decide +kernel
theorem dX3_wordOf_22 : decode cX3_wordOf 22 = .ok (.bipush 7, 2) := by decide +kernel
theorem dX3_wordOf_24 : decode cX3_wordOf 24 = .ok (.if_icmp .lt 13, 3) := by decide +kernel
theorem dX3_wordOf_27 : decode cX3_wordOf 27 = .ok (.new 127, 3) := by decide +kernel
theorem dX3_wordOf_30 : decode cX3_wordOf 30 = .ok (.dup, 1) := by decide +kernel
theorem dX3_wordOf_31 : decode cX3_wordOf 31 = .ok (.ldc 231, 2) := by decide +kernel
theorem dX3_wordOf_33 : decode cX3_wordOf 33 = .ok (.invokespecial 131, 3) := by decide +kernel
theorem dX3_wordOf_36 : decode cX3_wordOf 36 = .ok (.athrow, 1) := by decide +kernel
theorem dX3_wordOf_37 : decode cX3_wordOf 37 = .ok (.aload_n 0, 1) := by decide +kernel
theorem dX3_wordOf_38 : decode cX3_wordOf 38 = .ok (.getfield 10, 3) := by decide +kernel
theorem dX3_wordOf_41 : decode cX3_wordOf 41 = .ok (.iload_n 1, 1) := by decide +kernel
theorem dX3_wordOf_42 : decode cX3_wordOf 42 = .ok (.iload_n 2, 1) := by decide +kernel
theorem dX3_wordOf_43 : decode cX3_wordOf 43 = .ok (.invokevirtual 233, 3) := by decide +kernel
theorem dX3_wordOf_46 : decode cX3_wordOf 46 = .ok (.ireturn, 1) := by decide +kernel
theorem dX3_at_0 : decode cX3_at 0 = .ok (.iload_n 1, 1) := by decide +kernel
theorem dX3_at_1 : decode cX3_at 1 = .ok (.iload_n 2, 1) := by decide +kernel
theorem dX3_at_2 : decode cX3_at 2 = .ok (.invokestatic 106, 3) := by decide +kernel
theorem dX3_at_5 : decode cX3_at 5 = .ok (.ifCond .eq 13, 3) := by decide +kernel
theorem dX3_at_8 : decode cX3_at 8 = .ok (.iload_n 3, 1) := by decide +kernel
theorem dX3_at_9 : decode cX3_at 9 = .ok (.ifCond .lt 9, 3) := by decide +kernel
theorem dX3_at_12 : decode cX3_at 12 = .ok (.iload_n 3, 1) := by decide +kernel
theorem dX3_at_13 : decode cX3_at 13 = .ok (.bipush 6, 2) := by decide +kernel
theorem dX3_at_15 : decode cX3_at 15 = .ok (.if_icmp .lt 13, 3) := by decide +kernel
theorem dX3_at_18 : decode cX3_at 18 = .ok (.new 53, 3) := by decide +kernel
theorem dX3_at_21 : decode cX3_at 21 = .ok (.dup, 1) := by decide +kernel
theorem dX3_at_22 : decode cX3_at 22 = .ok (.ldc 236, 2) := by decide +kernel
theorem dX3_at_24 : decode cX3_at 24 = .ok (.invokespecial 57, 3) := by decide +kernel
theorem dX3_at_27 : decode cX3_at 27 = .ok (.athrow, 1) := by decide +kernel
theorem dX3_at_28 : decode cX3_at 28 = .ok (.aload_n 0, 1) := by decide +kernel
theorem dX3_at_29 : decode cX3_at 29 = .ok (.getfield 10, 3) := by decide +kernel
theorem dX3_at_32 : decode cX3_at 32 = .ok (.iload_n 1, 1) := by decide +kernel
theorem dX3_at_33 : decode cX3_at 33 = .ok (.iload_n 2, 1) := by decide +kernel
theorem dX3_at_34 : decode cX3_at 34 = .ok (.invokestatic 72, 3) := by decide +kernel
theorem dX3_at_37 : decode cX3_at 37 = .ok (.iload_n 3, 1) := by decide +kernel
theorem dX3_at_38 : decode cX3_at 38 = .ok (.invokevirtual 238, 3) := by decide +kernel
theorem dX3_at_41 : decode cX3_at 41 = .ok (.ireturn, 1) := by decide +kernel
theorem dX3_lineOf_0 : decode cX3_lineOf 0 = .ok (.iload_n 1, 1) := by decide +kernel
theorem dX3_lineOf_1 : decode cX3_lineOf 1 = .ok (.iload_n 2, 1) := by decide +kernel
theorem dX3_lineOf_2 : decode cX3_lineOf 2 = .ok (.invokestatic 106, 3) := by decide +kernel
theorem dX3_lineOf_5 : decode cX3_lineOf 5 = .ok (.ifCond .ne 13, 3) := by decide +kernel
theorem dX3_lineOf_8 : decode cX3_lineOf 8 = .ok (.new 53, 3) := by decide +kernel
theorem dX3_lineOf_11 : decode cX3_lineOf 11 = .ok (.dup, 1) := by decide +kernel
theorem dX3_lineOf_12 : decode cX3_lineOf 12 = .ok (.ldc 125, 2) := by decide +kernel
theorem dX3_lineOf_14 : decode cX3_lineOf 14 = .ok (.invokespecial 57, 3) := by decide +kernel
theorem dX3_lineOf_17 : decode cX3_lineOf 17 = .ok (.athrow, 1) := by decide +kernel
theorem dX3_lineOf_18 : decode cX3_lineOf 18 = .ok (.iload_n 3, 1) := by decide +kernel
theorem dX3_lineOf_19 : decode cX3_lineOf 19 = .ok (.ifCond .lt 9, 3) := by decide +kernel
theorem dX3_lineOf_22 : decode cX3_lineOf 22 = .ok (.iload_n 3, 1) := by decide +kernel
theorem dX3_lineOf_23 : decode cX3_lineOf 23 = .ok (.bipush 8, 2) := by decide +kernel
theorem dX3_lineOf_25 : decode cX3_lineOf 25 = .ok (.if_icmp .lt 13, 3) := by decide +kernel
theorem dX3_lineOf_28 : decode cX3_lineOf 28 = .ok (.new 127, 3) := by decide +kernel
theorem dX3_lineOf_31 : decode cX3_lineOf 31 = .ok (.dup, 1) := by decide +kernel
theorem dX3_lineOf_32 : decode cX3_lineOf 32 = .ok (.ldc 241, 2) := by decide +kernel
theorem dX3_lineOf_34 : decode cX3_lineOf 34 = .ok (.invokespecial 131, 3) := by decide +kernel
theorem dX3_lineOf_37 : decode cX3_lineOf 37 = .ok (.athrow, 1) := by decide +kernel
theorem dX3_lineOf_38 : decode cX3_lineOf 38 = .ok (.aload_n 0, 1) := by decide +kernel
theorem dX3_lineOf_39 : decode cX3_lineOf 39 = .ok (.getfield 10, 3) := by decide +kernel
theorem dX3_lineOf_42 : decode cX3_lineOf 42 = .ok (.iload_n 1, 1) := by decide +kernel
theorem dX3_lineOf_43 : decode cX3_lineOf 43 = .ok (.iload_n 2, 1) := by decide +kernel
theorem dX3_lineOf_44 : decode cX3_lineOf 44 = .ok (.invokestatic 72, 3) := by decide +kernel
theorem dX3_lineOf_47 : decode cX3_lineOf 47 = .ok (.iload_n 3, 1) := by decide +kernel
theorem dX3_lineOf_48 : decode cX3_lineOf 48 = .ok (.invokevirtual 243, 3) := by decide +kernel
theorem dX3_lineOf_51 : decode cX3_lineOf 51 = .ok (.ireturn, 1) := by decide +kernel
theorem dX3_doorOf_0 : decode cX3_doorOf 0 = .ok (.iload_n 1, 1) := by decide +kernel
theorem dX3_doorOf_1 : decode cX3_doorOf 1 = .ok (.invokestatic 117, 3) := by decide +kernel
theorem dX3_doorOf_4 : decode cX3_doorOf 4 = .ok (.ifCond .ne 13, 3) := by decide +kernel
theorem dX3_doorOf_7 : decode cX3_doorOf 7 = .ok (.new 53, 3) := by decide +kernel
theorem dX3_doorOf_10 : decode cX3_doorOf 10 = .ok (.dup, 1) := by decide +kernel
theorem dX3_doorOf_11 : decode cX3_doorOf 11 = .ok (.ldc 120, 2) := by decide +kernel
theorem dX3_doorOf_13 : decode cX3_doorOf 13 = .ok (.invokespecial 57, 3) := by decide +kernel
theorem dX3_doorOf_16 : decode cX3_doorOf 16 = .ok (.athrow, 1) := by decide +kernel
theorem dX3_doorOf_17 : decode cX3_doorOf 17 = .ok (.iload_n 2, 1) := by decide +kernel
theorem dX3_doorOf_18 : decode cX3_doorOf 18 = .ok (.ifCond .lt 8, 3) := by decide +kernel
theorem dX3_doorOf_21 : decode cX3_doorOf 21 = .ok (.iload_n 2, 1) := by decide +kernel
theorem dX3_doorOf_22 : decode cX3_doorOf 22 = .ok (.iconst 5, 1) := by decide +kernel
theorem dX3_doorOf_23 : decode cX3_doorOf 23 = .ok (.if_icmp .lt 13, 3) := by decide +kernel
theorem dX3_doorOf_26 : decode cX3_doorOf 26 = .ok (.new 127, 3) := by decide +kernel
theorem dX3_doorOf_29 : decode cX3_doorOf 29 = .ok (.dup, 1) := by decide +kernel
theorem dX3_doorOf_30 : decode cX3_doorOf 30 = .ok (.ldc 246, 2) := by decide +kernel
theorem dX3_doorOf_32 : decode cX3_doorOf 32 = .ok (.invokespecial 131, 3) := by decide +kernel
theorem dX3_doorOf_35 : decode cX3_doorOf 35 = .ok (.athrow, 1) := by decide +kernel
theorem dX3_doorOf_36 : decode cX3_doorOf 36 = .ok (.aload_n 0, 1) := by decide +kernel
theorem dX3_doorOf_37 : decode cX3_doorOf 37 = .ok (.getfield 10, 3) := by decide +kernel
theorem dX3_doorOf_40 : decode cX3_doorOf 40 = .ok (.iload_n 1, 1) := by decide +kernel
theorem dX3_doorOf_41 : decode cX3_doorOf 41 = .ok (.iload_n 2, 1) := by decide +kernel
theorem dX3_doorOf_42 : decode cX3_doorOf 42 = .ok (.invokevirtual 248, 3) := by decide +kernel
theorem dX3_doorOf_45 : decode cX3_doorOf 45 = .ok (.ireturn, 1) := by decide +kernel
theorem dX3_count_0 : decode cX3_count 0 = .ok (.iload_n 1, 1) := by decide +kernel
theorem dX3_count_1 : decode cX3_count 1 = .ok (.ifCond .lt 9, 3) := by decide +kernel
theorem dX3_count_4 : decode cX3_count 4 = .ok (.iload_n 1, 1) := by decide +kernel
theorem dX3_count_5 : decode cX3_count 5 = .ok (.bipush 9, 2) := by decide +kernel
theorem dX3_count_7 : decode cX3_count 7 = .ok (.if_icmp .lt 13, 3) := by decide +kernel
theorem dX3_count_10 : decode cX3_count 10 = .ok (.new 127, 3) := by decide +kernel
theorem dX3_count_13 : decode cX3_count 13 = .ok (.dup, 1) := by decide +kernel
theorem dX3_count_14 : decode cX3_count 14 = .ok (.ldc 251, 2) := by decide +kernel
theorem dX3_count_16 : decode cX3_count 16 = .ok (.invokespecial 131, 3) := by decide +kernel
theorem dX3_count_19 : decode cX3_count 19 = .ok (.athrow, 1) := by decide +kernel
theorem dX3_count_20 : decode cX3_count 20 = .ok (.aload_n 0, 1) := by decide +kernel
theorem dX3_count_21 : decode cX3_count 21 = .ok (.iload_n 1, 1) := by decide +kernel
theorem dX3_count_22 : decode cX3_count 22 = .ok (.invokevirtual 253, 3) := by decide +kernel
theorem dX3_count_25 : decode cX3_count 25 = .ok (.ireturn, 1) := by decide +kernel
theorem dX3_setting_0 : decode cX3_setting 0 = .ok (.iload_n 1, 1) := by decide +kernel
theorem dX3_setting_1 : decode cX3_setting 1 = .ok (.invokestatic 165, 3) := by decide +kernel
theorem dX3_setting_4 : decode cX3_setting 4 = .ok (.ifCond .ne 13, 3) := by decide +kernel
theorem dX3_setting_7 : decode cX3_setting 7 = .ok (.new 53, 3) := by decide +kernel
theorem dX3_setting_10 : decode cX3_setting 10 = .ok (.dup, 1) := by decide +kernel
theorem dX3_setting_11 : decode cX3_setting 11 = .ok (.ldc 168, 2) := by decide +kernel
theorem dX3_setting_13 : decode cX3_setting 13 = .ok (.invokespecial 57, 3) := by decide +kernel
theorem dX3_setting_16 : decode cX3_setting 16 = .ok (.athrow, 1) := by decide +kernel
theorem dX3_setting_17 : decode cX3_setting 17 = .ok (.aload_n 0, 1) := by decide +kernel
theorem dX3_setting_18 : decode cX3_setting 18 = .ok (.getfield 10, 3) := by decide +kernel
theorem dX3_setting_21 : decode cX3_setting 21 = .ok (.iload_n 1, 1) := by decide +kernel
theorem dX3_setting_22 : decode cX3_setting 22 = .ok (.invokevirtual 175, 3) := by decide +kernel
theorem dX3_setting_25 : decode cX3_setting 25 = .ok (.ireturn, 1) := by decide +kernel
theorem dX3_whyNot_0 : decode cX3_whyNot 0 = .ok (.iload_n 1, 1) := by decide +kernel
theorem dX3_whyNot_1 : decode cX3_whyNot 1 = .ok (.invokestatic 45, 3) := by decide +kernel
theorem dX3_whyNot_4 : decode cX3_whyNot 4 = .ok (.ifCond .eq 14, 3) := by decide +kernel
theorem dX3_whyNot_7 : decode cX3_whyNot 7 = .ok (.aload_n 0, 1) := by decide +kernel
theorem dX3_whyNot_8 : decode cX3_whyNot 8 = .ok (.iload_n 2, 1) := by decide +kernel
theorem dX3_whyNot_9 : decode cX3_whyNot 9 = .ok (.iload_n 3, 1) := by decide +kernel
theorem dX3_whyNot_10 : decode cX3_whyNot 10 = .ok (.iload 4, 2) := by decide +kernel
theorem dX3_whyNot_12 : decode cX3_whyNot 12 = .ok (.invokevirtual 49, 3) := by decide +kernel
theorem dX3_whyNot_15 : decode cX3_whyNot 15 = .ok (.ifCond .ne 13, 3) := by decide +kernel
theorem dX3_whyNot_18 : decode cX3_whyNot 18 = .ok (.new 53, 3) := by decide +kernel
theorem dX3_whyNot_21 : decode cX3_whyNot 21 = .ok (.dup, 1) := by decide +kernel
theorem dX3_whyNot_22 : decode cX3_whyNot 22 = .ok (.ldc 55, 2) := by decide +kernel
theorem dX3_whyNot_24 : decode cX3_whyNot 24 = .ok (.invokespecial 57, 3) := by decide +kernel
theorem dX3_whyNot_27 : decode cX3_whyNot 27 = .ok (.athrow, 1) := by decide +kernel
theorem dX3_whyNot_28 : decode cX3_whyNot 28 = .ok (.iload_n 2, 1) := by decide +kernel
theorem dX3_whyNot_29 : decode cX3_whyNot 29 = .ok (.iload_n 3, 1) := by decide +kernel
theorem dX3_whyNot_30 : decode cX3_whyNot 30 = .ok (.invokestatic 72, 3) := by decide +kernel
theorem dX3_whyNot_33 : decode cX3_whyNot 33 = .ok (.istore 5, 2) := by decide +kernel
theorem dX3_whyNot_35 : decode cX3_whyNot 35 = .ok (.aload_n 0, 1) := by decide +kernel
theorem dX3_whyNot_36 : decode cX3_whyNot 36 = .ok (.getfield 10, 3) := by decide +kernel
theorem dX3_whyNot_39 : decode cX3_whyNot 39 = .ok (.iload_n 1, 1) := by decide +kernel
theorem dX3_whyNot_40 : decode cX3_whyNot 40 = .ok (.invokevirtual 95, 3) := by decide +kernel
theorem dX3_whyNot_43 : decode cX3_whyNot 43 = .ok (.iload 5, 2) := by decide +kernel
theorem dX3_whyNot_45 : decode cX3_whyNot 45 = .ok (.if_icmp .ne 7, 3) := by decide +kernel
theorem dX3_whyNot_48 : decode cX3_whyNot 48 = .ok (.iconst (-1), 1) := by decide +kernel
theorem dX3_whyNot_49 : decode cX3_whyNot 49 = .ok (.goto 15, 3) := by decide +kernel
theorem dX3_whyNot_52 : decode cX3_whyNot 52 = .ok (.aload_n 0, 1) := by decide +kernel
theorem dX3_whyNot_53 : decode cX3_whyNot 53 = .ok (.getfield 10, 3) := by decide +kernel
theorem dX3_whyNot_56 : decode cX3_whyNot 56 = .ok (.iload_n 1, 1) := by decide +kernel
theorem dX3_whyNot_57 : decode cX3_whyNot 57 = .ok (.iload 5, 2) := by decide +kernel
theorem dX3_whyNot_59 : decode cX3_whyNot 59 = .ok (.iload 4, 2) := by decide +kernel
theorem dX3_whyNot_61 : decode cX3_whyNot 61 = .ok (.invokevirtual 76, 3) := by decide +kernel
theorem dX3_whyNot_64 : decode cX3_whyNot 64 = .ok (.ireturn, 1) := by decide +kernel
theorem dX3_bestWord_0 : decode cX3_bestWord 0 = .ok (.iload_n 1, 1) := by decide +kernel
theorem dX3_bestWord_1 : decode cX3_bestWord 1 = .ok (.iload_n 2, 1) := by decide +kernel
theorem dX3_bestWord_2 : decode cX3_bestWord 2 = .ok (.invokestatic 106, 3) := by decide +kernel
theorem dX3_bestWord_5 : decode cX3_bestWord 5 = .ok (.ifCond .ne 13, 3) := by decide +kernel
theorem dX3_bestWord_8 : decode cX3_bestWord 8 = .ok (.new 53, 3) := by decide +kernel
theorem dX3_bestWord_11 : decode cX3_bestWord 11 = .ok (.dup, 1) := by decide +kernel
theorem dX3_bestWord_12 : decode cX3_bestWord 12 = .ok (.ldc 125, 2) := by decide +kernel
theorem dX3_bestWord_14 : decode cX3_bestWord 14 = .ok (.invokespecial 57, 3) := by decide +kernel
theorem dX3_bestWord_17 : decode cX3_bestWord 17 = .ok (.athrow, 1) := by decide +kernel
theorem dX3_bestWord_18 : decode cX3_bestWord 18 = .ok (.aload_n 0, 1) := by decide +kernel
theorem dX3_bestWord_19 : decode cX3_bestWord 19 = .ok (.getfield 10, 3) := by decide +kernel
theorem dX3_bestWord_22 : decode cX3_bestWord 22 = .ok (.iload_n 1, 1) := by decide +kernel
theorem dX3_bestWord_23 : decode cX3_bestWord 23 = .ok (.iload_n 2, 1) := by decide +kernel
theorem dX3_bestWord_24 : decode cX3_bestWord 24 = .ok (.invokestatic 72, 3) := by decide +kernel
theorem dX3_bestWord_27 : decode cX3_bestWord 27 = .ok (.invokevirtual 256, 3) := by decide +kernel
theorem dX3_bestWord_30 : decode cX3_bestWord 30 = .ok (.ireturn, 1) := by decide +kernel
theorem dX3_prey_0 : decode cX3_prey 0 = .ok (.aload_n 0, 1) := by decide +kernel
theorem dX3_prey_1 : decode cX3_prey 1 = .ok (.getfield 10, 3) := by decide +kernel
theorem dX3_prey_4 : decode cX3_prey 4 = .ok (.invokevirtual 259, 3) := by decide +kernel
theorem dX3_prey_7 : decode cX3_prey 7 = .ok (.ireturn, 1) := by decide +kernel
theorem dX3_ifSlept_0 : decode cX3_ifSlept 0 = .ok (.iload_n 2, 1) := by decide +kernel
theorem dX3_ifSlept_1 : decode cX3_ifSlept 1 = .ok (.invokestatic 117, 3) := by decide +kernel
theorem dX3_ifSlept_4 : decode cX3_ifSlept 4 = .ok (.ifCond .ne 13, 3) := by decide +kernel
theorem dX3_ifSlept_7 : decode cX3_ifSlept 7 = .ok (.new 53, 3) := by decide +kernel
theorem dX3_ifSlept_10 : decode cX3_ifSlept 10 = .ok (.dup, 1) := by decide +kernel
theorem dX3_ifSlept_11 : decode cX3_ifSlept 11 = .ok (.ldc 120, 2) := by decide +kernel
theorem dX3_ifSlept_13 : decode cX3_ifSlept 13 = .ok (.invokespecial 57, 3) := by decide +kernel
theorem dX3_ifSlept_16 : decode cX3_ifSlept 16 = .ok (.athrow, 1) := by decide +kernel
theorem dX3_ifSlept_17 : decode cX3_ifSlept 17 = .ok (.iload_n 1, 1) := by decide +kernel
theorem dX3_ifSlept_18 : decode cX3_ifSlept 18 = .ok (.invokestatic 152, 3) := by decide +kernel
theorem dX3_ifSlept_21 : decode cX3_ifSlept 21 = .ok (.ifCond .ne 13, 3) := by decide +kernel
theorem dX3_ifSlept_24 : decode cX3_ifSlept 24 = .ok (.new 127, 3) := by decide +kernel
theorem dX3_ifSlept_27 : decode cX3_ifSlept 27 = .ok (.dup, 1) := by decide +kernel
theorem dX3_ifSlept_28 : decode cX3_ifSlept 28 = .ok (.ldc 155, 2) := by decide +kernel
theorem dX3_ifSlept_30 : decode cX3_ifSlept 30 = .ok (.invokespecial 131, 3) := by decide +kernel
theorem dX3_ifSlept_33 : decode cX3_ifSlept 33 = .ok (.athrow, 1) := by decide +kernel
theorem dX3_ifSlept_34 : decode cX3_ifSlept 34 = .ok (.aload_n 0, 1) := by decide +kernel
theorem dX3_ifSlept_35 : decode cX3_ifSlept 35 = .ok (.getfield 16, 3) := by decide +kernel
theorem dX3_ifSlept_38 : decode cX3_ifSlept 38 = .ok (.aload_n 0, 1) := by decide +kernel
theorem dX3_ifSlept_39 : decode cX3_ifSlept 39 = .ok (.getfield 10, 3) := by decide +kernel
theorem dX3_ifSlept_42 : decode cX3_ifSlept 42 = .ok (.invokevirtual 215, 3) := by decide +kernel
theorem dX3_ifSlept_45 : decode cX3_ifSlept 45 = .ok (.aload_n 0, 1) := by decide +kernel
theorem dX3_ifSlept_46 : decode cX3_ifSlept 46 = .ok (.getfield 16, 3) := by decide +kernel
theorem dX3_ifSlept_49 : decode cX3_ifSlept 49 = .ok (.iload_n 1, 1) := by decide +kernel
theorem dX3_ifSlept_50 : decode cX3_ifSlept 50 = .ok (.invokevirtual 162, 3) := by decide +kernel
theorem dX3_ifSlept_53 : decode cX3_ifSlept 53 = .ok (.pop, 1) := by decide +kernel
theorem dX3_ifSlept_54 : decode cX3_ifSlept 54 = .ok (.aload_n 0, 1) := by decide +kernel
theorem dX3_ifSlept_55 : decode cX3_ifSlept 55 = .ok (.getfield 16, 3) := by decide +kernel
theorem dX3_ifSlept_58 : decode cX3_ifSlept 58 = .ok (.iload_n 2, 1) := by decide +kernel
theorem dX3_ifSlept_59 : decode cX3_ifSlept 59 = .ok (.invokevirtual 262, 3) := by decide +kernel
theorem dX3_ifSlept_62 : decode cX3_ifSlept 62 = .ok (.ireturn, 1) := by decide +kernel
theorem dX3_shownShare_0 : decode cX3_shownShare 0 = .ok (.aload_n 0, 1) := by decide +kernel
theorem dX3_shownShare_1 : decode cX3_shownShare 1 = .ok (.invokevirtual 265, 3) := by decide +kernel
theorem dX3_shownShare_4 : decode cX3_shownShare 4 = .ok (.dreturn, 1) := by decide +kernel
theorem dX3_digest_0 : decode cX3_digest 0 = .ok (.aload_n 0, 1) := by decide +kernel
theorem dX3_digest_1 : decode cX3_digest 1 = .ok (.getfield 16, 3) := by decide +kernel
theorem dX3_digest_4 : decode cX3_digest 4 = .ok (.aload_n 0, 1) := by decide +kernel
theorem dX3_digest_5 : decode cX3_digest 5 = .ok (.getfield 10, 3) := by decide +kernel
theorem dX3_digest_8 : decode cX3_digest 8 = .ok (.invokevirtual 215, 3) := by decide +kernel
theorem dX3_digest_11 : decode cX3_digest 11 = .ok (.aload_n 0, 1) := by decide +kernel
theorem dX3_digest_12 : decode cX3_digest 12 = .ok (.getfield 16, 3) := by decide +kernel
theorem dX3_digest_15 : decode cX3_digest 15 = .ok (.iconst 3, 1) := by decide +kernel
theorem dX3_digest_16 : decode cX3_digest 16 = .ok (.invokevirtual 162, 3) := by decide +kernel
theorem dX3_digest_19 : decode cX3_digest 19 = .ok (.pop, 1) := by decide +kernel
theorem dX3_digest_20 : decode cX3_digest 20 = .ok (.ldc2_w 269, 3) := by decide +kernel
theorem dX3_digest_23 : decode cX3_digest 23 = .ok (.lstore_n 1, 1) := by decide +kernel
theorem dX3_digest_24 : decode cX3_digest 24 = .ok (.iconst 0, 1) := by decide +kernel
theorem dX3_digest_25 : decode cX3_digest 25 = .ok (.istore_n 3, 1) := by decide +kernel
theorem dX3_digest_26 : decode cX3_digest 26 = .ok (.iload_n 3, 1) := by decide +kernel
theorem dX3_digest_27 : decode cX3_digest 27 = .ok (.bipush 9, 2) := by decide +kernel
theorem dX3_digest_29 : decode cX3_digest 29 = .ok (.if_icmp .ge 20, 3) := by decide +kernel
theorem dX3_digest_32 : decode cX3_digest 32 = .ok (.lload_n 1, 1) := by decide +kernel
theorem dX3_digest_33 : decode cX3_digest 33 = .ok (.aload_n 0, 1) := by decide +kernel
theorem dX3_digest_34 : decode cX3_digest 34 = .ok (.iload_n 3, 1) := by decide +kernel
theorem dX3_digest_35 : decode cX3_digest 35 = .ok (.invokevirtual 253, 3) := by decide +kernel
theorem dX3_digest_38 : decode cX3_digest 38 = .ok (.i2l, 1) := by decide +kernel
theorem dX3_digest_39 : decode cX3_digest 39 = .ok (.invokestatic 271, 3) := by decide +kernel
theorem dX3_digest_42 : decode cX3_digest 42 = .ok (.lstore_n 1, 1) := by decide +kernel
theorem dX3_digest_43 : decode cX3_digest 43 = .ok (.iinc 3 1, 3) := by decide +kernel
theorem dX3_digest_46 : decode cX3_digest 46 = .ok (.goto (-20), 3) := by decide +kernel
theorem dX3_digest_49 : decode cX3_digest 49 = .ok (.iconst 0, 1) := by decide +kernel
theorem dX3_digest_50 : decode cX3_digest 50 = .ok (.istore_n 3, 1) := by decide +kernel
theorem dX3_digest_51 : decode cX3_digest 51 = .ok (.iload_n 3, 1) := by decide +kernel
theorem dX3_digest_52 : decode cX3_digest 52 = .ok (.iconst 3, 1) := by decide +kernel
theorem dX3_digest_53 : decode cX3_digest 53 = .ok (.if_icmp .ge 23, 3) := by decide +kernel
theorem dX3_digest_56 : decode cX3_digest 56 = .ok (.lload_n 1, 1) := by decide +kernel
theorem dX3_digest_57 : decode cX3_digest 57 = .ok (.aload_n 0, 1) := by decide +kernel
theorem dX3_digest_58 : decode cX3_digest 58 = .ok (.getfield 10, 3) := by decide +kernel
theorem dX3_digest_61 : decode cX3_digest 61 = .ok (.iload_n 3, 1) := by decide +kernel
theorem dX3_digest_62 : decode cX3_digest 62 = .ok (.invokevirtual 175, 3) := by decide +kernel
theorem dX3_digest_65 : decode cX3_digest 65 = .ok (.i2l, 1) := by decide +kernel
theorem dX3_digest_66 : decode cX3_digest 66 = .ok (.invokestatic 271, 3) := by decide +kernel
theorem dX3_digest_69 : decode cX3_digest 69 = .ok (.lstore_n 1, 1) := by decide +kernel
theorem dX3_digest_70 : decode cX3_digest 70 = .ok (.iinc 3 1, 3) := by decide +kernel
theorem dX3_digest_73 : decode cX3_digest 73 = .ok (.goto (-22), 3) := by decide +kernel
theorem dX3_digest_76 : decode cX3_digest 76 = .ok (.iconst 0, 1) := by decide +kernel
theorem dX3_digest_77 : decode cX3_digest 77 = .ok (.istore_n 3, 1) := by decide +kernel
theorem dX3_digest_78 : decode cX3_digest 78 = .ok (.iload_n 3, 1) := by decide +kernel
theorem dX3_digest_79 : decode cX3_digest 79 = .ok (.bipush 40, 2) := by decide +kernel
theorem dX3_digest_81 : decode cX3_digest 81 = .ok (.if_icmp .ge 41, 3) := by decide +kernel
theorem dX3_digest_84 : decode cX3_digest 84 = .ok (.iconst 3, 1) := by decide +kernel
theorem dX3_digest_85 : decode cX3_digest 85 = .ok (.istore 4, 2) := by decide +kernel
theorem dX3_digest_87 : decode cX3_digest 87 = .ok (.iload 4, 2) := by decide +kernel
theorem dX3_digest_89 : decode cX3_digest 89 = .ok (.bipush 7, 2) := by decide +kernel
theorem dX3_digest_91 : decode cX3_digest 91 = .ok (.if_icmp .ge 25, 3) := by decide +kernel
theorem dX3_digest_94 : decode cX3_digest 94 = .ok (.lload_n 1, 1) := by decide +kernel
theorem dX3_digest_95 : decode cX3_digest 95 = .ok (.aload_n 0, 1) := by decide +kernel
theorem dX3_digest_96 : decode cX3_digest 96 = .ok (.getfield 10, 3) := by decide +kernel
theorem dX3_digest_99 : decode cX3_digest 99 = .ok (.iload_n 3, 1) := by decide +kernel
theorem dX3_digest_100 : decode cX3_digest 100 = .ok (.iload 4, 2) := by decide +kernel
theorem dX3_digest_102 : decode cX3_digest 102 = .ok (.invokevirtual 233, 3) := by decide +kernel
theorem dX3_digest_105 : decode cX3_digest 105 = .ok (.i2l, 1) := by decide +kernel
theorem dX3_digest_106 : decode cX3_digest 106 = .ok (.invokestatic 271, 3) := by decide +kernel
theorem dX3_digest_109 : decode cX3_digest 109 = .ok (.lstore_n 1, 1) := by decide +kernel
theorem dX3_digest_110 : decode cX3_digest 110 = .ok (.iinc 4 1, 3) := by decide +kernel
theorem dX3_digest_113 : decode cX3_digest 113 = .ok (.goto (-26), 3) := by decide +kernel
theorem dX3_digest_116 : decode cX3_digest 116 = .ok (.iinc 3 1, 3) := by decide +kernel
theorem dX3_digest_119 : decode cX3_digest 119 = .ok (.goto (-41), 3) := by decide +kernel
theorem dX3_digest_122 : decode cX3_digest 122 = .ok (.iconst 0, 1) := by decide +kernel
theorem dX3_digest_123 : decode cX3_digest 123 = .ok (.istore_n 3, 1) := by decide +kernel
theorem dX3_digest_124 : decode cX3_digest 124 = .ok (.iload_n 3, 1) := by decide +kernel
theorem dX3_digest_125 : decode cX3_digest 125 = .ok (.iconst 4, 1) := by decide +kernel
theorem dX3_digest_126 : decode cX3_digest 126 = .ok (.if_icmp .ge 16, 3) := by decide +kernel
theorem dX3_digest_129 : decode cX3_digest 129 = .ok (.aload_n 0, 1) := by decide +kernel
theorem dX3_digest_130 : decode cX3_digest 130 = .ok (.lload_n 1, 1) := by decide +kernel
theorem dX3_digest_131 : decode cX3_digest 131 = .ok (.iload_n 3, 1) := by decide +kernel
theorem dX3_digest_132 : decode cX3_digest 132 = .ok (.invokevirtual 275, 3) := by decide +kernel
theorem dX3_digest_135 : decode cX3_digest 135 = .ok (.lstore_n 1, 1) := by decide +kernel
theorem dX3_digest_136 : decode cX3_digest 136 = .ok (.iinc 3 1, 3) := by decide +kernel
theorem dX3_digest_139 : decode cX3_digest 139 = .ok (.goto (-15), 3) := by decide +kernel
theorem dX3_digest_142 : decode cX3_digest 142 = .ok (.lload_n 1, 1) := by decide +kernel
theorem dX3_digest_143 : decode cX3_digest 143 = .ok (.aload_n 0, 1) := by decide +kernel
theorem dX3_digest_144 : decode cX3_digest 144 = .ok (.getfield 10, 3) := by decide +kernel
theorem dX3_digest_147 : decode cX3_digest 147 = .ok (.invokevirtual 259, 3) := by decide +kernel
theorem dX3_digest_150 : decode cX3_digest 150 = .ok (.i2l, 1) := by decide +kernel
theorem dX3_digest_151 : decode cX3_digest 151 = .ok (.invokestatic 271, 3) := by decide +kernel
theorem dX3_digest_154 : decode cX3_digest 154 = .ok (.lstore_n 1, 1) := by decide +kernel
theorem dX3_digest_155 : decode cX3_digest 155 = .ok (.lload_n 1, 1) := by decide +kernel
theorem dX3_digest_156 : decode cX3_digest 156 = .ok (.aload_n 0, 1) := by decide +kernel
theorem dX3_digest_157 : decode cX3_digest 157 = .ok (.invokevirtual 265, 3) := by decide +kernel
theorem dX3_digest_160 : decode cX3_digest 160 = .ok (.invokestatic 279, 3) := by decide +kernel
theorem dX3_digest_163 : decode cX3_digest 163 = .ok (.invokestatic 271, 3) := by decide +kernel
theorem dX3_digest_166 : decode cX3_digest 166 = .ok (.lstore_n 1, 1) := by decide +kernel
theorem dX3_digest_167 : decode cX3_digest 167 = .ok (.iconst 0, 1) := by decide +kernel
theorem dX3_digest_168 : decode cX3_digest 168 = .ok (.istore_n 3, 1) := by decide +kernel
theorem dX3_digest_169 : decode cX3_digest 169 = .ok (.iload_n 3, 1) := by decide +kernel
theorem dX3_digest_170 : decode cX3_digest 170 = .ok (.aload_n 0, 1) := by decide +kernel
theorem dX3_digest_171 : decode cX3_digest 171 = .ok (.getfield 30, 3) := by decide +kernel
theorem dX3_digest_174 : decode cX3_digest 174 = .ok (.arraylength, 1) := by decide +kernel
theorem dX3_digest_175 : decode cX3_digest 175 = .ok (.if_icmp .ge 28, 3) := by decide +kernel
theorem dX3_digest_178 : decode cX3_digest 178 = .ok (.lload_n 1, 1) := by decide +kernel
theorem dX3_digest_179 : decode cX3_digest 179 = .ok (.aload_n 0, 1) := by decide +kernel
theorem dX3_digest_180 : decode cX3_digest 180 = .ok (.getfield 30, 3) := by decide +kernel
theorem dX3_digest_183 : decode cX3_digest 183 = .ok (.iload_n 3, 1) := by decide +kernel
theorem dX3_digest_184 : decode cX3_digest 184 = .ok (.baload, 1) := by decide +kernel
theorem dX3_digest_185 : decode cX3_digest 185 = .ok (.ifCond .eq 7, 3) := by decide +kernel
theorem dX3_digest_188 : decode cX3_digest 188 = .ok (.lconst 1, 1) := by decide +kernel
theorem dX3_digest_189 : decode cX3_digest 189 = .ok (.goto 4, 3) := by decide +kernel
theorem dX3_digest_192 : decode cX3_digest 192 = .ok (.lconst 0, 1) := by decide +kernel
theorem dX3_digest_193 : decode cX3_digest 193 = .ok (.invokestatic 271, 3) := by decide +kernel
theorem dX3_digest_196 : decode cX3_digest 196 = .ok (.lstore_n 1, 1) := by decide +kernel
theorem dX3_digest_197 : decode cX3_digest 197 = .ok (.iinc 3 1, 3) := by decide +kernel
theorem dX3_digest_200 : decode cX3_digest 200 = .ok (.goto (-31), 3) := by decide +kernel
theorem dX3_digest_203 : decode cX3_digest 203 = .ok (.lload_n 1, 1) := by decide +kernel
theorem dX3_digest_204 : decode cX3_digest 204 = .ok (.aload_n 0, 1) := by decide +kernel
theorem dX3_digest_205 : decode cX3_digest 205 = .ok (.getfield 183, 3) := by decide +kernel
theorem dX3_digest_208 : decode cX3_digest 208 = .ok (.i2l, 1) := by decide +kernel
theorem dX3_digest_209 : decode cX3_digest 209 = .ok (.invokestatic 271, 3) := by decide +kernel
theorem dX3_digest_212 : decode cX3_digest 212 = .ok (.lstore_n 1, 1) := by decide +kernel
theorem dX3_digest_213 : decode cX3_digest 213 = .ok (.iconst 0, 1) := by decide +kernel
theorem dX3_digest_214 : decode cX3_digest 214 = .ok (.istore_n 3, 1) := by decide +kernel
theorem dX3_digest_215 : decode cX3_digest 215 = .ok (.iload_n 3, 1) := by decide +kernel
theorem dX3_digest_216 : decode cX3_digest 216 = .ok (.aload_n 0, 1) := by decide +kernel
theorem dX3_digest_217 : decode cX3_digest 217 = .ok (.getfield 183, 3) := by decide +kernel
theorem dX3_digest_220 : decode cX3_digest 220 = .ok (.if_icmp .ge 30, 3) := by decide +kernel
theorem dX3_digest_223 : decode cX3_digest 223 = .ok (.iload_n 3, 1) := by decide +kernel
theorem dX3_digest_224 : decode cX3_digest 224 = .ok (.aload_n 0, 1) := by decide +kernel
theorem dX3_digest_225 : decode cX3_digest 225 = .ok (.getfield 34, 3) := by decide +kernel
theorem dX3_digest_228 : decode cX3_digest 228 = .ok (.arraylength, 1) := by decide +kernel
theorem dX3_digest_229 : decode cX3_digest 229 = .ok (.if_icmp .ge 21, 3) := by decide +kernel
theorem dX3_digest_232 : decode cX3_digest 232 = .ok (.lload_n 1, 1) := by decide +kernel
theorem dX3_digest_233 : decode cX3_digest 233 = .ok (.aload_n 0, 1) := by decide +kernel
theorem dX3_digest_234 : decode cX3_digest 234 = .ok (.getfield 34, 3) := by decide +kernel
theorem dX3_digest_237 : decode cX3_digest 237 = .ok (.iload_n 3, 1) := by decide +kernel
theorem dX3_digest_238 : decode cX3_digest 238 = .ok (.iaload, 1) := by decide +kernel
theorem dX3_digest_239 : decode cX3_digest 239 = .ok (.i2l, 1) := by decide +kernel
theorem dX3_digest_240 : decode cX3_digest 240 = .ok (.invokestatic 271, 3) := by decide +kernel
theorem dX3_digest_243 : decode cX3_digest 243 = .ok (.lstore_n 1, 1) := by decide +kernel
theorem dX3_digest_244 : decode cX3_digest 244 = .ok (.iinc 3 1, 3) := by decide +kernel
theorem dX3_digest_247 : decode cX3_digest 247 = .ok (.goto (-32), 3) := by decide +kernel
theorem dX3_digest_250 : decode cX3_digest 250 = .ok (.lload_n 1, 1) := by decide +kernel
theorem dX3_digest_251 : decode cX3_digest 251 = .ok (.lreturn, 1) := by decide +kernel
theorem dX3_mix_0 : decode cX3_mix 0 = .ok (.ldc2_w 283, 3) := by decide +kernel
theorem dX3_mix_3 : decode cX3_mix 3 = .ok (.lload_n 0, 1) := by decide +kernel
theorem dX3_mix_4 : decode cX3_mix 4 = .ok (.lmul, 1) := by decide +kernel
theorem dX3_mix_5 : decode cX3_mix 5 = .ok (.lload_n 2, 1) := by decide +kernel
theorem dX3_mix_6 : decode cX3_mix 6 = .ok (.ladd, 1) := by decide +kernel
theorem dX3_mix_7 : decode cX3_mix 7 = .ok (.lreturn, 1) := by decide +kernel
theorem dX3_mixDoor_0 : decode cX3_mixDoor 0 = .ok (.lload_n 1, 1) := by decide +kernel
theorem dX3_mixDoor_1 : decode cX3_mixDoor 1 = .ok (.lstore 4, 2) := by decide +kernel
theorem dX3_mixDoor_3 : decode cX3_mixDoor 3 = .ok (.iconst 0, 1) := by decide +kernel
theorem dX3_mixDoor_4 : decode cX3_mixDoor 4 = .ok (.istore 6, 2) := by decide +kernel
theorem dX3_mixDoor_6 : decode cX3_mixDoor 6 = .ok (.iload 6, 2) := by decide +kernel
theorem dX3_mixDoor_8 : decode cX3_mixDoor 8 = .ok (.iconst 5, 1) := by decide +kernel
theorem dX3_mixDoor_9 : decode cX3_mixDoor 9 = .ok (.if_icmp .ge 27, 3) := by decide +kernel
theorem dX3_mixDoor_12 : decode cX3_mixDoor 12 = .ok (.lload 4, 2) := by decide +kernel
theorem dX3_mixDoor_14 : decode cX3_mixDoor 14 = .ok (.aload_n 0, 1) := by decide +kernel
theorem dX3_mixDoor_15 : decode cX3_mixDoor 15 = .ok (.getfield 10, 3) := by decide +kernel
theorem dX3_mixDoor_18 : decode cX3_mixDoor 18 = .ok (.iload_n 3, 1) := by decide +kernel
theorem dX3_mixDoor_19 : decode cX3_mixDoor 19 = .ok (.iload 6, 2) := by decide +kernel
theorem dX3_mixDoor_21 : decode cX3_mixDoor 21 = .ok (.invokevirtual 248, 3) := by decide +kernel
theorem dX3_mixDoor_24 : decode cX3_mixDoor 24 = .ok (.i2l, 1) := by decide +kernel
theorem dX3_mixDoor_25 : decode cX3_mixDoor 25 = .ok (.invokestatic 271, 3) := by decide +kernel
theorem dX3_mixDoor_28 : decode cX3_mixDoor 28 = .ok (.lstore 4, 2) := by decide +kernel
theorem dX3_mixDoor_30 : decode cX3_mixDoor 30 = .ok (.iinc 6 1, 3) := by decide +kernel
theorem dX3_mixDoor_33 : decode cX3_mixDoor 33 = .ok (.goto (-27), 3) := by decide +kernel
theorem dX3_mixDoor_36 : decode cX3_mixDoor 36 = .ok (.iconst 0, 1) := by decide +kernel
theorem dX3_mixDoor_37 : decode cX3_mixDoor 37 = .ok (.istore 6, 2) := by decide +kernel
theorem dX3_mixDoor_39 : decode cX3_mixDoor 39 = .ok (.iload 6, 2) := by decide +kernel
theorem dX3_mixDoor_41 : decode cX3_mixDoor 41 = .ok (.iconst 4, 1) := by decide +kernel
theorem dX3_mixDoor_42 : decode cX3_mixDoor 42 = .ok (.if_icmp .ge 104, 3) := by decide +kernel
theorem dX3_mixDoor_45 : decode cX3_mixDoor 45 = .ok (.iload_n 3, 1) := by decide +kernel
theorem dX3_mixDoor_46 : decode cX3_mixDoor 46 = .ok (.iload 6, 2) := by decide +kernel
theorem dX3_mixDoor_48 : decode cX3_mixDoor 48 = .ok (.invokestatic 72, 3) := by decide +kernel
theorem dX3_mixDoor_51 : decode cX3_mixDoor 51 = .ok (.istore 7, 2) := by decide +kernel
theorem dX3_mixDoor_53 : decode cX3_mixDoor 53 = .ok (.iconst 0, 1) := by decide +kernel
theorem dX3_mixDoor_54 : decode cX3_mixDoor 54 = .ok (.istore 8, 2) := by decide +kernel
theorem dX3_mixDoor_56 : decode cX3_mixDoor 56 = .ok (.iload 8, 2) := by decide +kernel
theorem dX3_mixDoor_58 : decode cX3_mixDoor 58 = .ok (.bipush 6, 2) := by decide +kernel
theorem dX3_mixDoor_60 : decode cX3_mixDoor 60 = .ok (.if_icmp .ge 28, 3) := by decide +kernel
theorem dX3_mixDoor_63 : decode cX3_mixDoor 63 = .ok (.lload 4, 2) := by decide +kernel
theorem dX3_mixDoor_65 : decode cX3_mixDoor 65 = .ok (.aload_n 0, 1) := by decide +kernel
theorem dX3_mixDoor_66 : decode cX3_mixDoor 66 = .ok (.getfield 10, 3) := by decide +kernel
theorem dX3_mixDoor_69 : decode cX3_mixDoor 69 = .ok (.iload 7, 2) := by decide +kernel
theorem dX3_mixDoor_71 : decode cX3_mixDoor 71 = .ok (.iload 8, 2) := by decide +kernel
theorem dX3_mixDoor_73 : decode cX3_mixDoor 73 = .ok (.invokevirtual 238, 3) := by decide +kernel
theorem dX3_mixDoor_76 : decode cX3_mixDoor 76 = .ok (.i2l, 1) := by decide +kernel
theorem dX3_mixDoor_77 : decode cX3_mixDoor 77 = .ok (.invokestatic 271, 3) := by decide +kernel
theorem dX3_mixDoor_80 : decode cX3_mixDoor 80 = .ok (.lstore 4, 2) := by decide +kernel
theorem dX3_mixDoor_82 : decode cX3_mixDoor 82 = .ok (.iinc 8 1, 3) := by decide +kernel
theorem dX3_mixDoor_85 : decode cX3_mixDoor 85 = .ok (.goto (-29), 3) := by decide +kernel
theorem dX3_mixDoor_88 : decode cX3_mixDoor 88 = .ok (.iconst 0, 1) := by decide +kernel
theorem dX3_mixDoor_89 : decode cX3_mixDoor 89 = .ok (.istore 8, 2) := by decide +kernel
theorem dX3_mixDoor_91 : decode cX3_mixDoor 91 = .ok (.iload 8, 2) := by decide +kernel
theorem dX3_mixDoor_93 : decode cX3_mixDoor 93 = .ok (.bipush 8, 2) := by decide +kernel
theorem dX3_mixDoor_95 : decode cX3_mixDoor 95 = .ok (.if_icmp .ge 28, 3) := by decide +kernel
theorem dX3_mixDoor_98 : decode cX3_mixDoor 98 = .ok (.lload 4, 2) := by decide +kernel
theorem dX3_mixDoor_100 : decode cX3_mixDoor 100 = .ok (.aload_n 0, 1) := by decide +kernel
theorem dX3_mixDoor_101 : decode cX3_mixDoor 101 = .ok (.getfield 10, 3) := by decide +kernel
theorem dX3_mixDoor_104 : decode cX3_mixDoor 104 = .ok (.iload 7, 2) := by decide +kernel
theorem dX3_mixDoor_106 : decode cX3_mixDoor 106 = .ok (.iload 8, 2) := by decide +kernel
theorem dX3_mixDoor_108 : decode cX3_mixDoor 108 = .ok (.invokevirtual 243, 3) := by decide +kernel
theorem dX3_mixDoor_111 : decode cX3_mixDoor 111 = .ok (.i2l, 1) := by decide +kernel
theorem dX3_mixDoor_112 : decode cX3_mixDoor 112 = .ok (.invokestatic 271, 3) := by decide +kernel
theorem dX3_mixDoor_115 : decode cX3_mixDoor 115 = .ok (.lstore 4, 2) := by decide +kernel
theorem dX3_mixDoor_117 : decode cX3_mixDoor 117 = .ok (.iinc 8 1, 3) := by decide +kernel
theorem dX3_mixDoor_120 : decode cX3_mixDoor 120 = .ok (.goto (-29), 3) := by decide +kernel
theorem dX3_mixDoor_123 : decode cX3_mixDoor 123 = .ok (.lload 4, 2) := by decide +kernel
theorem dX3_mixDoor_125 : decode cX3_mixDoor 125 = .ok (.aload_n 0, 1) := by decide +kernel
theorem dX3_mixDoor_126 : decode cX3_mixDoor 126 = .ok (.getfield 10, 3) := by decide +kernel
theorem dX3_mixDoor_129 : decode cX3_mixDoor 129 = .ok (.iload 7, 2) := by decide +kernel
theorem dX3_mixDoor_131 : decode cX3_mixDoor 131 = .ok (.invokevirtual 256, 3) := by decide +kernel
theorem dX3_mixDoor_134 : decode cX3_mixDoor 134 = .ok (.i2l, 1) := by decide +kernel
theorem dX3_mixDoor_135 : decode cX3_mixDoor 135 = .ok (.invokestatic 271, 3) := by decide +kernel
theorem dX3_mixDoor_138 : decode cX3_mixDoor 138 = .ok (.lstore 4, 2) := by decide +kernel
theorem dX3_mixDoor_140 : decode cX3_mixDoor 140 = .ok (.iinc 6 1, 3) := by decide +kernel
theorem dX3_mixDoor_143 : decode cX3_mixDoor 143 = .ok (.goto (-104), 3) := by decide +kernel
theorem dX3_mixDoor_146 : decode cX3_mixDoor 146 = .ok (.lload 4, 2) := by decide +kernel
theorem dX3_mixDoor_148 : decode cX3_mixDoor 148 = .ok (.aload_n 0, 1) := by decide +kernel
theorem dX3_mixDoor_149 : decode cX3_mixDoor 149 = .ok (.getfield 16, 3) := by decide +kernel
theorem dX3_mixDoor_152 : decode cX3_mixDoor 152 = .ok (.iload_n 3, 1) := by decide +kernel
theorem dX3_mixDoor_153 : decode cX3_mixDoor 153 = .ok (.invokevirtual 262, 3) := by decide +kernel
theorem dX3_mixDoor_156 : decode cX3_mixDoor 156 = .ok (.i2l, 1) := by decide +kernel
theorem dX3_mixDoor_157 : decode cX3_mixDoor 157 = .ok (.invokestatic 271, 3) := by decide +kernel
theorem dX3_mixDoor_160 : decode cX3_mixDoor 160 = .ok (.lreturn, 1) := by decide +kernel
theorem dX3_bitsOf_0 : decode cX3_bitsOf 0 = .ok (.dload_n 0, 1) := by decide +kernel
theorem dX3_bitsOf_1 : decode cX3_bitsOf 1 = .ok (.dconst 0, 1) := by decide +kernel
theorem dX3_bitsOf_2 : decode cX3_bitsOf 2 = .ok (.dcmp .g, 1) := by decide +kernel
theorem dX3_bitsOf_3 : decode cX3_bitsOf 3 = .ok (.ifCond .gt 5, 3) := by decide +kernel
theorem dX3_bitsOf_6 : decode cX3_bitsOf 6 = .ok (.lconst 0, 1) := by decide +kernel
theorem dX3_bitsOf_7 : decode cX3_bitsOf 7 = .ok (.lreturn, 1) := by decide +kernel
theorem dX3_bitsOf_8 : decode cX3_bitsOf 8 = .ok (.dload_n 0, 1) := by decide +kernel
theorem dX3_bitsOf_9 : decode cX3_bitsOf 9 = .ok (.dstore_n 2, 1) := by decide +kernel
theorem dX3_bitsOf_10 : decode cX3_bitsOf 10 = .ok (.ldc2_w 285, 3) := by decide +kernel
theorem dX3_bitsOf_13 : decode cX3_bitsOf 13 = .ok (.lstore 4, 2) := by decide +kernel
theorem dX3_bitsOf_15 : decode cX3_bitsOf 15 = .ok (.dload_n 2, 1) := by decide +kernel
theorem dX3_bitsOf_16 : decode cX3_bitsOf 16 = .ok (.dconst 1, 1) := by decide +kernel
theorem dX3_bitsOf_17 : decode cX3_bitsOf 17 = .ok (.dcmp .g, 1) := by decide +kernel
theorem dX3_bitsOf_18 : decode cX3_bitsOf 18 = .ok (.ifCond .ge 25, 3) := by decide +kernel
theorem dX3_bitsOf_21 : decode cX3_bitsOf 21 = .ok (.lload 4, 2) := by decide +kernel
theorem dX3_bitsOf_23 : decode cX3_bitsOf 23 = .ok (.lconst 1, 1) := by decide +kernel
theorem dX3_bitsOf_24 : decode cX3_bitsOf 24 = .ok (.lcmp, 1) := by decide +kernel
theorem dX3_bitsOf_25 : decode cX3_bitsOf 25 = .ok (.ifCond .le 18, 3) := by decide +kernel
theorem dX3_bitsOf_28 : decode cX3_bitsOf 28 = .ok (.dload_n 2, 1) := by decide +kernel
theorem dX3_bitsOf_29 : decode cX3_bitsOf 29 = .ok (.ldc2_w 287, 3) := by decide +kernel
theorem dX3_bitsOf_32 : decode cX3_bitsOf 32 = .ok (.dmul, 1) := by decide +kernel
theorem dX3_bitsOf_33 : decode cX3_bitsOf 33 = .ok (.dstore_n 2, 1) := by decide +kernel
theorem dX3_bitsOf_34 : decode cX3_bitsOf 34 = .ok (.lload 4, 2) := by decide +kernel
theorem dX3_bitsOf_36 : decode cX3_bitsOf 36 = .ok (.lconst 1, 1) := by decide +kernel
theorem dX3_bitsOf_37 : decode cX3_bitsOf 37 = .ok (.lsub, 1) := by decide +kernel
theorem dX3_bitsOf_38 : decode cX3_bitsOf 38 = .ok (.lstore 4, 2) := by decide +kernel
theorem dX3_bitsOf_40 : decode cX3_bitsOf 40 = .ok (.goto (-25), 3) := by decide +kernel
theorem dX3_bitsOf_43 : decode cX3_bitsOf 43 = .ok (.lload 4, 2) := by decide +kernel
theorem dX3_bitsOf_45 : decode cX3_bitsOf 45 = .ok (.ldc2_w 289, 3) := by decide +kernel
theorem dX3_bitsOf_48 : decode cX3_bitsOf 48 = .ok (.lmul, 1) := by decide +kernel
theorem dX3_bitsOf_49 : decode cX3_bitsOf 49 = .ok (.dload_n 2, 1) := by decide +kernel
theorem dX3_bitsOf_50 : decode cX3_bitsOf 50 = .ok (.dconst 1, 1) := by decide +kernel
theorem dX3_bitsOf_51 : decode cX3_bitsOf 51 = .ok (.dsub, 1) := by decide +kernel
theorem dX3_bitsOf_52 : decode cX3_bitsOf 52 = .ok (.ldc2_w 291, 3) := by decide +kernel
theorem dX3_bitsOf_55 : decode cX3_bitsOf 55 = .ok (.dmul, 1) := by decide +kernel
theorem dX3_bitsOf_56 : decode cX3_bitsOf 56 = .ok (.d2l, 1) := by decide +kernel
theorem dX3_bitsOf_57 : decode cX3_bitsOf 57 = .ok (.ladd, 1) := by decide +kernel
theorem dX3_bitsOf_58 : decode cX3_bitsOf 58 = .ok (.lreturn, 1) := by decide +kernel
theorem dX3_share_0 : decode cX3_share 0 = .ok (.bipush 40, 2) := by decide +kernel
theorem dX3_share_2 : decode cX3_share 2 = .ok (.aload_n 0, 1) := by decide +kernel
theorem dX3_share_3 : decode cX3_share 3 = .ok (.getfield 10, 3) := by decide +kernel
theorem dX3_share_6 : decode cX3_share 6 = .ok (.invokevirtual 218, 3) := by decide +kernel
theorem dX3_share_9 : decode cX3_share 9 = .ok (.isub, 1) := by decide +kernel
theorem dX3_share_10 : decode cX3_share 10 = .ok (.i2d, 1) := by decide +kernel
theorem dX3_share_11 : decode cX3_share 11 = .ok (.ldc2_w 293, 3) := by decide +kernel
theorem dX3_share_14 : decode cX3_share 14 = .ok (.ddiv, 1) := by decide +kernel
theorem dX3_share_15 : decode cX3_share 15 = .ok (.dreturn, 1) := by decide +kernel
theorem dX3_numberOf_0 : decode cX3_numberOf 0 = .ok (.iload_n 1, 1) := by decide +kernel
theorem dX3_numberOf_1 : decode cX3_numberOf 1 = .ok (.tableswitch 111 0 7 #[47, 55, 63, 71, 79, 87, 95, 103], 47) := by decide +kernel
theorem dX3_numberOf_48 : decode cX3_numberOf 48 = .ok (.aload_n 0, 1) := by decide +kernel
theorem dX3_numberOf_49 : decode cX3_numberOf 49 = .ok (.getfield 10, 3) := by decide +kernel
theorem dX3_numberOf_52 : decode cX3_numberOf 52 = .ok (.invokevirtual 218, 3) := by decide +kernel
theorem dX3_numberOf_55 : decode cX3_numberOf 55 = .ok (.ireturn, 1) := by decide +kernel
theorem dX3_numberOf_56 : decode cX3_numberOf 56 = .ok (.aload_n 0, 1) := by decide +kernel
theorem dX3_numberOf_57 : decode cX3_numberOf 57 = .ok (.getfield 10, 3) := by decide +kernel
theorem dX3_numberOf_60 : decode cX3_numberOf 60 = .ok (.invokevirtual 295, 3) := by decide +kernel
theorem dX3_numberOf_63 : decode cX3_numberOf 63 = .ok (.ireturn, 1) := by decide +kernel
theorem dX3_numberOf_64 : decode cX3_numberOf 64 = .ok (.aload_n 0, 1) := by decide +kernel
theorem dX3_numberOf_65 : decode cX3_numberOf 65 = .ok (.getfield 10, 3) := by decide +kernel
theorem dX3_numberOf_68 : decode cX3_numberOf 68 = .ok (.getfield 157, 3) := by decide +kernel
theorem dX3_numberOf_71 : decode cX3_numberOf 71 = .ok (.ireturn, 1) := by decide +kernel
theorem dX3_numberOf_72 : decode cX3_numberOf 72 = .ok (.aload_n 0, 1) := by decide +kernel
theorem dX3_numberOf_73 : decode cX3_numberOf 73 = .ok (.getfield 10, 3) := by decide +kernel
theorem dX3_numberOf_76 : decode cX3_numberOf 76 = .ok (.getfield 298, 3) := by decide +kernel
theorem dX3_numberOf_79 : decode cX3_numberOf 79 = .ok (.ireturn, 1) := by decide +kernel
theorem dX3_numberOf_80 : decode cX3_numberOf 80 = .ok (.aload_n 0, 1) := by decide +kernel
theorem dX3_numberOf_81 : decode cX3_numberOf 81 = .ok (.getfield 10, 3) := by decide +kernel
theorem dX3_numberOf_84 : decode cX3_numberOf 84 = .ok (.getfield 88, 3) := by decide +kernel
theorem dX3_numberOf_87 : decode cX3_numberOf 87 = .ok (.ireturn, 1) := by decide +kernel
theorem dX3_numberOf_88 : decode cX3_numberOf 88 = .ok (.aload_n 0, 1) := by decide +kernel
theorem dX3_numberOf_89 : decode cX3_numberOf 89 = .ok (.getfield 10, 3) := by decide +kernel
theorem dX3_numberOf_92 : decode cX3_numberOf 92 = .ok (.getfield 80, 3) := by decide +kernel
theorem dX3_numberOf_95 : decode cX3_numberOf 95 = .ok (.ireturn, 1) := by decide +kernel
theorem dX3_numberOf_96 : decode cX3_numberOf 96 = .ok (.aload_n 0, 1) := by decide +kernel
theorem dX3_numberOf_97 : decode cX3_numberOf 97 = .ok (.getfield 10, 3) := by decide +kernel
theorem dX3_numberOf_100 : decode cX3_numberOf 100 = .ok (.invokevirtual 301, 3) := by decide +kernel
theorem dX3_numberOf_103 : decode cX3_numberOf 103 = .ok (.ireturn, 1) := by decide +kernel
theorem dX3_numberOf_104 : decode cX3_numberOf 104 = .ok (.aload_n 0, 1) := by decide +kernel
theorem dX3_numberOf_105 : decode cX3_numberOf 105 = .ok (.getfield 10, 3) := by decide +kernel
theorem dX3_numberOf_108 : decode cX3_numberOf 108 = .ok (.invokevirtual 304, 3) := by decide +kernel
theorem dX3_numberOf_111 : decode cX3_numberOf 111 = .ok (.ireturn, 1) := by decide +kernel
theorem dX3_numberOf_112 : decode cX3_numberOf 112 = .ok (.aload_n 0, 1) := by decide +kernel
theorem dX3_numberOf_113 : decode cX3_numberOf 113 = .ok (.getfield 22, 3) := by decide +kernel
theorem dX3_numberOf_116 : decode cX3_numberOf 116 = .ok (.getfield 223, 3) := by decide +kernel
theorem dX3_numberOf_119 : decode cX3_numberOf 119 = .ok (.ireturn, 1) := by decide +kernel
theorem dX3_addCode_0 : decode cX3_addCode 0 = .ok (.aload_n 0, 1) := by decide +kernel
theorem dX3_addCode_1 : decode cX3_addCode 1 = .ok (.getfield 183, 3) := by decide +kernel
theorem dX3_addCode_4 : decode cX3_addCode 4 = .ok (.ifCond .lt 35, 3) := by decide +kernel
theorem dX3_addCode_7 : decode cX3_addCode 7 = .ok (.aload_n 0, 1) := by decide +kernel
theorem dX3_addCode_8 : decode cX3_addCode 8 = .ok (.getfield 183, 3) := by decide +kernel
theorem dX3_addCode_11 : decode cX3_addCode 11 = .ok (.aload_n 0, 1) := by decide +kernel
theorem dX3_addCode_12 : decode cX3_addCode 12 = .ok (.getfield 34, 3) := by decide +kernel
theorem dX3_addCode_15 : decode cX3_addCode 15 = .ok (.arraylength, 1) := by decide +kernel
theorem dX3_addCode_16 : decode cX3_addCode 16 = .ok (.if_icmp .ge 23, 3) := by decide +kernel
theorem dX3_addCode_19 : decode cX3_addCode 19 = .ok (.aload_n 0, 1) := by decide +kernel
theorem dX3_addCode_20 : decode cX3_addCode 20 = .ok (.getfield 34, 3) := by decide +kernel
theorem dX3_addCode_23 : decode cX3_addCode 23 = .ok (.aload_n 0, 1) := by decide +kernel
theorem dX3_addCode_24 : decode cX3_addCode 24 = .ok (.getfield 183, 3) := by decide +kernel
theorem dX3_addCode_27 : decode cX3_addCode 27 = .ok (.iload_n 1, 1) := by decide +kernel
theorem dX3_addCode_28 : decode cX3_addCode 28 = .ok (.iastore, 1) := by decide +kernel
theorem dX3_addCode_29 : decode cX3_addCode 29 = .ok (.aload_n 0, 1) := by decide +kernel
theorem dX3_addCode_30 : decode cX3_addCode 30 = .ok (.dup, 1) := by decide +kernel
theorem dX3_addCode_31 : decode cX3_addCode 31 = .ok (.getfield 183, 3) := by decide +kernel
theorem dX3_addCode_34 : decode cX3_addCode 34 = .ok (.iconst 1, 1) := by decide +kernel
theorem dX3_addCode_35 : decode cX3_addCode 35 = .ok (.iadd, 1) := by decide +kernel
theorem dX3_addCode_36 : decode cX3_addCode 36 = .ok (.putfield 183, 3) := by decide +kernel
theorem dX3_addCode_39 : decode cX3_addCode 39 = .ok (.return_, 1) := by decide +kernel
theorem dX3_readBuffer_0 : decode cX3_readBuffer 0 = .ok (.aload_n 0, 1) := by decide +kernel
theorem dX3_readBuffer_1 : decode cX3_readBuffer 1 = .ok (.getfield 41, 3) := by decide +kernel
theorem dX3_readBuffer_4 : decode cX3_readBuffer 4 = .ok (.invokevirtual 307, 3) := by decide +kernel
theorem dX3_readBuffer_7 : decode cX3_readBuffer 7 = .ok (.iconst 0, 1) := by decide +kernel
theorem dX3_readBuffer_8 : decode cX3_readBuffer 8 = .ok (.istore_n 1, 1) := by decide +kernel
theorem dX3_readBuffer_9 : decode cX3_readBuffer 9 = .ok (.iload_n 1, 1) := by decide +kernel
theorem dX3_readBuffer_10 : decode cX3_readBuffer 10 = .ok (.aload_n 0, 1) := by decide +kernel
theorem dX3_readBuffer_11 : decode cX3_readBuffer 11 = .ok (.getfield 183, 3) := by decide +kernel
theorem dX3_readBuffer_14 : decode cX3_readBuffer 14 = .ok (.if_icmp .ge 36, 3) := by decide +kernel
theorem dX3_readBuffer_17 : decode cX3_readBuffer 17 = .ok (.iload_n 1, 1) := by decide +kernel
theorem dX3_readBuffer_18 : decode cX3_readBuffer 18 = .ok (.aload_n 0, 1) := by decide +kernel
theorem dX3_readBuffer_19 : decode cX3_readBuffer 19 = .ok (.getfield 34, 3) := by decide +kernel
theorem dX3_readBuffer_22 : decode cX3_readBuffer 22 = .ok (.arraylength, 1) := by decide +kernel
theorem dX3_readBuffer_23 : decode cX3_readBuffer 23 = .ok (.if_icmp .ge 27, 3) := by decide +kernel
theorem dX3_readBuffer_26 : decode cX3_readBuffer 26 = .ok (.aload_n 0, 1) := by decide +kernel
theorem dX3_readBuffer_27 : decode cX3_readBuffer 27 = .ok (.getfield 41, 3) := by decide +kernel
theorem dX3_readBuffer_30 : decode cX3_readBuffer 30 = .ok (.aload_n 0, 1) := by decide +kernel
theorem dX3_readBuffer_31 : decode cX3_readBuffer 31 = .ok (.getfield 34, 3) := by decide +kernel
theorem dX3_readBuffer_34 : decode cX3_readBuffer 34 = .ok (.iload_n 1, 1) := by decide +kernel
theorem dX3_readBuffer_35 : decode cX3_readBuffer 35 = .ok (.iaload, 1) := by decide +kernel
theorem dX3_readBuffer_36 : decode cX3_readBuffer 36 = .ok (.invokevirtual 310, 3) := by decide +kernel
theorem dX3_readBuffer_39 : decode cX3_readBuffer 39 = .ok (.ifCond .ne 5, 3) := by decide +kernel
theorem dX3_readBuffer_42 : decode cX3_readBuffer 42 = .ok (.iload_n 1, 1) := by decide +kernel
theorem dX3_readBuffer_43 : decode cX3_readBuffer 43 = .ok (.ireturn, 1) := by decide +kernel
theorem dX3_readBuffer_44 : decode cX3_readBuffer 44 = .ok (.iinc 1 1, 3) := by decide +kernel
theorem dX3_readBuffer_47 : decode cX3_readBuffer 47 = .ok (.goto (-38), 3) := by decide +kernel
theorem dX3_readBuffer_50 : decode cX3_readBuffer 50 = .ok (.aload_n 0, 1) := by decide +kernel
theorem dX3_readBuffer_51 : decode cX3_readBuffer 51 = .ok (.getfield 183, 3) := by decide +kernel
theorem dX3_readBuffer_54 : decode cX3_readBuffer 54 = .ok (.ireturn, 1) := by decide +kernel
theorem dX3_putPoem_0 : decode cX3_putPoem 0 = .ok (.iconst 0, 1) := by decide +kernel
theorem dX3_putPoem_1 : decode cX3_putPoem 1 = .ok (.istore_n 2, 1) := by decide +kernel
theorem dX3_putPoem_2 : decode cX3_putPoem 2 = .ok (.iload_n 2, 1) := by decide +kernel
theorem dX3_putPoem_3 : decode cX3_putPoem 3 = .ok (.aload_n 0, 1) := by decide +kernel
theorem dX3_putPoem_4 : decode cX3_putPoem 4 = .ok (.getfield 41, 3) := by decide +kernel
theorem dX3_putPoem_7 : decode cX3_putPoem 7 = .ok (.getfield 313, 3) := by decide +kernel
theorem dX3_putPoem_10 : decode cX3_putPoem 10 = .ok (.if_icmp .ge 84, 3) := by decide +kernel
theorem dX3_putPoem_13 : decode cX3_putPoem 13 = .ok (.aload_n 0, 1) := by decide +kernel
theorem dX3_putPoem_14 : decode cX3_putPoem 14 = .ok (.getfield 41, 3) := by decide +kernel
theorem dX3_putPoem_17 : decode cX3_putPoem 17 = .ok (.iload_n 2, 1) := by decide +kernel
theorem dX3_putPoem_18 : decode cX3_putPoem 18 = .ok (.invokevirtual 316, 3) := by decide +kernel
theorem dX3_putPoem_21 : decode cX3_putPoem 21 = .ok (.istore_n 3, 1) := by decide +kernel
theorem dX3_putPoem_22 : decode cX3_putPoem 22 = .ok (.iload_n 1, 1) := by decide +kernel
theorem dX3_putPoem_23 : decode cX3_putPoem 23 = .ok (.aload_n 0, 1) := by decide +kernel
theorem dX3_putPoem_24 : decode cX3_putPoem 24 = .ok (.getfield 41, 3) := by decide +kernel
theorem dX3_putPoem_27 : decode cX3_putPoem 27 = .ok (.iload_n 2, 1) := by decide +kernel
theorem dX3_putPoem_28 : decode cX3_putPoem 28 = .ok (.invokevirtual 319, 3) := by decide +kernel
theorem dX3_putPoem_31 : decode cX3_putPoem 31 = .ok (.invokestatic 72, 3) := by decide +kernel
theorem dX3_putPoem_34 : decode cX3_putPoem 34 = .ok (.istore 4, 2) := by decide +kernel
theorem dX3_putPoem_36 : decode cX3_putPoem 36 = .ok (.aload_n 0, 1) := by decide +kernel
theorem dX3_putPoem_37 : decode cX3_putPoem 37 = .ok (.getfield 10, 3) := by decide +kernel
theorem dX3_putPoem_40 : decode cX3_putPoem 40 = .ok (.iload 4, 2) := by decide +kernel
theorem dX3_putPoem_42 : decode cX3_putPoem 42 = .ok (.invokevirtual 114, 3) := by decide +kernel
theorem dX3_putPoem_45 : decode cX3_putPoem 45 = .ok (.istore 5, 2) := by decide +kernel
theorem dX3_putPoem_47 : decode cX3_putPoem 47 = .ok (.aload_n 0, 1) := by decide +kernel
theorem dX3_putPoem_48 : decode cX3_putPoem 48 = .ok (.getfield 10, 3) := by decide +kernel
theorem dX3_putPoem_51 : decode cX3_putPoem 51 = .ok (.iload_n 3, 1) := by decide +kernel
theorem dX3_putPoem_52 : decode cX3_putPoem 52 = .ok (.invokevirtual 60, 3) := by decide +kernel
theorem dX3_putPoem_55 : decode cX3_putPoem 55 = .ok (.ifCond .eq 39, 3) := by decide +kernel
theorem dX3_putPoem_58 : decode cX3_putPoem 58 = .ok (.aload_n 0, 1) := by decide +kernel
theorem dX3_putPoem_59 : decode cX3_putPoem 59 = .ok (.getfield 10, 3) := by decide +kernel
theorem dX3_putPoem_62 : decode cX3_putPoem 62 = .ok (.iload_n 3, 1) := by decide +kernel
theorem dX3_putPoem_63 : decode cX3_putPoem 63 = .ok (.iload 4, 2) := by decide +kernel
theorem dX3_putPoem_65 : decode cX3_putPoem 65 = .ok (.iload 5, 2) := by decide +kernel
theorem dX3_putPoem_67 : decode cX3_putPoem 67 = .ok (.invokevirtual 76, 3) := by decide +kernel
theorem dX3_putPoem_70 : decode cX3_putPoem 70 = .ok (.ifCond .eq 6, 3) := by decide +kernel
theorem dX3_putPoem_73 : decode cX3_putPoem 73 = .ok (.goto 21, 3) := by decide +kernel
theorem dX3_putPoem_76 : decode cX3_putPoem 76 = .ok (.aload_n 0, 1) := by decide +kernel
theorem dX3_putPoem_77 : decode cX3_putPoem 77 = .ok (.getfield 10, 3) := by decide +kernel
theorem dX3_putPoem_80 : decode cX3_putPoem 80 = .ok (.iload_n 3, 1) := by decide +kernel
theorem dX3_putPoem_81 : decode cX3_putPoem 81 = .ok (.iload 4, 2) := by decide +kernel
theorem dX3_putPoem_83 : decode cX3_putPoem 83 = .ok (.iload 5, 2) := by decide +kernel
theorem dX3_putPoem_85 : decode cX3_putPoem 85 = .ok (.invokevirtual 84, 3) := by decide +kernel
theorem dX3_putPoem_88 : decode cX3_putPoem 88 = .ok (.iinc 2 1, 3) := by decide +kernel
theorem dX3_putPoem_91 : decode cX3_putPoem 91 = .ok (.goto (-89), 3) := by decide +kernel
theorem dX3_putPoem_94 : decode cX3_putPoem 94 = .ok (.aload_n 0, 1) := by decide +kernel
theorem dX3_putPoem_95 : decode cX3_putPoem 95 = .ok (.getfield 10, 3) := by decide +kernel
theorem dX3_putPoem_98 : decode cX3_putPoem 98 = .ok (.dup, 1) := by decide +kernel
theorem dX3_putPoem_99 : decode cX3_putPoem 99 = .ok (.getfield 88, 3) := by decide +kernel
theorem dX3_putPoem_102 : decode cX3_putPoem 102 = .ok (.iload_n 2, 1) := by decide +kernel
theorem dX3_putPoem_103 : decode cX3_putPoem 103 = .ok (.iadd, 1) := by decide +kernel
theorem dX3_putPoem_104 : decode cX3_putPoem 104 = .ok (.putfield 88, 3) := by decide +kernel
theorem dX3_putPoem_107 : decode cX3_putPoem 107 = .ok (.iload_n 2, 1) := by decide +kernel
theorem dX3_putPoem_108 : decode cX3_putPoem 108 = .ok (.ireturn, 1) := by decide +kernel
theorem dX3_textLength_0 : decode cX3_textLength 0 = .ok (.iconst 0, 1) := by decide +kernel
theorem dX3_textLength_1 : decode cX3_textLength 1 = .ok (.istore_n 2, 1) := by decide +kernel
theorem dX3_textLength_2 : decode cX3_textLength 2 = .ok (.iconst 0, 1) := by decide +kernel
theorem dX3_textLength_3 : decode cX3_textLength 3 = .ok (.istore_n 3, 1) := by decide +kernel
theorem dX3_textLength_4 : decode cX3_textLength 4 = .ok (.iload_n 3, 1) := by decide +kernel
theorem dX3_textLength_5 : decode cX3_textLength 5 = .ok (.iconst 4, 1) := by decide +kernel
theorem dX3_textLength_6 : decode cX3_textLength 6 = .ok (.if_icmp .ge 77, 3) := by decide +kernel
theorem dX3_textLength_9 : decode cX3_textLength 9 = .ok (.iload_n 1, 1) := by decide +kernel
theorem dX3_textLength_10 : decode cX3_textLength 10 = .ok (.iload_n 3, 1) := by decide +kernel
theorem dX3_textLength_11 : decode cX3_textLength 11 = .ok (.invokestatic 72, 3) := by decide +kernel
theorem dX3_textLength_14 : decode cX3_textLength 14 = .ok (.istore 4, 2) := by decide +kernel
theorem dX3_textLength_16 : decode cX3_textLength 16 = .ok (.iconst 0, 1) := by decide +kernel
theorem dX3_textLength_17 : decode cX3_textLength 17 = .ok (.istore 5, 2) := by decide +kernel
theorem dX3_textLength_19 : decode cX3_textLength 19 = .ok (.iload 5, 2) := by decide +kernel
theorem dX3_textLength_21 : decode cX3_textLength 21 = .ok (.aload_n 0, 1) := by decide +kernel
theorem dX3_textLength_22 : decode cX3_textLength 22 = .ok (.getfield 10, 3) := by decide +kernel
theorem dX3_textLength_25 : decode cX3_textLength 25 = .ok (.iload 4, 2) := by decide +kernel
theorem dX3_textLength_27 : decode cX3_textLength 27 = .ok (.invokevirtual 114, 3) := by decide +kernel
theorem dX3_textLength_30 : decode cX3_textLength 30 = .ok (.if_icmp .ge 47, 3) := by decide +kernel
theorem dX3_textLength_33 : decode cX3_textLength 33 = .ok (.iload_n 2, 1) := by decide +kernel
theorem dX3_textLength_34 : decode cX3_textLength 34 = .ok (.ifCond .ne 7, 3) := by decide +kernel
theorem dX3_textLength_37 : decode cX3_textLength 37 = .ok (.iconst 0, 1) := by decide +kernel
theorem dX3_textLength_38 : decode cX3_textLength 38 = .ok (.goto 4, 3) := by decide +kernel
theorem dX3_textLength_41 : decode cX3_textLength 41 = .ok (.iconst 1, 1) := by decide +kernel
theorem dX3_textLength_42 : decode cX3_textLength 42 = .ok (.istore 6, 2) := by decide +kernel
theorem dX3_textLength_44 : decode cX3_textLength 44 = .ok (.iload_n 2, 1) := by decide +kernel
theorem dX3_textLength_45 : decode cX3_textLength 45 = .ok (.iload 6, 2) := by decide +kernel
theorem dX3_textLength_47 : decode cX3_textLength 47 = .ok (.aload_n 0, 1) := by decide +kernel
theorem dX3_textLength_48 : decode cX3_textLength 48 = .ok (.getfield 10, 3) := by decide +kernel
theorem dX3_textLength_51 : decode cX3_textLength 51 = .ok (.iload 4, 2) := by decide +kernel
theorem dX3_textLength_53 : decode cX3_textLength 53 = .ok (.iload 5, 2) := by decide +kernel
theorem dX3_textLength_55 : decode cX3_textLength 55 = .ok (.invokevirtual 238, 3) := by decide +kernel
theorem dX3_textLength_58 : decode cX3_textLength 58 = .ok (.bipush 10, 2) := by decide +kernel
theorem dX3_textLength_60 : decode cX3_textLength 60 = .ok (.if_icmp .ge 7, 3) := by decide +kernel
theorem dX3_textLength_63 : decode cX3_textLength 63 = .ok (.iconst 1, 1) := by decide +kernel
theorem dX3_textLength_64 : decode cX3_textLength 64 = .ok (.goto 4, 3) := by decide +kernel
theorem dX3_textLength_67 : decode cX3_textLength 67 = .ok (.iconst 2, 1) := by decide +kernel
theorem dX3_textLength_68 : decode cX3_textLength 68 = .ok (.iadd, 1) := by decide +kernel
theorem dX3_textLength_69 : decode cX3_textLength 69 = .ok (.iadd, 1) := by decide +kernel
theorem dX3_textLength_70 : decode cX3_textLength 70 = .ok (.istore_n 2, 1) := by decide +kernel
theorem dX3_textLength_71 : decode cX3_textLength 71 = .ok (.iinc 5 1, 3) := by decide +kernel
theorem dX3_textLength_74 : decode cX3_textLength 74 = .ok (.goto (-55), 3) := by decide +kernel
theorem dX3_textLength_77 : decode cX3_textLength 77 = .ok (.iinc 3 1, 3) := by decide +kernel
theorem dX3_textLength_80 : decode cX3_textLength 80 = .ok (.goto (-76), 3) := by decide +kernel
theorem dX3_textLength_83 : decode cX3_textLength 83 = .ok (.iload_n 2, 1) := by decide +kernel
theorem dX3_textLength_84 : decode cX3_textLength 84 = .ok (.ireturn, 1) := by decide +kernel
theorem dX3_addLine_0 : decode cX3_addLine 0 = .ok (.iconst 0, 1) := by decide +kernel
theorem dX3_addLine_1 : decode cX3_addLine 1 = .ok (.istore_n 2, 1) := by decide +kernel
theorem dX3_addLine_2 : decode cX3_addLine 2 = .ok (.iload_n 2, 1) := by decide +kernel
theorem dX3_addLine_3 : decode cX3_addLine 3 = .ok (.aload_n 0, 1) := by decide +kernel
theorem dX3_addLine_4 : decode cX3_addLine 4 = .ok (.getfield 10, 3) := by decide +kernel
theorem dX3_addLine_7 : decode cX3_addLine 7 = .ok (.iload_n 1, 1) := by decide +kernel
theorem dX3_addLine_8 : decode cX3_addLine 8 = .ok (.invokevirtual 114, 3) := by decide +kernel
theorem dX3_addLine_11 : decode cX3_addLine 11 = .ok (.if_icmp .ge 48, 3) := by decide +kernel
theorem dX3_addLine_14 : decode cX3_addLine 14 = .ok (.iload_n 2, 1) := by decide +kernel
theorem dX3_addLine_15 : decode cX3_addLine 15 = .ok (.ifCond .le 12, 3) := by decide +kernel
theorem dX3_addLine_18 : decode cX3_addLine 18 = .ok (.aload_n 0, 1) := by decide +kernel
theorem dX3_addLine_19 : decode cX3_addLine 19 = .ok (.bipush 44, 2) := by decide +kernel
theorem dX3_addLine_21 : decode cX3_addLine 21 = .ok (.invokevirtual 188, 3) := by decide +kernel
theorem dX3_addLine_24 : decode cX3_addLine 24 = .ok (.goto 16, 3) := by decide +kernel
theorem dX3_addLine_27 : decode cX3_addLine 27 = .ok (.aload_n 0, 1) := by decide +kernel
theorem dX3_addLine_28 : decode cX3_addLine 28 = .ok (.getfield 183, 3) := by decide +kernel
theorem dX3_addLine_31 : decode cX3_addLine 31 = .ok (.ifCond .le 9, 3) := by decide +kernel
theorem dX3_addLine_34 : decode cX3_addLine 34 = .ok (.aload_n 0, 1) := by decide +kernel
theorem dX3_addLine_35 : decode cX3_addLine 35 = .ok (.bipush 47, 2) := by decide +kernel
theorem dX3_addLine_37 : decode cX3_addLine 37 = .ok (.invokevirtual 188, 3) := by decide +kernel
theorem dX3_addLine_40 : decode cX3_addLine 40 = .ok (.aload_n 0, 1) := by decide +kernel
theorem dX3_addLine_41 : decode cX3_addLine 41 = .ok (.aload_n 0, 1) := by decide +kernel
theorem dX3_addLine_42 : decode cX3_addLine 42 = .ok (.getfield 10, 3) := by decide +kernel
theorem dX3_addLine_45 : decode cX3_addLine 45 = .ok (.iload_n 1, 1) := by decide +kernel
theorem dX3_addLine_46 : decode cX3_addLine 46 = .ok (.iload_n 2, 1) := by decide +kernel
theorem dX3_addLine_47 : decode cX3_addLine 47 = .ok (.invokevirtual 238, 3) := by decide +kernel
theorem dX3_addLine_50 : decode cX3_addLine 50 = .ok (.invokevirtual 322, 3) := by decide +kernel
theorem dX3_addLine_53 : decode cX3_addLine 53 = .ok (.iinc 2 1, 3) := by decide +kernel
theorem dX3_addLine_56 : decode cX3_addLine 56 = .ok (.goto (-54), 3) := by decide +kernel
theorem dX3_addLine_59 : decode cX3_addLine 59 = .ok (.return_, 1) := by decide +kernel
theorem dX3_addNumber_0 : decode cX3_addNumber 0 = .ok (.iload_n 1, 1) := by decide +kernel
theorem dX3_addNumber_1 : decode cX3_addNumber 1 = .ok (.bipush 10, 2) := by decide +kernel
theorem dX3_addNumber_3 : decode cX3_addNumber 3 = .ok (.if_icmp .lt 14, 3) := by decide +kernel
theorem dX3_addNumber_6 : decode cX3_addNumber 6 = .ok (.aload_n 0, 1) := by decide +kernel
theorem dX3_addNumber_7 : decode cX3_addNumber 7 = .ok (.bipush 48, 2) := by decide +kernel
theorem dX3_addNumber_9 : decode cX3_addNumber 9 = .ok (.iload_n 1, 1) := by decide +kernel
theorem dX3_addNumber_10 : decode cX3_addNumber 10 = .ok (.bipush 10, 2) := by decide +kernel
theorem dX3_addNumber_12 : decode cX3_addNumber 12 = .ok (.idiv, 1) := by decide +kernel
theorem dX3_addNumber_13 : decode cX3_addNumber 13 = .ok (.iadd, 1) := by decide +kernel
theorem dX3_addNumber_14 : decode cX3_addNumber 14 = .ok (.invokevirtual 188, 3) := by decide +kernel
theorem dX3_addNumber_17 : decode cX3_addNumber 17 = .ok (.aload_n 0, 1) := by decide +kernel
theorem dX3_addNumber_18 : decode cX3_addNumber 18 = .ok (.bipush 48, 2) := by decide +kernel
theorem dX3_addNumber_20 : decode cX3_addNumber 20 = .ok (.iload_n 1, 1) := by decide +kernel
theorem dX3_addNumber_21 : decode cX3_addNumber 21 = .ok (.bipush 10, 2) := by decide +kernel
theorem dX3_addNumber_23 : decode cX3_addNumber 23 = .ok (.irem, 1) := by decide +kernel
theorem dX3_addNumber_24 : decode cX3_addNumber 24 = .ok (.iadd, 1) := by decide +kernel
theorem dX3_addNumber_25 : decode cX3_addNumber 25 = .ok (.invokevirtual 188, 3) := by decide +kernel
theorem dX3_addNumber_28 : decode cX3_addNumber 28 = .ok (.return_, 1) := by decide +kernel
theorem dX3_isWord_0 : decode cX3_isWord 0 = .ok (.iload_n 0, 1) := by decide +kernel
theorem dX3_isWord_1 : decode cX3_isWord 1 = .ok (.ifCond .lt 13, 3) := by decide +kernel
theorem dX3_isWord_4 : decode cX3_isWord 4 = .ok (.iload_n 0, 1) := by decide +kernel
theorem dX3_isWord_5 : decode cX3_isWord 5 = .ok (.bipush 40, 2) := by decide +kernel
theorem dX3_isWord_7 : decode cX3_isWord 7 = .ok (.if_icmp .ge 7, 3) := by decide +kernel
theorem dX3_isWord_10 : decode cX3_isWord 10 = .ok (.iconst 1, 1) := by decide +kernel
theorem dX3_isWord_11 : decode cX3_isWord 11 = .ok (.goto 4, 3) := by decide +kernel
theorem dX3_isWord_14 : decode cX3_isWord 14 = .ok (.iconst 0, 1) := by decide +kernel
theorem dX3_isWord_15 : decode cX3_isWord 15 = .ok (.ireturn, 1) := by decide +kernel
theorem dX3_isDoor_0 : decode cX3_isDoor 0 = .ok (.iload_n 0, 1) := by decide +kernel
theorem dX3_isDoor_1 : decode cX3_isDoor 1 = .ok (.ifCond .lt 12, 3) := by decide +kernel
theorem dX3_isDoor_4 : decode cX3_isDoor 4 = .ok (.iload_n 0, 1) := by decide +kernel
theorem dX3_isDoor_5 : decode cX3_isDoor 5 = .ok (.iconst 4, 1) := by decide +kernel
theorem dX3_isDoor_6 : decode cX3_isDoor 6 = .ok (.if_icmp .ge 7, 3) := by decide +kernel
theorem dX3_isDoor_9 : decode cX3_isDoor 9 = .ok (.iconst 1, 1) := by decide +kernel
theorem dX3_isDoor_10 : decode cX3_isDoor 10 = .ok (.goto 4, 3) := by decide +kernel
theorem dX3_isDoor_13 : decode cX3_isDoor 13 = .ok (.iconst 0, 1) := by decide +kernel
theorem dX3_isDoor_14 : decode cX3_isDoor 14 = .ok (.ireturn, 1) := by decide +kernel
theorem dX3_isLine_0 : decode cX3_isLine 0 = .ok (.iload_n 0, 1) := by decide +kernel
theorem dX3_isLine_1 : decode cX3_isLine 1 = .ok (.invokestatic 117, 3) := by decide +kernel
theorem dX3_isLine_4 : decode cX3_isLine 4 = .ok (.ifCond .eq 16, 3) := by decide +kernel
theorem dX3_isLine_7 : decode cX3_isLine 7 = .ok (.iload_n 1, 1) := by decide +kernel
theorem dX3_isLine_8 : decode cX3_isLine 8 = .ok (.ifCond .lt 12, 3) := by decide +kernel
theorem dX3_isLine_11 : decode cX3_isLine 11 = .ok (.iload_n 1, 1) := by decide +kernel
theorem dX3_isLine_12 : decode cX3_isLine 12 = .ok (.iconst 4, 1) := by decide +kernel
theorem dX3_isLine_13 : decode cX3_isLine 13 = .ok (.if_icmp .ge 7, 3) := by decide +kernel
theorem dX3_isLine_16 : decode cX3_isLine 16 = .ok (.iconst 1, 1) := by decide +kernel
theorem dX3_isLine_17 : decode cX3_isLine 17 = .ok (.goto 4, 3) := by decide +kernel
theorem dX3_isLine_20 : decode cX3_isLine 20 = .ok (.iconst 0, 1) := by decide +kernel
theorem dX3_isLine_21 : decode cX3_isLine 21 = .ok (.ireturn, 1) := by decide +kernel
theorem dX3_isPlaceToPut_0 : decode cX3_isPlaceToPut 0 = .ok (.iload_n 1, 1) := by decide +kernel
theorem dX3_isPlaceToPut_1 : decode cX3_isPlaceToPut 1 = .ok (.iload_n 2, 1) := by decide +kernel
theorem dX3_isPlaceToPut_2 : decode cX3_isPlaceToPut 2 = .ok (.invokestatic 106, 3) := by decide +kernel
theorem dX3_isPlaceToPut_5 : decode cX3_isPlaceToPut 5 = .ok (.ifCond .eq 27, 3) := by decide +kernel
theorem dX3_isPlaceToPut_8 : decode cX3_isPlaceToPut 8 = .ok (.iload_n 3, 1) := by decide +kernel
theorem dX3_isPlaceToPut_9 : decode cX3_isPlaceToPut 9 = .ok (.ifCond .lt 23, 3) := by decide +kernel
theorem dX3_isPlaceToPut_12 : decode cX3_isPlaceToPut 12 = .ok (.iload_n 3, 1) := by decide +kernel
theorem dX3_isPlaceToPut_13 : decode cX3_isPlaceToPut 13 = .ok (.aload_n 0, 1) := by decide +kernel
theorem dX3_isPlaceToPut_14 : decode cX3_isPlaceToPut 14 = .ok (.getfield 10, 3) := by decide +kernel
theorem dX3_isPlaceToPut_17 : decode cX3_isPlaceToPut 17 = .ok (.iload_n 1, 1) := by decide +kernel
theorem dX3_isPlaceToPut_18 : decode cX3_isPlaceToPut 18 = .ok (.iload_n 2, 1) := by decide +kernel
theorem dX3_isPlaceToPut_19 : decode cX3_isPlaceToPut 19 = .ok (.invokestatic 72, 3) := by decide +kernel
theorem dX3_isPlaceToPut_22 : decode cX3_isPlaceToPut 22 = .ok (.invokevirtual 114, 3) := by decide +kernel
theorem dX3_isPlaceToPut_25 : decode cX3_isPlaceToPut 25 = .ok (.if_icmp .gt 7, 3) := by decide +kernel
theorem dX3_isPlaceToPut_28 : decode cX3_isPlaceToPut 28 = .ok (.iconst 1, 1) := by decide +kernel
theorem dX3_isPlaceToPut_29 : decode cX3_isPlaceToPut 29 = .ok (.goto 4, 3) := by decide +kernel
theorem dX3_isPlaceToPut_32 : decode cX3_isPlaceToPut 32 = .ok (.iconst 0, 1) := by decide +kernel
theorem dX3_isPlaceToPut_33 : decode cX3_isPlaceToPut 33 = .ok (.ireturn, 1) := by decide +kernel
theorem dX3_isNights_0 : decode cX3_isNights 0 = .ok (.iload_n 0, 1) := by decide +kernel
theorem dX3_isNights_1 : decode cX3_isNights 1 = .ok (.iconst 1, 1) := by decide +kernel
theorem dX3_isNights_2 : decode cX3_isNights 2 = .ok (.if_icmp .lt 13, 3) := by decide +kernel
theorem dX3_isNights_5 : decode cX3_isNights 5 = .ok (.iload_n 0, 1) := by decide +kernel
theorem dX3_isNights_6 : decode cX3_isNights 6 = .ok (.bipush 20, 2) := by decide +kernel
theorem dX3_isNights_8 : decode cX3_isNights 8 = .ok (.if_icmp .gt 7, 3) := by decide +kernel
theorem dX3_isNights_11 : decode cX3_isNights 11 = .ok (.iconst 1, 1) := by decide +kernel
theorem dX3_isNights_12 : decode cX3_isNights 12 = .ok (.goto 4, 3) := by decide +kernel
theorem dX3_isNights_15 : decode cX3_isNights 15 = .ok (.iconst 0, 1) := by decide +kernel
theorem dX3_isNights_16 : decode cX3_isNights 16 = .ok (.ireturn, 1) := by decide +kernel
theorem dX3_isSetting_0 : decode cX3_isSetting 0 = .ok (.iload_n 0, 1) := by decide +kernel
theorem dX3_isSetting_1 : decode cX3_isSetting 1 = .ok (.ifCond .lt 12, 3) := by decide +kernel
theorem dX3_isSetting_4 : decode cX3_isSetting 4 = .ok (.iload_n 0, 1) := by decide +kernel
theorem dX3_isSetting_5 : decode cX3_isSetting 5 = .ok (.iconst 3, 1) := by decide +kernel
theorem dX3_isSetting_6 : decode cX3_isSetting 6 = .ok (.if_icmp .ge 7, 3) := by decide +kernel
theorem dX3_isSetting_9 : decode cX3_isSetting 9 = .ok (.iconst 1, 1) := by decide +kernel
theorem dX3_isSetting_10 : decode cX3_isSetting 10 = .ok (.goto 4, 3) := by decide +kernel
theorem dX3_isSetting_13 : decode cX3_isSetting 13 = .ok (.iconst 0, 1) := by decide +kernel
theorem dX3_isSetting_14 : decode cX3_isSetting 14 = .ok (.ireturn, 1) := by decide +kernel
theorem dX3_isSlot_0 : decode cX3_isSlot 0 = .ok (.iload_n 0, 1) := by decide +kernel
theorem dX3_isSlot_1 : decode cX3_isSlot 1 = .ok (.ifCond .lt 12, 3) := by decide +kernel
theorem dX3_isSlot_4 : decode cX3_isSlot 4 = .ok (.iload_n 0, 1) := by decide +kernel
theorem dX3_isSlot_5 : decode cX3_isSlot 5 = .ok (.iconst 2, 1) := by decide +kernel
theorem dX3_isSlot_6 : decode cX3_isSlot 6 = .ok (.if_icmp .ge 7, 3) := by decide +kernel
theorem dX3_isSlot_9 : decode cX3_isSlot 9 = .ok (.iconst 1, 1) := by decide +kernel
theorem dX3_isSlot_10 : decode cX3_isSlot 10 = .ok (.goto 4, 3) := by decide +kernel
theorem dX3_isSlot_13 : decode cX3_isSlot 13 = .ok (.iconst 0, 1) := by decide +kernel
theorem dX3_isSlot_14 : decode cX3_isSlot 14 = .ok (.ireturn, 1) := by decide +kernel
theorem dX3_greatestOf_0 : decode cX3_greatestOf 0 = .ok (.iload_n 0, 1) := by decide +kernel
theorem dX3_greatestOf_1 : decode cX3_greatestOf 1 = .ok (.lookupswitch 33 #[(0, 27), (1, 29)], 27) := by decide +kernel
theorem dX3_greatestOf_28 : decode cX3_greatestOf 28 = .ok (.iconst 1, 1) := by decide +kernel
theorem dX3_greatestOf_29 : decode cX3_greatestOf 29 = .ok (.ireturn, 1) := by decide +kernel
theorem dX3_greatestOf_30 : decode cX3_greatestOf 30 = .ok (.sipush 200, 3) := by decide +kernel
theorem dX3_greatestOf_33 : decode cX3_greatestOf 33 = .ok (.ireturn, 1) := by decide +kernel
theorem dX3_greatestOf_34 : decode cX3_greatestOf 34 = .ok (.bipush 9, 2) := by decide +kernel
theorem dX3_greatestOf_36 : decode cX3_greatestOf 36 = .ok (.ireturn, 1) := by decide +kernel
theorem dX3_kindOf_0 : decode cX3_kindOf 0 = .ok (.iload_n 0, 1) := by decide +kernel
theorem dX3_kindOf_1 : decode cX3_kindOf 1 = .ok (.iconst 4, 1) := by decide +kernel
theorem dX3_kindOf_2 : decode cX3_kindOf 2 = .ok (.irem, 1) := by decide +kernel
theorem dX3_kindOf_3 : decode cX3_kindOf 3 = .ok (.ireturn, 1) := by decide +kernel
theorem dX3_endingOf_0 : decode cX3_endingOf 0 = .ok (.iload_n 0, 1) := by decide +kernel
theorem dX3_endingOf_1 : decode cX3_endingOf 1 = .ok (.iconst 4, 1) := by decide +kernel
theorem dX3_endingOf_2 : decode cX3_endingOf 2 = .ok (.idiv, 1) := by decide +kernel
theorem dX3_endingOf_3 : decode cX3_endingOf 3 = .ok (.iconst 5, 1) := by decide +kernel
theorem dX3_endingOf_4 : decode cX3_endingOf 4 = .ok (.irem, 1) := by decide +kernel
theorem dX3_endingOf_5 : decode cX3_endingOf 5 = .ok (.ireturn, 1) := by decide +kernel
theorem dX3_beatsOf_0 : decode cX3_beatsOf 0 = .ok (.iload_n 0, 1) := by decide +kernel
theorem dX3_beatsOf_1 : decode cX3_beatsOf 1 = .ok (.iconst 3, 1) := by decide +kernel
theorem dX3_beatsOf_2 : decode cX3_beatsOf 2 = .ok (.irem, 1) := by decide +kernel
theorem dX3_beatsOf_3 : decode cX3_beatsOf 3 = .ok (.iconst 1, 1) := by decide +kernel
theorem dX3_beatsOf_4 : decode cX3_beatsOf 4 = .ok (.iadd, 1) := by decide +kernel
theorem dX3_beatsOf_5 : decode cX3_beatsOf 5 = .ok (.ireturn, 1) := by decide +kernel
theorem dX3_clash_0 : decode cX3_clash 0 = .ok (.iload_n 0, 1) := by decide +kernel
theorem dX3_clash_1 : decode cX3_clash 1 = .ok (.invokestatic 325, 3) := by decide +kernel
theorem dX3_clash_4 : decode cX3_clash 4 = .ok (.iload_n 1, 1) := by decide +kernel
theorem dX3_clash_5 : decode cX3_clash 5 = .ok (.invokestatic 325, 3) := by decide +kernel
theorem dX3_clash_8 : decode cX3_clash 8 = .ok (.if_icmp .ne 15, 3) := by decide +kernel
theorem dX3_clash_11 : decode cX3_clash 11 = .ok (.iload_n 0, 1) := by decide +kernel
theorem dX3_clash_12 : decode cX3_clash 12 = .ok (.invokestatic 325, 3) := by decide +kernel
theorem dX3_clash_15 : decode cX3_clash 15 = .ok (.iconst 2, 1) := by decide +kernel
theorem dX3_clash_16 : decode cX3_clash 16 = .ok (.if_icmp .eq 7, 3) := by decide +kernel
theorem dX3_clash_19 : decode cX3_clash 19 = .ok (.iconst 1, 1) := by decide +kernel
theorem dX3_clash_20 : decode cX3_clash 20 = .ok (.goto 4, 3) := by decide +kernel
theorem dX3_clash_23 : decode cX3_clash 23 = .ok (.iconst 0, 1) := by decide +kernel
theorem dX3_clash_24 : decode cX3_clash 24 = .ok (.ireturn, 1) := by decide +kernel
theorem dX3_lineNumber_0 : decode cX3_lineNumber 0 = .ok (.iload_n 0, 1) := by decide +kernel
theorem dX3_lineNumber_1 : decode cX3_lineNumber 1 = .ok (.iconst 4, 1) := by decide +kernel
theorem dX3_lineNumber_2 : decode cX3_lineNumber 2 = .ok (.imul, 1) := by decide +kernel
theorem dX3_lineNumber_3 : decode cX3_lineNumber 3 = .ok (.iload_n 1, 1) := by decide +kernel
theorem dX3_lineNumber_4 : decode cX3_lineNumber 4 = .ok (.iadd, 1) := by decide +kernel
theorem dX3_lineNumber_5 : decode cX3_lineNumber 5 = .ok (.ireturn, 1) := by decide +kernel
theorem dX3_lineCode_0 : decode cX3_lineCode 0 = .ok (.iload_n 0, 1) := by decide +kernel
theorem dX3_lineCode_1 : decode cX3_lineCode 1 = .ok (.iconst (-1), 1) := by decide +kernel
theorem dX3_lineCode_2 : decode cX3_lineCode 2 = .ok (.if_icmp .ne 7, 3) := by decide +kernel
theorem dX3_lineCode_5 : decode cX3_lineCode 5 = .ok (.iconst (-1), 1) := by decide +kernel
theorem dX3_lineCode_6 : decode cX3_lineCode 6 = .ok (.goto 13, 3) := by decide +kernel
theorem dX3_lineCode_9 : decode cX3_lineCode 9 = .ok (.bipush 10, 2) := by decide +kernel
theorem dX3_lineCode_11 : decode cX3_lineCode 11 = .ok (.iload_n 0, 1) := by decide +kernel
theorem dX3_lineCode_12 : decode cX3_lineCode 12 = .ok (.iconst 4, 1) := by decide +kernel
theorem dX3_lineCode_13 : decode cX3_lineCode 13 = .ok (.idiv, 1) := by decide +kernel
theorem dX3_lineCode_14 : decode cX3_lineCode 14 = .ok (.imul, 1) := by decide +kernel
theorem dX3_lineCode_15 : decode cX3_lineCode 15 = .ok (.iload_n 0, 1) := by decide +kernel
theorem dX3_lineCode_16 : decode cX3_lineCode 16 = .ok (.iconst 4, 1) := by decide +kernel
theorem dX3_lineCode_17 : decode cX3_lineCode 17 = .ok (.irem, 1) := by decide +kernel
theorem dX3_lineCode_18 : decode cX3_lineCode 18 = .ok (.iadd, 1) := by decide +kernel
theorem dX3_lineCode_19 : decode cX3_lineCode 19 = .ok (.ireturn, 1) := by decide +kernel
theorem dX3_cell_0 : decode cX3_cell 0 = .ok (.iload_n 1, 1) := by decide +kernel
theorem dX3_cell_1 : decode cX3_cell 1 = .ok (.ifCond .lt 15, 3) := by decide +kernel
theorem dX3_cell_4 : decode cX3_cell 4 = .ok (.iload_n 1, 1) := by decide +kernel
theorem dX3_cell_5 : decode cX3_cell 5 = .ok (.aload_n 0, 1) := by decide +kernel
theorem dX3_cell_6 : decode cX3_cell 6 = .ok (.arraylength, 1) := by decide +kernel
theorem dX3_cell_7 : decode cX3_cell 7 = .ok (.if_icmp .ge 9, 3) := by decide +kernel
theorem dX3_cell_10 : decode cX3_cell 10 = .ok (.aload_n 0, 1) := by decide +kernel
theorem dX3_cell_11 : decode cX3_cell 11 = .ok (.iload_n 1, 1) := by decide +kernel
theorem dX3_cell_12 : decode cX3_cell 12 = .ok (.iaload, 1) := by decide +kernel
theorem dX3_cell_13 : decode cX3_cell 13 = .ok (.goto 4, 3) := by decide +kernel
theorem dX3_cell_16 : decode cX3_cell 16 = .ok (.iconst (-1), 1) := by decide +kernel
theorem dX3_cell_17 : decode cX3_cell 17 = .ok (.ireturn, 1) := by decide +kernel
theorem dX3_setCell_0 : decode cX3_setCell 0 = .ok (.iload_n 1, 1) := by decide +kernel
theorem dX3_setCell_1 : decode cX3_setCell 1 = .ok (.ifCond .lt 13, 3) := by decide +kernel
theorem dX3_setCell_4 : decode cX3_setCell 4 = .ok (.iload_n 1, 1) := by decide +kernel
theorem dX3_setCell_5 : decode cX3_setCell 5 = .ok (.aload_n 0, 1) := by decide +kernel
theorem dX3_setCell_6 : decode cX3_setCell 6 = .ok (.arraylength, 1) := by decide +kernel
theorem dX3_setCell_7 : decode cX3_setCell 7 = .ok (.if_icmp .ge 7, 3) := by decide +kernel
theorem dX3_setCell_10 : decode cX3_setCell 10 = .ok (.aload_n 0, 1) := by decide +kernel
theorem dX3_setCell_11 : decode cX3_setCell 11 = .ok (.iload_n 1, 1) := by decide +kernel
theorem dX3_setCell_12 : decode cX3_setCell 12 = .ok (.iload_n 2, 1) := by decide +kernel
theorem dX3_setCell_13 : decode cX3_setCell 13 = .ok (.iastore, 1) := by decide +kernel
theorem dX3_setCell_14 : decode cX3_setCell 14 = .ok (.return_, 1) := by decide +kernel
theorem dX3_copyRow_0 : decode cX3_copyRow 0 = .ok (.iconst 0, 1) := by decide +kernel
theorem dX3_copyRow_1 : decode cX3_copyRow 1 = .ok (.istore_n 2, 1) := by decide +kernel
theorem dX3_copyRow_2 : decode cX3_copyRow 2 = .ok (.iload_n 2, 1) := by decide +kernel
theorem dX3_copyRow_3 : decode cX3_copyRow 3 = .ok (.aload_n 0, 1) := by decide +kernel
theorem dX3_copyRow_4 : decode cX3_copyRow 4 = .ok (.arraylength, 1) := by decide +kernel
theorem dX3_copyRow_5 : decode cX3_copyRow 5 = .ok (.if_icmp .ge 21, 3) := by decide +kernel
theorem dX3_copyRow_8 : decode cX3_copyRow 8 = .ok (.iload_n 2, 1) := by decide +kernel
theorem dX3_copyRow_9 : decode cX3_copyRow 9 = .ok (.aload_n 1, 1) := by decide +kernel
theorem dX3_copyRow_10 : decode cX3_copyRow 10 = .ok (.arraylength, 1) := by decide +kernel
theorem dX3_copyRow_11 : decode cX3_copyRow 11 = .ok (.if_icmp .ge 15, 3) := by decide +kernel
theorem dX3_copyRow_14 : decode cX3_copyRow 14 = .ok (.aload_n 1, 1) := by decide +kernel
theorem dX3_copyRow_15 : decode cX3_copyRow 15 = .ok (.iload_n 2, 1) := by decide +kernel
theorem dX3_copyRow_16 : decode cX3_copyRow 16 = .ok (.aload_n 0, 1) := by decide +kernel
theorem dX3_copyRow_17 : decode cX3_copyRow 17 = .ok (.iload_n 2, 1) := by decide +kernel
theorem dX3_copyRow_18 : decode cX3_copyRow 18 = .ok (.iaload, 1) := by decide +kernel
theorem dX3_copyRow_19 : decode cX3_copyRow 19 = .ok (.iastore, 1) := by decide +kernel
theorem dX3_copyRow_20 : decode cX3_copyRow 20 = .ok (.iinc 2 1, 3) := by decide +kernel
theorem dX3_copyRow_23 : decode cX3_copyRow 23 = .ok (.goto (-21), 3) := by decide +kernel
theorem dX3_copyRow_26 : decode cX3_copyRow 26 = .ok (.return_, 1) := by decide +kernel
theorem dX3_fillRow_0 : decode cX3_fillRow 0 = .ok (.iconst 0, 1) := by decide +kernel
theorem dX3_fillRow_1 : decode cX3_fillRow 1 = .ok (.istore_n 2, 1) := by decide +kernel
theorem dX3_fillRow_2 : decode cX3_fillRow 2 = .ok (.iload_n 2, 1) := by decide +kernel
theorem dX3_fillRow_3 : decode cX3_fillRow 3 = .ok (.aload_n 0, 1) := by decide +kernel
theorem dX3_fillRow_4 : decode cX3_fillRow 4 = .ok (.arraylength, 1) := by decide +kernel
theorem dX3_fillRow_5 : decode cX3_fillRow 5 = .ok (.if_icmp .ge 13, 3) := by decide +kernel
theorem dX3_fillRow_8 : decode cX3_fillRow 8 = .ok (.aload_n 0, 1) := by decide +kernel
theorem dX3_fillRow_9 : decode cX3_fillRow 9 = .ok (.iload_n 2, 1) := by decide +kernel
theorem dX3_fillRow_10 : decode cX3_fillRow 10 = .ok (.iload_n 1, 1) := by decide +kernel
theorem dX3_fillRow_11 : decode cX3_fillRow 11 = .ok (.iastore, 1) := by decide +kernel
theorem dX3_fillRow_12 : decode cX3_fillRow 12 = .ok (.iinc 2 1, 3) := by decide +kernel
theorem dX3_fillRow_15 : decode cX3_fillRow 15 = .ok (.goto (-13), 3) := by decide +kernel
theorem dX3_fillRow_18 : decode cX3_fillRow 18 = .ok (.return_, 1) := by decide +kernel
theorem dX4_init_0 : decode cX4_init 0 = .ok (.aload_n 0, 1) := by decide +kernel
theorem dX4_init_1 : decode cX4_init 1 = .ok (.invokespecial 1, 3) := by decide +kernel
theorem dX4_init_4 : decode cX4_init 4 = .ok (.aload_n 0, 1) := by decide +kernel
theorem dX4_init_5 : decode cX4_init 5 = .ok (.sipush 182, 3) := by decide +kernel
theorem dX4_init_8 : decode cX4_init 8 = .ok (.newarray .int, 2) := by decide +kernel
theorem dX4_init_10 : decode cX4_init 10 = .ok (.putfield 7, 3) := by decide +kernel
theorem dX4_init_13 : decode cX4_init 13 = .ok (.aload_n 0, 1) := by decide +kernel
theorem dX4_init_14 : decode cX4_init 14 = .ok (.sipush 1092, 3) := by decide +kernel
theorem dX4_init_17 : decode cX4_init 17 = .ok (.newarray .int, 2) := by decide +kernel
theorem dX4_init_19 : decode cX4_init 19 = .ok (.putfield 13, 3) := by decide +kernel
theorem dX4_init_22 : decode cX4_init 22 = .ok (.aload_n 0, 1) := by decide +kernel
theorem dX4_init_23 : decode cX4_init 23 = .ok (.sipush 364, 3) := by decide +kernel
theorem dX4_init_26 : decode cX4_init 26 = .ok (.newarray .int, 2) := by decide +kernel
theorem dX4_init_28 : decode cX4_init 28 = .ok (.putfield 16, 3) := by decide +kernel
theorem dX4_init_31 : decode cX4_init 31 = .ok (.aload_n 0, 1) := by decide +kernel
theorem dX4_init_32 : decode cX4_init 32 = .ok (.iconst 2, 1) := by decide +kernel
theorem dX4_init_33 : decode cX4_init 33 = .ok (.newarray .boolean, 2) := by decide +kernel
theorem dX4_init_35 : decode cX4_init 35 = .ok (.putfield 19, 3) := by decide +kernel
theorem dX4_init_38 : decode cX4_init 38 = .ok (.aload_n 0, 1) := by decide +kernel
theorem dX4_init_39 : decode cX4_init 39 = .ok (.sipush 182, 3) := by decide +kernel
theorem dX4_init_42 : decode cX4_init 42 = .ok (.newarray .int, 2) := by decide +kernel
theorem dX4_init_44 : decode cX4_init 44 = .ok (.putfield 23, 3) := by decide +kernel
theorem dX4_init_47 : decode cX4_init 47 = .ok (.aload_n 0, 1) := by decide +kernel
theorem dX4_init_48 : decode cX4_init 48 = .ok (.bipush 60, 2) := by decide +kernel
theorem dX4_init_50 : decode cX4_init 50 = .ok (.newarray .int, 2) := by decide +kernel
theorem dX4_init_52 : decode cX4_init 52 = .ok (.putfield 26, 3) := by decide +kernel
theorem dX4_init_55 : decode cX4_init 55 = .ok (.aload_n 0, 1) := by decide +kernel
theorem dX4_init_56 : decode cX4_init 56 = .ok (.bipush 24, 2) := by decide +kernel
theorem dX4_init_58 : decode cX4_init 58 = .ok (.newarray .int, 2) := by decide +kernel
theorem dX4_init_60 : decode cX4_init 60 = .ok (.putfield 29, 3) := by decide +kernel
theorem dX4_init_63 : decode cX4_init 63 = .ok (.aload_n 0, 1) := by decide +kernel
theorem dX4_init_64 : decode cX4_init 64 = .ok (.bipush 24, 2) := by decide +kernel
theorem dX4_init_66 : decode cX4_init 66 = .ok (.newarray .int, 2) := by decide +kernel
theorem dX4_init_68 : decode cX4_init 68 = .ok (.putfield 32, 3) := by decide +kernel
theorem dX4_init_71 : decode cX4_init 71 = .ok (.aload_n 0, 1) := by decide +kernel
theorem dX4_init_72 : decode cX4_init 72 = .ok (.bipush 72, 2) := by decide +kernel
theorem dX4_init_74 : decode cX4_init 74 = .ok (.newarray .int, 2) := by decide +kernel
theorem dX4_init_76 : decode cX4_init 76 = .ok (.putfield 35, 3) := by decide +kernel
theorem dX4_init_79 : decode cX4_init 79 = .ok (.aload_n 0, 1) := by decide +kernel
theorem dX4_init_80 : decode cX4_init 80 = .ok (.getfield 7, 3) := by decide +kernel
theorem dX4_init_83 : decode cX4_init 83 = .ok (.sipush 177, 3) := by decide +kernel
theorem dX4_init_86 : decode cX4_init 86 = .ok (.bipush 20, 2) := by decide +kernel
theorem dX4_init_88 : decode cX4_init 88 = .ok (.iastore, 1) := by decide +kernel
theorem dX4_init_89 : decode cX4_init 89 = .ok (.aload_n 0, 1) := by decide +kernel
theorem dX4_init_90 : decode cX4_init 90 = .ok (.getfield 7, 3) := by decide +kernel
theorem dX4_init_93 : decode cX4_init 93 = .ok (.sipush 178, 3) := by decide +kernel
theorem dX4_init_96 : decode cX4_init 96 = .ok (.iconst 1, 1) := by decide +kernel
theorem dX4_init_97 : decode cX4_init 97 = .ok (.iastore, 1) := by decide +kernel
theorem dX4_init_98 : decode cX4_init 98 = .ok (.return_, 1) := by decide +kernel
theorem dX4_thrown_0 : decode cX4_thrown 0 = .ok (.aload_n 0, 1) := by decide +kernel
theorem dX4_thrown_1 : decode cX4_thrown 1 = .ok (.getfield 38, 3) := by decide +kernel
theorem dX4_thrown_4 : decode cX4_thrown 4 = .ok (.ireturn, 1) := by decide +kernel
theorem dX4_fails_0 : decode cX4_fails 0 = .ok (.aload_n 0, 1) := by decide +kernel
theorem dX4_fails_1 : decode cX4_fails 1 = .ok (.iload_n 1, 1) := by decide +kernel
theorem dX4_fails_2 : decode cX4_fails 2 = .ok (.putfield 38, 3) := by decide +kernel
theorem dX4_fails_5 : decode cX4_fails 5 = .ok (.iconst 0, 1) := by decide +kernel
theorem dX4_fails_6 : decode cX4_fails 6 = .ok (.ireturn, 1) := by decide +kernel
theorem dX4_in_0 : decode cX4_in 0 = .ok (.iload_n 0, 1) := by decide +kernel
theorem dX4_in_1 : decode cX4_in 1 = .ok (.iload_n 1, 1) := by decide +kernel
theorem dX4_in_2 : decode cX4_in 2 = .ok (.if_icmp .lt 12, 3) := by decide +kernel
theorem dX4_in_5 : decode cX4_in 5 = .ok (.iload_n 0, 1) := by decide +kernel
theorem dX4_in_6 : decode cX4_in 6 = .ok (.iload_n 2, 1) := by decide +kernel
theorem dX4_in_7 : decode cX4_in 7 = .ok (.if_icmp .gt 7, 3) := by decide +kernel
theorem dX4_in_10 : decode cX4_in 10 = .ok (.iconst 1, 1) := by decide +kernel
theorem dX4_in_11 : decode cX4_in 11 = .ok (.goto 4, 3) := by decide +kernel
theorem dX4_in_14 : decode cX4_in 14 = .ok (.iconst 0, 1) := by decide +kernel
theorem dX4_in_15 : decode cX4_in 15 = .ok (.ireturn, 1) := by decide +kernel
theorem dX4_isWord_0 : decode cX4_isWord 0 = .ok (.iload_n 0, 1) := by decide +kernel
theorem dX4_isWord_1 : decode cX4_isWord 1 = .ok (.iconst 0, 1) := by decide +kernel
theorem dX4_isWord_2 : decode cX4_isWord 2 = .ok (.bipush 39, 2) := by decide +kernel
theorem dX4_isWord_4 : decode cX4_isWord 4 = .ok (.invokestatic 42, 3) := by decide +kernel
theorem dX4_isWord_7 : decode cX4_isWord 7 = .ok (.ireturn, 1) := by decide +kernel
theorem dX4_isDoor_0 : decode cX4_isDoor 0 = .ok (.iload_n 0, 1) := by decide +kernel
theorem dX4_isDoor_1 : decode cX4_isDoor 1 = .ok (.iconst 0, 1) := by decide +kernel
theorem dX4_isDoor_2 : decode cX4_isDoor 2 = .ok (.iconst 3, 1) := by decide +kernel
theorem dX4_isDoor_3 : decode cX4_isDoor 3 = .ok (.invokestatic 42, 3) := by decide +kernel
theorem dX4_isDoor_6 : decode cX4_isDoor 6 = .ok (.ireturn, 1) := by decide +kernel
theorem dX4_isLine_0 : decode cX4_isLine 0 = .ok (.iload_n 0, 1) := by decide +kernel
theorem dX4_isLine_1 : decode cX4_isLine 1 = .ok (.invokestatic 46, 3) := by decide +kernel
theorem dX4_isLine_4 : decode cX4_isLine 4 = .ok (.ifCond .eq 16, 3) := by decide +kernel
theorem dX4_isLine_7 : decode cX4_isLine 7 = .ok (.iload_n 1, 1) := by decide +kernel
theorem dX4_isLine_8 : decode cX4_isLine 8 = .ok (.iconst 0, 1) := by decide +kernel
theorem dX4_isLine_9 : decode cX4_isLine 9 = .ok (.iconst 3, 1) := by decide +kernel
theorem dX4_isLine_10 : decode cX4_isLine 10 = .ok (.invokestatic 42, 3) := by decide +kernel
theorem dX4_isLine_13 : decode cX4_isLine 13 = .ok (.ifCond .eq 7, 3) := by decide +kernel
theorem dX4_isLine_16 : decode cX4_isLine 16 = .ok (.iconst 1, 1) := by decide +kernel
theorem dX4_isLine_17 : decode cX4_isLine 17 = .ok (.goto 4, 3) := by decide +kernel
theorem dX4_isLine_20 : decode cX4_isLine 20 = .ok (.iconst 0, 1) := by decide +kernel
theorem dX4_isLine_21 : decode cX4_isLine 21 = .ok (.ireturn, 1) := by decide +kernel
theorem dX4_save_0 : decode cX4_save 0 = .ok (.aload_n 0, 1) := by decide +kernel
theorem dX4_save_1 : decode cX4_save 1 = .ok (.getfield 50, 3) := by decide +kernel
theorem dX4_save_4 : decode cX4_save 4 = .ok (.bipush 6, 2) := by decide +kernel
theorem dX4_save_6 : decode cX4_save 6 = .ok (.if_icmp .ne 44, 3) := by decide +kernel
theorem dX4_save_9 : decode cX4_save 9 = .ok (.iconst 0, 1) := by decide +kernel
theorem dX4_save_10 : decode cX4_save 10 = .ok (.istore_n 1, 1) := by decide +kernel
theorem dX4_save_11 : decode cX4_save 11 = .ok (.iload_n 1, 1) := by decide +kernel
theorem dX4_save_12 : decode cX4_save 12 = .ok (.sipush 910, 3) := by decide +kernel
theorem dX4_save_15 : decode cX4_save 15 = .ok (.if_icmp .ge 25, 3) := by decide +kernel
theorem dX4_save_18 : decode cX4_save 18 = .ok (.aload_n 0, 1) := by decide +kernel
theorem dX4_save_19 : decode cX4_save 19 = .ok (.getfield 13, 3) := by decide +kernel
theorem dX4_save_22 : decode cX4_save 22 = .ok (.iload_n 1, 1) := by decide +kernel
theorem dX4_save_23 : decode cX4_save 23 = .ok (.aload_n 0, 1) := by decide +kernel
theorem dX4_save_24 : decode cX4_save 24 = .ok (.getfield 13, 3) := by decide +kernel
theorem dX4_save_27 : decode cX4_save 27 = .ok (.iload_n 1, 1) := by decide +kernel
theorem dX4_save_28 : decode cX4_save 28 = .ok (.sipush 182, 3) := by decide +kernel
theorem dX4_save_31 : decode cX4_save 31 = .ok (.iadd, 1) := by decide +kernel
theorem dX4_save_32 : decode cX4_save 32 = .ok (.iaload, 1) := by decide +kernel
theorem dX4_save_33 : decode cX4_save 33 = .ok (.iastore, 1) := by decide +kernel
theorem dX4_save_34 : decode cX4_save 34 = .ok (.iinc 1 1, 3) := by decide +kernel
theorem dX4_save_37 : decode cX4_save 37 = .ok (.goto (-26), 3) := by decide +kernel
theorem dX4_save_40 : decode cX4_save 40 = .ok (.aload_n 0, 1) := by decide +kernel
theorem dX4_save_41 : decode cX4_save 41 = .ok (.dup, 1) := by decide +kernel
theorem dX4_save_42 : decode cX4_save 42 = .ok (.getfield 50, 3) := by decide +kernel
theorem dX4_save_45 : decode cX4_save 45 = .ok (.iconst 1, 1) := by decide +kernel
theorem dX4_save_46 : decode cX4_save 46 = .ok (.isub, 1) := by decide +kernel
theorem dX4_save_47 : decode cX4_save 47 = .ok (.putfield 50, 3) := by decide +kernel
theorem dX4_save_50 : decode cX4_save 50 = .ok (.iconst 0, 1) := by decide +kernel
theorem dX4_save_51 : decode cX4_save 51 = .ok (.istore_n 1, 1) := by decide +kernel
theorem dX4_save_52 : decode cX4_save 52 = .ok (.iload_n 1, 1) := by decide +kernel
theorem dX4_save_53 : decode cX4_save 53 = .ok (.sipush 182, 3) := by decide +kernel
theorem dX4_save_56 : decode cX4_save 56 = .ok (.if_icmp .ge 30, 3) := by decide +kernel
theorem dX4_save_59 : decode cX4_save 59 = .ok (.aload_n 0, 1) := by decide +kernel
theorem dX4_save_60 : decode cX4_save 60 = .ok (.getfield 13, 3) := by decide +kernel
theorem dX4_save_63 : decode cX4_save 63 = .ok (.sipush 182, 3) := by decide +kernel
theorem dX4_save_66 : decode cX4_save 66 = .ok (.aload_n 0, 1) := by decide +kernel
theorem dX4_save_67 : decode cX4_save 67 = .ok (.getfield 50, 3) := by decide +kernel
theorem dX4_save_70 : decode cX4_save 70 = .ok (.imul, 1) := by decide +kernel
theorem dX4_save_71 : decode cX4_save 71 = .ok (.iload_n 1, 1) := by decide +kernel
theorem dX4_save_72 : decode cX4_save 72 = .ok (.iadd, 1) := by decide +kernel
theorem dX4_save_73 : decode cX4_save 73 = .ok (.aload_n 0, 1) := by decide +kernel
theorem dX4_save_74 : decode cX4_save 74 = .ok (.getfield 7, 3) := by decide +kernel
theorem dX4_save_77 : decode cX4_save 77 = .ok (.iload_n 1, 1) := by decide +kernel
theorem dX4_save_78 : decode cX4_save 78 = .ok (.iaload, 1) := by decide +kernel
theorem dX4_save_79 : decode cX4_save 79 = .ok (.iastore, 1) := by decide +kernel
theorem dX4_save_80 : decode cX4_save 80 = .ok (.iinc 1 1, 3) := by decide +kernel
theorem dX4_save_83 : decode cX4_save 83 = .ok (.goto (-31), 3) := by decide +kernel
theorem dX4_save_86 : decode cX4_save 86 = .ok (.aload_n 0, 1) := by decide +kernel
theorem dX4_save_87 : decode cX4_save 87 = .ok (.dup, 1) := by decide +kernel
theorem dX4_save_88 : decode cX4_save 88 = .ok (.getfield 50, 3) := by decide +kernel
theorem dX4_save_91 : decode cX4_save 91 = .ok (.iconst 1, 1) := by decide +kernel
theorem dX4_save_92 : decode cX4_save 92 = .ok (.iadd, 1) := by decide +kernel
theorem dX4_save_93 : decode cX4_save 93 = .ok (.putfield 50, 3) := by decide +kernel
theorem dX4_save_96 : decode cX4_save 96 = .ok (.return_, 1) := by decide +kernel
theorem dX4_putAside_0 : decode cX4_putAside 0 = .ok (.iconst 0, 1) := by decide +kernel
theorem dX4_putAside_1 : decode cX4_putAside 1 = .ok (.istore_n 1, 1) := by decide +kernel
theorem dX4_putAside_2 : decode cX4_putAside 2 = .ok (.iload_n 1, 1) := by decide +kernel
theorem dX4_putAside_3 : decode cX4_putAside 3 = .ok (.sipush 182, 3) := by decide +kernel
theorem dX4_putAside_6 : decode cX4_putAside 6 = .ok (.if_icmp .ge 21, 3) := by decide +kernel
theorem dX4_putAside_9 : decode cX4_putAside 9 = .ok (.aload_n 0, 1) := by decide +kernel
theorem dX4_putAside_10 : decode cX4_putAside 10 = .ok (.getfield 23, 3) := by decide +kernel
theorem dX4_putAside_13 : decode cX4_putAside 13 = .ok (.iload_n 1, 1) := by decide +kernel
theorem dX4_putAside_14 : decode cX4_putAside 14 = .ok (.aload_n 0, 1) := by decide +kernel
theorem dX4_putAside_15 : decode cX4_putAside 15 = .ok (.getfield 7, 3) := by decide +kernel
theorem dX4_putAside_18 : decode cX4_putAside 18 = .ok (.iload_n 1, 1) := by decide +kernel
theorem dX4_putAside_19 : decode cX4_putAside 19 = .ok (.iaload, 1) := by decide +kernel
theorem dX4_putAside_20 : decode cX4_putAside 20 = .ok (.iastore, 1) := by decide +kernel
theorem dX4_putAside_21 : decode cX4_putAside 21 = .ok (.iinc 1 1, 3) := by decide +kernel
theorem dX4_putAside_24 : decode cX4_putAside 24 = .ok (.goto (-22), 3) := by decide +kernel
theorem dX4_putAside_27 : decode cX4_putAside 27 = .ok (.return_, 1) := by decide +kernel
theorem dX4_putBack_0 : decode cX4_putBack 0 = .ok (.iconst 0, 1) := by decide +kernel
theorem dX4_putBack_1 : decode cX4_putBack 1 = .ok (.istore_n 1, 1) := by decide +kernel
theorem dX4_putBack_2 : decode cX4_putBack 2 = .ok (.iload_n 1, 1) := by decide +kernel
theorem dX4_putBack_3 : decode cX4_putBack 3 = .ok (.sipush 182, 3) := by decide +kernel
theorem dX4_putBack_6 : decode cX4_putBack 6 = .ok (.if_icmp .ge 21, 3) := by decide +kernel
theorem dX4_putBack_9 : decode cX4_putBack 9 = .ok (.aload_n 0, 1) := by decide +kernel
theorem dX4_putBack_10 : decode cX4_putBack 10 = .ok (.getfield 7, 3) := by decide +kernel
theorem dX4_putBack_13 : decode cX4_putBack 13 = .ok (.iload_n 1, 1) := by decide +kernel
theorem dX4_putBack_14 : decode cX4_putBack 14 = .ok (.aload_n 0, 1) := by decide +kernel
theorem dX4_putBack_15 : decode cX4_putBack 15 = .ok (.getfield 23, 3) := by decide +kernel
theorem dX4_putBack_18 : decode cX4_putBack 18 = .ok (.iload_n 1, 1) := by decide +kernel
theorem dX4_putBack_19 : decode cX4_putBack 19 = .ok (.iaload, 1) := by decide +kernel
theorem dX4_putBack_20 : decode cX4_putBack 20 = .ok (.iastore, 1) := by decide +kernel
theorem dX4_putBack_21 : decode cX4_putBack 21 = .ok (.iinc 1 1, 3) := by decide +kernel
theorem dX4_putBack_24 : decode cX4_putBack 24 = .ok (.goto (-22), 3) := by decide +kernel
theorem dX4_putBack_27 : decode cX4_putBack 27 = .ok (.return_, 1) := by decide +kernel
theorem dX4_kindOf_0 : decode cX4_kindOf 0 = .ok (.iload_n 0, 1) := by decide +kernel
theorem dX4_kindOf_1 : decode cX4_kindOf 1 = .ok (.iconst 4, 1) := by decide +kernel
theorem dX4_kindOf_2 : decode cX4_kindOf 2 = .ok (.irem, 1) := by decide +kernel
theorem dX4_kindOf_3 : decode cX4_kindOf 3 = .ok (.ireturn, 1) := by decide +kernel
theorem dX4_endingOf_0 : decode cX4_endingOf 0 = .ok (.iload_n 0, 1) := by decide +kernel
theorem dX4_endingOf_1 : decode cX4_endingOf 1 = .ok (.iconst 4, 1) := by decide +kernel
theorem dX4_endingOf_2 : decode cX4_endingOf 2 = .ok (.idiv, 1) := by decide +kernel
theorem dX4_endingOf_3 : decode cX4_endingOf 3 = .ok (.iconst 5, 1) := by decide +kernel
theorem dX4_endingOf_4 : decode cX4_endingOf 4 = .ok (.irem, 1) := by decide +kernel
theorem dX4_endingOf_5 : decode cX4_endingOf 5 = .ok (.ireturn, 1) := by decide +kernel
theorem dX4_beatsOf_0 : decode cX4_beatsOf 0 = .ok (.iload_n 0, 1) := by decide +kernel
theorem dX4_beatsOf_1 : decode cX4_beatsOf 1 = .ok (.iconst 3, 1) := by decide +kernel
theorem dX4_beatsOf_2 : decode cX4_beatsOf 2 = .ok (.irem, 1) := by decide +kernel
theorem dX4_beatsOf_3 : decode cX4_beatsOf 3 = .ok (.iconst 1, 1) := by decide +kernel
theorem dX4_beatsOf_4 : decode cX4_beatsOf 4 = .ok (.iadd, 1) := by decide +kernel
theorem dX4_beatsOf_5 : decode cX4_beatsOf 5 = .ok (.ireturn, 1) := by decide +kernel
theorem dX4_wordAt_0 : decode cX4_wordAt 0 = .ok (.aload_n 0, 1) := by decide +kernel
theorem dX4_wordAt_1 : decode cX4_wordAt 1 = .ok (.getfield 7, 3) := by decide +kernel
theorem dX4_wordAt_4 : decode cX4_wordAt 4 = .ok (.bipush 16, 2) := by decide +kernel
theorem dX4_wordAt_6 : decode cX4_wordAt 6 = .ok (.bipush 6, 2) := by decide +kernel
theorem dX4_wordAt_8 : decode cX4_wordAt 8 = .ok (.iload_n 1, 1) := by decide +kernel
theorem dX4_wordAt_9 : decode cX4_wordAt 9 = .ok (.imul, 1) := by decide +kernel
theorem dX4_wordAt_10 : decode cX4_wordAt 10 = .ok (.iadd, 1) := by decide +kernel
theorem dX4_wordAt_11 : decode cX4_wordAt 11 = .ok (.iload_n 2, 1) := by decide +kernel
theorem dX4_wordAt_12 : decode cX4_wordAt 12 = .ok (.iadd, 1) := by decide +kernel
theorem dX4_wordAt_13 : decode cX4_wordAt 13 = .ok (.iaload, 1) := by decide +kernel
theorem dX4_wordAt_14 : decode cX4_wordAt 14 = .ok (.ireturn, 1) := by decide +kernel
theorem dX4_lastOf_0 : decode cX4_lastOf 0 = .ok (.aload_n 0, 1) := by decide +kernel
theorem dX4_lastOf_1 : decode cX4_lastOf 1 = .ok (.getfield 7, 3) := by decide +kernel
theorem dX4_lastOf_4 : decode cX4_lastOf 4 = .ok (.iconst 0, 1) := by decide +kernel
theorem dX4_lastOf_5 : decode cX4_lastOf 5 = .ok (.iload_n 1, 1) := by decide +kernel
theorem dX4_lastOf_6 : decode cX4_lastOf 6 = .ok (.iadd, 1) := by decide +kernel
theorem dX4_lastOf_7 : decode cX4_lastOf 7 = .ok (.iaload, 1) := by decide +kernel
theorem dX4_lastOf_8 : decode cX4_lastOf 8 = .ok (.ifCond .ne 7, 3) := by decide +kernel
theorem dX4_lastOf_11 : decode cX4_lastOf 11 = .ok (.iconst (-1), 1) := by decide +kernel
theorem dX4_lastOf_12 : decode cX4_lastOf 12 = .ok (.goto 18, 3) := by decide +kernel
theorem dX4_lastOf_15 : decode cX4_lastOf 15 = .ok (.aload_n 0, 1) := by decide +kernel
theorem dX4_lastOf_16 : decode cX4_lastOf 16 = .ok (.iload_n 1, 1) := by decide +kernel
theorem dX4_lastOf_17 : decode cX4_lastOf 17 = .ok (.aload_n 0, 1) := by decide +kernel
theorem dX4_lastOf_18 : decode cX4_lastOf 18 = .ok (.getfield 7, 3) := by decide +kernel
theorem dX4_lastOf_21 : decode cX4_lastOf 21 = .ok (.iconst 0, 1) := by decide +kernel
theorem dX4_lastOf_22 : decode cX4_lastOf 22 = .ok (.iload_n 1, 1) := by decide +kernel
theorem dX4_lastOf_23 : decode cX4_lastOf 23 = .ok (.iadd, 1) := by decide +kernel
theorem dX4_lastOf_24 : decode cX4_lastOf 24 = .ok (.iaload, 1) := by decide +kernel
theorem dX4_lastOf_25 : decode cX4_lastOf 25 = .ok (.iconst 1, 1) := by decide +kernel
theorem dX4_lastOf_26 : decode cX4_lastOf 26 = .ok (.isub, 1) := by decide +kernel
theorem dX4_lastOf_27 : decode cX4_lastOf 27 = .ok (.invokevirtual 53, 3) := by decide +kernel
theorem dX4_lastOf_30 : decode cX4_lastOf 30 = .ok (.ireturn, 1) := by decide +kernel
theorem dX4_lineOfWord_0 : decode cX4_lineOfWord 0 = .ok (.iconst 0, 1) := by decide +kernel
theorem dX4_lineOfWord_1 : decode cX4_lineOfWord 1 = .ok (.istore_n 2, 1) := by decide +kernel
theorem dX4_lineOfWord_2 : decode cX4_lineOfWord 2 = .ok (.iload_n 2, 1) := by decide +kernel
theorem dX4_lineOfWord_3 : decode cX4_lineOfWord 3 = .ok (.bipush 16, 2) := by decide +kernel
theorem dX4_lineOfWord_5 : decode cX4_lineOfWord 5 = .ok (.if_icmp .ge 41, 3) := by decide +kernel
theorem dX4_lineOfWord_8 : decode cX4_lineOfWord 8 = .ok (.iconst 0, 1) := by decide +kernel
theorem dX4_lineOfWord_9 : decode cX4_lineOfWord 9 = .ok (.istore_n 3, 1) := by decide +kernel
theorem dX4_lineOfWord_10 : decode cX4_lineOfWord 10 = .ok (.iload_n 3, 1) := by decide +kernel
theorem dX4_lineOfWord_11 : decode cX4_lineOfWord 11 = .ok (.aload_n 0, 1) := by decide +kernel
theorem dX4_lineOfWord_12 : decode cX4_lineOfWord 12 = .ok (.getfield 7, 3) := by decide +kernel
theorem dX4_lineOfWord_15 : decode cX4_lineOfWord 15 = .ok (.iconst 0, 1) := by decide +kernel
theorem dX4_lineOfWord_16 : decode cX4_lineOfWord 16 = .ok (.iload_n 2, 1) := by decide +kernel
theorem dX4_lineOfWord_17 : decode cX4_lineOfWord 17 = .ok (.iadd, 1) := by decide +kernel
theorem dX4_lineOfWord_18 : decode cX4_lineOfWord 18 = .ok (.iaload, 1) := by decide +kernel
theorem dX4_lineOfWord_19 : decode cX4_lineOfWord 19 = .ok (.if_icmp .ge 21, 3) := by decide +kernel
theorem dX4_lineOfWord_22 : decode cX4_lineOfWord 22 = .ok (.aload_n 0, 1) := by decide +kernel
theorem dX4_lineOfWord_23 : decode cX4_lineOfWord 23 = .ok (.iload_n 2, 1) := by decide +kernel
theorem dX4_lineOfWord_24 : decode cX4_lineOfWord 24 = .ok (.iload_n 3, 1) := by decide +kernel
theorem dX4_lineOfWord_25 : decode cX4_lineOfWord 25 = .ok (.invokevirtual 53, 3) := by decide +kernel
theorem dX4_lineOfWord_28 : decode cX4_lineOfWord 28 = .ok (.iload_n 1, 1) := by decide +kernel
theorem dX4_lineOfWord_29 : decode cX4_lineOfWord 29 = .ok (.if_icmp .ne 5, 3) := by decide +kernel
theorem dX4_lineOfWord_32 : decode cX4_lineOfWord 32 = .ok (.iload_n 2, 1) := by decide +kernel
theorem dX4_lineOfWord_33 : decode cX4_lineOfWord 33 = .ok (.ireturn, 1) := by decide +kernel
theorem dX4_lineOfWord_34 : decode cX4_lineOfWord 34 = .ok (.iinc 3 1, 3) := by decide +kernel
theorem dX4_lineOfWord_37 : decode cX4_lineOfWord 37 = .ok (.goto (-27), 3) := by decide +kernel
theorem dX4_lineOfWord_40 : decode cX4_lineOfWord 40 = .ok (.iinc 2 1, 3) := by decide +kernel
theorem dX4_lineOfWord_43 : decode cX4_lineOfWord 43 = .ok (.goto (-41), 3) := by decide +kernel
theorem dX4_lineOfWord_46 : decode cX4_lineOfWord 46 = .ok (.iconst (-1), 1) := by decide +kernel
theorem dX4_lineOfWord_47 : decode cX4_lineOfWord 47 = .ok (.ireturn, 1) := by decide +kernel
theorem dX4_placeOfWord_0 : decode cX4_placeOfWord 0 = .ok (.aload_n 0, 1) := by decide +kernel
theorem dX4_placeOfWord_1 : decode cX4_placeOfWord 1 = .ok (.iload_n 1, 1) := by decide +kernel
theorem dX4_placeOfWord_2 : decode cX4_placeOfWord 2 = .ok (.invokevirtual 57, 3) := by decide +kernel
theorem dX4_placeOfWord_5 : decode cX4_placeOfWord 5 = .ok (.istore_n 2, 1) := by decide +kernel
theorem dX4_placeOfWord_6 : decode cX4_placeOfWord 6 = .ok (.iconst 0, 1) := by decide +kernel
theorem dX4_placeOfWord_7 : decode cX4_placeOfWord 7 = .ok (.istore_n 3, 1) := by decide +kernel
theorem dX4_placeOfWord_8 : decode cX4_placeOfWord 8 = .ok (.iload_n 2, 1) := by decide +kernel
theorem dX4_placeOfWord_9 : decode cX4_placeOfWord 9 = .ok (.iconst (-1), 1) := by decide +kernel
theorem dX4_placeOfWord_10 : decode cX4_placeOfWord 10 = .ok (.if_icmp .eq 19, 3) := by decide +kernel
theorem dX4_placeOfWord_13 : decode cX4_placeOfWord 13 = .ok (.aload_n 0, 1) := by decide +kernel
theorem dX4_placeOfWord_14 : decode cX4_placeOfWord 14 = .ok (.iload_n 2, 1) := by decide +kernel
theorem dX4_placeOfWord_15 : decode cX4_placeOfWord 15 = .ok (.iload_n 3, 1) := by decide +kernel
theorem dX4_placeOfWord_16 : decode cX4_placeOfWord 16 = .ok (.invokevirtual 53, 3) := by decide +kernel
theorem dX4_placeOfWord_19 : decode cX4_placeOfWord 19 = .ok (.iload_n 1, 1) := by decide +kernel
theorem dX4_placeOfWord_20 : decode cX4_placeOfWord 20 = .ok (.if_icmp .eq 9, 3) := by decide +kernel
theorem dX4_placeOfWord_23 : decode cX4_placeOfWord 23 = .ok (.iinc 3 1, 3) := by decide +kernel
theorem dX4_placeOfWord_26 : decode cX4_placeOfWord 26 = .ok (.goto (-18), 3) := by decide +kernel
theorem dX4_placeOfWord_29 : decode cX4_placeOfWord 29 = .ok (.iload_n 2, 1) := by decide +kernel
theorem dX4_placeOfWord_30 : decode cX4_placeOfWord 30 = .ok (.iconst (-1), 1) := by decide +kernel
theorem dX4_placeOfWord_31 : decode cX4_placeOfWord 31 = .ok (.if_icmp .ne 7, 3) := by decide +kernel
theorem dX4_placeOfWord_34 : decode cX4_placeOfWord 34 = .ok (.iconst (-1), 1) := by decide +kernel
theorem dX4_placeOfWord_35 : decode cX4_placeOfWord 35 = .ok (.goto 4, 3) := by decide +kernel
theorem dX4_placeOfWord_38 : decode cX4_placeOfWord 38 = .ok (.iload_n 3, 1) := by decide +kernel
theorem dX4_placeOfWord_39 : decode cX4_placeOfWord 39 = .ok (.ireturn, 1) := by decide +kernel
theorem dX4_inBag_0 : decode cX4_inBag 0 = .ok (.bipush 40, 2) := by decide +kernel
theorem dX4_inBag_2 : decode cX4_inBag 2 = .ok (.istore_n 1, 1) := by decide +kernel
theorem dX4_inBag_3 : decode cX4_inBag 3 = .ok (.iconst 0, 1) := by decide +kernel
theorem dX4_inBag_4 : decode cX4_inBag 4 = .ok (.istore_n 2, 1) := by decide +kernel
theorem dX4_inBag_5 : decode cX4_inBag 5 = .ok (.iload_n 2, 1) := by decide +kernel
theorem dX4_inBag_6 : decode cX4_inBag 6 = .ok (.bipush 16, 2) := by decide +kernel
theorem dX4_inBag_8 : decode cX4_inBag 8 = .ok (.if_icmp .ge 20, 3) := by decide +kernel
theorem dX4_inBag_11 : decode cX4_inBag 11 = .ok (.iload_n 1, 1) := by decide +kernel
theorem dX4_inBag_12 : decode cX4_inBag 12 = .ok (.aload_n 0, 1) := by decide +kernel
theorem dX4_inBag_13 : decode cX4_inBag 13 = .ok (.getfield 7, 3) := by decide +kernel
theorem dX4_inBag_16 : decode cX4_inBag 16 = .ok (.iconst 0, 1) := by decide +kernel
theorem dX4_inBag_17 : decode cX4_inBag 17 = .ok (.iload_n 2, 1) := by decide +kernel
theorem dX4_inBag_18 : decode cX4_inBag 18 = .ok (.iadd, 1) := by decide +kernel
theorem dX4_inBag_19 : decode cX4_inBag 19 = .ok (.iaload, 1) := by decide +kernel
theorem dX4_inBag_20 : decode cX4_inBag 20 = .ok (.isub, 1) := by decide +kernel
theorem dX4_inBag_21 : decode cX4_inBag 21 = .ok (.istore_n 1, 1) := by decide +kernel
theorem dX4_inBag_22 : decode cX4_inBag 22 = .ok (.iinc 2 1, 3) := by decide +kernel
theorem dX4_inBag_25 : decode cX4_inBag 25 = .ok (.goto (-20), 3) := by decide +kernel
theorem dX4_inBag_28 : decode cX4_inBag 28 = .ok (.iload_n 1, 1) := by decide +kernel
theorem dX4_inBag_29 : decode cX4_inBag 29 = .ok (.ireturn, 1) := by decide +kernel
theorem dX4_endLoans_0 : decode cX4_endLoans 0 = .ok (.aload_n 0, 1) := by decide +kernel
theorem dX4_endLoans_1 : decode cX4_endLoans 1 = .ok (.getfield 7, 3) := by decide +kernel
theorem dX4_endLoans_4 : decode cX4_endLoans 4 = .ok (.bipush 112, 2) := by decide +kernel
theorem dX4_endLoans_6 : decode cX4_endLoans 6 = .ok (.iload_n 1, 1) := by decide +kernel
theorem dX4_endLoans_7 : decode cX4_endLoans 7 = .ok (.iadd, 1) := by decide +kernel
theorem dX4_endLoans_8 : decode cX4_endLoans 8 = .ok (.iconst 0, 1) := by decide +kernel
theorem dX4_endLoans_9 : decode cX4_endLoans 9 = .ok (.iastore, 1) := by decide +kernel
theorem dX4_endLoans_10 : decode cX4_endLoans 10 = .ok (.aload_n 0, 1) := by decide +kernel
theorem dX4_endLoans_11 : decode cX4_endLoans 11 = .ok (.iload_n 1, 1) := by decide +kernel
theorem dX4_endLoans_12 : decode cX4_endLoans 12 = .ok (.invokevirtual 61, 3) := by decide +kernel
theorem dX4_endLoans_15 : decode cX4_endLoans 15 = .ok (.iload_n 2, 1) := by decide +kernel
theorem dX4_endLoans_16 : decode cX4_endLoans 16 = .ok (.if_icmp .eq 54, 3) := by decide +kernel
theorem dX4_endLoans_19 : decode cX4_endLoans 19 = .ok (.iconst 0, 1) := by decide +kernel
theorem dX4_endLoans_20 : decode cX4_endLoans 20 = .ok (.istore_n 3, 1) := by decide +kernel
theorem dX4_endLoans_21 : decode cX4_endLoans 21 = .ok (.iload_n 3, 1) := by decide +kernel
theorem dX4_endLoans_22 : decode cX4_endLoans 22 = .ok (.bipush 16, 2) := by decide +kernel
theorem dX4_endLoans_24 : decode cX4_endLoans 24 = .ok (.if_icmp .ge 46, 3) := by decide +kernel
theorem dX4_endLoans_27 : decode cX4_endLoans 27 = .ok (.aload_n 0, 1) := by decide +kernel
theorem dX4_endLoans_28 : decode cX4_endLoans 28 = .ok (.getfield 7, 3) := by decide +kernel
theorem dX4_endLoans_31 : decode cX4_endLoans 31 = .ok (.bipush 112, 2) := by decide +kernel
theorem dX4_endLoans_33 : decode cX4_endLoans 33 = .ok (.iload_n 3, 1) := by decide +kernel
theorem dX4_endLoans_34 : decode cX4_endLoans 34 = .ok (.iadd, 1) := by decide +kernel
theorem dX4_endLoans_35 : decode cX4_endLoans 35 = .ok (.aload_n 0, 1) := by decide +kernel
theorem dX4_endLoans_36 : decode cX4_endLoans 36 = .ok (.getfield 7, 3) := by decide +kernel
theorem dX4_endLoans_39 : decode cX4_endLoans 39 = .ok (.bipush 112, 2) := by decide +kernel
theorem dX4_endLoans_41 : decode cX4_endLoans 41 = .ok (.iload_n 3, 1) := by decide +kernel
theorem dX4_endLoans_42 : decode cX4_endLoans 42 = .ok (.iadd, 1) := by decide +kernel
theorem dX4_endLoans_43 : decode cX4_endLoans 43 = .ok (.iaload, 1) := by decide +kernel
theorem dX4_endLoans_44 : decode cX4_endLoans 44 = .ok (.iload_n 1, 1) := by decide +kernel
theorem dX4_endLoans_45 : decode cX4_endLoans 45 = .ok (.iconst 1, 1) := by decide +kernel
theorem dX4_endLoans_46 : decode cX4_endLoans 46 = .ok (.iadd, 1) := by decide +kernel
theorem dX4_endLoans_47 : decode cX4_endLoans 47 = .ok (.if_icmp .ne 7, 3) := by decide +kernel
theorem dX4_endLoans_50 : decode cX4_endLoans 50 = .ok (.iconst 0, 1) := by decide +kernel
theorem dX4_endLoans_51 : decode cX4_endLoans 51 = .ok (.goto 12, 3) := by decide +kernel
theorem dX4_endLoans_54 : decode cX4_endLoans 54 = .ok (.aload_n 0, 1) := by decide +kernel
theorem dX4_endLoans_55 : decode cX4_endLoans 55 = .ok (.getfield 7, 3) := by decide +kernel
theorem dX4_endLoans_58 : decode cX4_endLoans 58 = .ok (.bipush 112, 2) := by decide +kernel
theorem dX4_endLoans_60 : decode cX4_endLoans 60 = .ok (.iload_n 3, 1) := by decide +kernel
theorem dX4_endLoans_61 : decode cX4_endLoans 61 = .ok (.iadd, 1) := by decide +kernel
theorem dX4_endLoans_62 : decode cX4_endLoans 62 = .ok (.iaload, 1) := by decide +kernel
theorem dX4_endLoans_63 : decode cX4_endLoans 63 = .ok (.iastore, 1) := by decide +kernel
theorem dX4_endLoans_64 : decode cX4_endLoans 64 = .ok (.iinc 3 1, 3) := by decide +kernel
theorem dX4_endLoans_67 : decode cX4_endLoans 67 = .ok (.goto (-46), 3) := by decide +kernel
theorem dX4_endLoans_70 : decode cX4_endLoans 70 = .ok (.return_, 1) := by decide +kernel
theorem dX4_insert_0 : decode cX4_insert 0 = .ok (.aload_n 0, 1) := by decide +kernel
theorem dX4_insert_1 : decode cX4_insert 1 = .ok (.iload_n 2, 1) := by decide +kernel
theorem dX4_insert_2 : decode cX4_insert 2 = .ok (.invokevirtual 61, 3) := by decide +kernel
theorem dX4_insert_5 : decode cX4_insert 5 = .ok (.istore 4, 2) := by decide +kernel
theorem dX4_insert_7 : decode cX4_insert 7 = .ok (.bipush 16, 2) := by decide +kernel
theorem dX4_insert_9 : decode cX4_insert 9 = .ok (.bipush 6, 2) := by decide +kernel
theorem dX4_insert_11 : decode cX4_insert 11 = .ok (.iload_n 2, 1) := by decide +kernel
theorem dX4_insert_12 : decode cX4_insert 12 = .ok (.imul, 1) := by decide +kernel
theorem dX4_insert_13 : decode cX4_insert 13 = .ok (.iadd, 1) := by decide +kernel
theorem dX4_insert_14 : decode cX4_insert 14 = .ok (.istore 5, 2) := by decide +kernel
theorem dX4_insert_16 : decode cX4_insert 16 = .ok (.aload_n 0, 1) := by decide +kernel
theorem dX4_insert_17 : decode cX4_insert 17 = .ok (.getfield 7, 3) := by decide +kernel
theorem dX4_insert_20 : decode cX4_insert 20 = .ok (.iconst 0, 1) := by decide +kernel
theorem dX4_insert_21 : decode cX4_insert 21 = .ok (.iload_n 2, 1) := by decide +kernel
theorem dX4_insert_22 : decode cX4_insert 22 = .ok (.iadd, 1) := by decide +kernel
theorem dX4_insert_23 : decode cX4_insert 23 = .ok (.iaload, 1) := by decide +kernel
theorem dX4_insert_24 : decode cX4_insert 24 = .ok (.istore 6, 2) := by decide +kernel
theorem dX4_insert_26 : decode cX4_insert 26 = .ok (.iload 6, 2) := by decide +kernel
theorem dX4_insert_28 : decode cX4_insert 28 = .ok (.iload_n 3, 1) := by decide +kernel
theorem dX4_insert_29 : decode cX4_insert 29 = .ok (.if_icmp .le 31, 3) := by decide +kernel
theorem dX4_insert_32 : decode cX4_insert 32 = .ok (.aload_n 0, 1) := by decide +kernel
theorem dX4_insert_33 : decode cX4_insert 33 = .ok (.getfield 7, 3) := by decide +kernel
theorem dX4_insert_36 : decode cX4_insert 36 = .ok (.iload 5, 2) := by decide +kernel
theorem dX4_insert_38 : decode cX4_insert 38 = .ok (.iload 6, 2) := by decide +kernel
theorem dX4_insert_40 : decode cX4_insert 40 = .ok (.iadd, 1) := by decide +kernel
theorem dX4_insert_41 : decode cX4_insert 41 = .ok (.aload_n 0, 1) := by decide +kernel
theorem dX4_insert_42 : decode cX4_insert 42 = .ok (.getfield 7, 3) := by decide +kernel
theorem dX4_insert_45 : decode cX4_insert 45 = .ok (.iload 5, 2) := by decide +kernel
theorem dX4_insert_47 : decode cX4_insert 47 = .ok (.iload 6, 2) := by decide +kernel
theorem dX4_insert_49 : decode cX4_insert 49 = .ok (.iadd, 1) := by decide +kernel
theorem dX4_insert_50 : decode cX4_insert 50 = .ok (.iconst 1, 1) := by decide +kernel
theorem dX4_insert_51 : decode cX4_insert 51 = .ok (.isub, 1) := by decide +kernel
theorem dX4_insert_52 : decode cX4_insert 52 = .ok (.iaload, 1) := by decide +kernel
theorem dX4_insert_53 : decode cX4_insert 53 = .ok (.iastore, 1) := by decide +kernel
theorem dX4_insert_54 : decode cX4_insert 54 = .ok (.iinc 6 (-1), 3) := by decide +kernel
theorem dX4_insert_57 : decode cX4_insert 57 = .ok (.goto (-31), 3) := by decide +kernel
theorem dX4_insert_60 : decode cX4_insert 60 = .ok (.aload_n 0, 1) := by decide +kernel
theorem dX4_insert_61 : decode cX4_insert 61 = .ok (.getfield 7, 3) := by decide +kernel
theorem dX4_insert_64 : decode cX4_insert 64 = .ok (.iload 5, 2) := by decide +kernel
theorem dX4_insert_66 : decode cX4_insert 66 = .ok (.iload_n 3, 1) := by decide +kernel
theorem dX4_insert_67 : decode cX4_insert 67 = .ok (.iadd, 1) := by decide +kernel
theorem dX4_insert_68 : decode cX4_insert 68 = .ok (.iload_n 1, 1) := by decide +kernel
theorem dX4_insert_69 : decode cX4_insert 69 = .ok (.iastore, 1) := by decide +kernel
theorem dX4_insert_70 : decode cX4_insert 70 = .ok (.aload_n 0, 1) := by decide +kernel
theorem dX4_insert_71 : decode cX4_insert 71 = .ok (.getfield 7, 3) := by decide +kernel
theorem dX4_insert_74 : decode cX4_insert 74 = .ok (.iconst 0, 1) := by decide +kernel
theorem dX4_insert_75 : decode cX4_insert 75 = .ok (.iload_n 2, 1) := by decide +kernel
theorem dX4_insert_76 : decode cX4_insert 76 = .ok (.iadd, 1) := by decide +kernel
theorem dX4_insert_77 : decode cX4_insert 77 = .ok (.dup2, 1) := by decide +kernel
theorem dX4_insert_78 : decode cX4_insert 78 = .ok (.iaload, 1) := by decide +kernel
theorem dX4_insert_79 : decode cX4_insert 79 = .ok (.iconst 1, 1) := by decide +kernel
theorem dX4_insert_80 : decode cX4_insert 80 = .ok (.iadd, 1) := by decide +kernel
theorem dX4_insert_81 : decode cX4_insert 81 = .ok (.iastore, 1) := by decide +kernel
theorem dX4_insert_82 : decode cX4_insert 82 = .ok (.aload_n 0, 1) := by decide +kernel
theorem dX4_insert_83 : decode cX4_insert 83 = .ok (.iload_n 2, 1) := by decide +kernel
theorem dX4_insert_84 : decode cX4_insert 84 = .ok (.iload 4, 2) := by decide +kernel
theorem dX4_insert_86 : decode cX4_insert 86 = .ok (.invokevirtual 64, 3) := by decide +kernel
theorem dX4_insert_89 : decode cX4_insert 89 = .ok (.return_, 1) := by decide +kernel
theorem dX4_removeAt_0 : decode cX4_removeAt 0 = .ok (.aload_n 0, 1) := by decide +kernel
theorem dX4_removeAt_1 : decode cX4_removeAt 1 = .ok (.iload_n 1, 1) := by decide +kernel
theorem dX4_removeAt_2 : decode cX4_removeAt 2 = .ok (.invokevirtual 61, 3) := by decide +kernel
theorem dX4_removeAt_5 : decode cX4_removeAt 5 = .ok (.istore_n 3, 1) := by decide +kernel
theorem dX4_removeAt_6 : decode cX4_removeAt 6 = .ok (.bipush 16, 2) := by decide +kernel
theorem dX4_removeAt_8 : decode cX4_removeAt 8 = .ok (.bipush 6, 2) := by decide +kernel
theorem dX4_removeAt_10 : decode cX4_removeAt 10 = .ok (.iload_n 1, 1) := by decide +kernel
theorem dX4_removeAt_11 : decode cX4_removeAt 11 = .ok (.imul, 1) := by decide +kernel
theorem dX4_removeAt_12 : decode cX4_removeAt 12 = .ok (.iadd, 1) := by decide +kernel
theorem dX4_removeAt_13 : decode cX4_removeAt 13 = .ok (.istore 4, 2) := by decide +kernel
theorem dX4_removeAt_15 : decode cX4_removeAt 15 = .ok (.iload_n 2, 1) := by decide +kernel
theorem dX4_removeAt_16 : decode cX4_removeAt 16 = .ok (.istore 5, 2) := by decide +kernel
theorem dX4_removeAt_18 : decode cX4_removeAt 18 = .ok (.iload 5, 2) := by decide +kernel
theorem dX4_removeAt_20 : decode cX4_removeAt 20 = .ok (.iconst 1, 1) := by decide +kernel
theorem dX4_removeAt_21 : decode cX4_removeAt 21 = .ok (.iadd, 1) := by decide +kernel
theorem dX4_removeAt_22 : decode cX4_removeAt 22 = .ok (.aload_n 0, 1) := by decide +kernel
theorem dX4_removeAt_23 : decode cX4_removeAt 23 = .ok (.getfield 7, 3) := by decide +kernel
theorem dX4_removeAt_26 : decode cX4_removeAt 26 = .ok (.iconst 0, 1) := by decide +kernel
theorem dX4_removeAt_27 : decode cX4_removeAt 27 = .ok (.iload_n 1, 1) := by decide +kernel
theorem dX4_removeAt_28 : decode cX4_removeAt 28 = .ok (.iadd, 1) := by decide +kernel
theorem dX4_removeAt_29 : decode cX4_removeAt 29 = .ok (.iaload, 1) := by decide +kernel
theorem dX4_removeAt_30 : decode cX4_removeAt 30 = .ok (.if_icmp .ge 31, 3) := by decide +kernel
theorem dX4_removeAt_33 : decode cX4_removeAt 33 = .ok (.aload_n 0, 1) := by decide +kernel
theorem dX4_removeAt_34 : decode cX4_removeAt 34 = .ok (.getfield 7, 3) := by decide +kernel
theorem dX4_removeAt_37 : decode cX4_removeAt 37 = .ok (.iload 4, 2) := by decide +kernel
theorem dX4_removeAt_39 : decode cX4_removeAt 39 = .ok (.iload 5, 2) := by decide +kernel
theorem dX4_removeAt_41 : decode cX4_removeAt 41 = .ok (.iadd, 1) := by decide +kernel
theorem dX4_removeAt_42 : decode cX4_removeAt 42 = .ok (.aload_n 0, 1) := by decide +kernel
theorem dX4_removeAt_43 : decode cX4_removeAt 43 = .ok (.getfield 7, 3) := by decide +kernel
theorem dX4_removeAt_46 : decode cX4_removeAt 46 = .ok (.iload 4, 2) := by decide +kernel
theorem dX4_removeAt_48 : decode cX4_removeAt 48 = .ok (.iload 5, 2) := by decide +kernel
theorem dX4_removeAt_50 : decode cX4_removeAt 50 = .ok (.iadd, 1) := by decide +kernel
theorem dX4_removeAt_51 : decode cX4_removeAt 51 = .ok (.iconst 1, 1) := by decide +kernel
theorem dX4_removeAt_52 : decode cX4_removeAt 52 = .ok (.iadd, 1) := by decide +kernel
theorem dX4_removeAt_53 : decode cX4_removeAt 53 = .ok (.iaload, 1) := by decide +kernel
theorem dX4_removeAt_54 : decode cX4_removeAt 54 = .ok (.iastore, 1) := by decide +kernel
theorem dX4_removeAt_55 : decode cX4_removeAt 55 = .ok (.iinc 5 1, 3) := by decide +kernel
theorem dX4_removeAt_58 : decode cX4_removeAt 58 = .ok (.goto (-40), 3) := by decide +kernel
theorem dX4_removeAt_61 : decode cX4_removeAt 61 = .ok (.aload_n 0, 1) := by decide +kernel
theorem dX4_removeAt_62 : decode cX4_removeAt 62 = .ok (.getfield 7, 3) := by decide +kernel
theorem dX4_removeAt_65 : decode cX4_removeAt 65 = .ok (.iconst 0, 1) := by decide +kernel
theorem dX4_removeAt_66 : decode cX4_removeAt 66 = .ok (.iload_n 1, 1) := by decide +kernel
theorem dX4_removeAt_67 : decode cX4_removeAt 67 = .ok (.iadd, 1) := by decide +kernel
theorem dX4_removeAt_68 : decode cX4_removeAt 68 = .ok (.dup2, 1) := by decide +kernel
theorem dX4_removeAt_69 : decode cX4_removeAt 69 = .ok (.iaload, 1) := by decide +kernel
theorem dX4_removeAt_70 : decode cX4_removeAt 70 = .ok (.iconst 1, 1) := by decide +kernel
theorem dX4_removeAt_71 : decode cX4_removeAt 71 = .ok (.isub, 1) := by decide +kernel
theorem dX4_removeAt_72 : decode cX4_removeAt 72 = .ok (.iastore, 1) := by decide +kernel
theorem dX4_removeAt_73 : decode cX4_removeAt 73 = .ok (.aload_n 0, 1) := by decide +kernel
theorem dX4_removeAt_74 : decode cX4_removeAt 74 = .ok (.getfield 7, 3) := by decide +kernel
theorem dX4_removeAt_77 : decode cX4_removeAt 77 = .ok (.iload 4, 2) := by decide +kernel
theorem dX4_removeAt_79 : decode cX4_removeAt 79 = .ok (.aload_n 0, 1) := by decide +kernel
theorem dX4_removeAt_80 : decode cX4_removeAt 80 = .ok (.getfield 7, 3) := by decide +kernel
theorem dX4_removeAt_83 : decode cX4_removeAt 83 = .ok (.iconst 0, 1) := by decide +kernel
theorem dX4_removeAt_84 : decode cX4_removeAt 84 = .ok (.iload_n 1, 1) := by decide +kernel
theorem dX4_removeAt_85 : decode cX4_removeAt 85 = .ok (.iadd, 1) := by decide +kernel
theorem dX4_removeAt_86 : decode cX4_removeAt 86 = .ok (.iaload, 1) := by decide +kernel
theorem dX4_removeAt_87 : decode cX4_removeAt 87 = .ok (.iadd, 1) := by decide +kernel
theorem dX4_removeAt_88 : decode cX4_removeAt 88 = .ok (.iconst 0, 1) := by decide +kernel
theorem dX4_removeAt_89 : decode cX4_removeAt 89 = .ok (.iastore, 1) := by decide +kernel
theorem dX4_removeAt_90 : decode cX4_removeAt 90 = .ok (.aload_n 0, 1) := by decide +kernel
theorem dX4_removeAt_91 : decode cX4_removeAt 91 = .ok (.iload_n 1, 1) := by decide +kernel
theorem dX4_removeAt_92 : decode cX4_removeAt 92 = .ok (.iload_n 3, 1) := by decide +kernel
theorem dX4_removeAt_93 : decode cX4_removeAt 93 = .ok (.invokevirtual 64, 3) := by decide +kernel
theorem dX4_removeAt_96 : decode cX4_removeAt 96 = .ok (.return_, 1) := by decide +kernel
theorem dX4_emptyDoor_0 : decode cX4_emptyDoor 0 = .ok (.iconst 0, 1) := by decide +kernel
theorem dX4_emptyDoor_1 : decode cX4_emptyDoor 1 = .ok (.istore_n 2, 1) := by decide +kernel
theorem dX4_emptyDoor_2 : decode cX4_emptyDoor 2 = .ok (.iconst 4, 1) := by decide +kernel
theorem dX4_emptyDoor_3 : decode cX4_emptyDoor 3 = .ok (.iload_n 1, 1) := by decide +kernel
theorem dX4_emptyDoor_4 : decode cX4_emptyDoor 4 = .ok (.imul, 1) := by decide +kernel
theorem dX4_emptyDoor_5 : decode cX4_emptyDoor 5 = .ok (.istore_n 3, 1) := by decide +kernel
theorem dX4_emptyDoor_6 : decode cX4_emptyDoor 6 = .ok (.iload_n 3, 1) := by decide +kernel
theorem dX4_emptyDoor_7 : decode cX4_emptyDoor 7 = .ok (.iconst 4, 1) := by decide +kernel
theorem dX4_emptyDoor_8 : decode cX4_emptyDoor 8 = .ok (.iload_n 1, 1) := by decide +kernel
theorem dX4_emptyDoor_9 : decode cX4_emptyDoor 9 = .ok (.imul, 1) := by decide +kernel
theorem dX4_emptyDoor_10 : decode cX4_emptyDoor 10 = .ok (.iconst 4, 1) := by decide +kernel
theorem dX4_emptyDoor_11 : decode cX4_emptyDoor 11 = .ok (.iadd, 1) := by decide +kernel
theorem dX4_emptyDoor_12 : decode cX4_emptyDoor 12 = .ok (.if_icmp .ge 41, 3) := by decide +kernel
theorem dX4_emptyDoor_15 : decode cX4_emptyDoor 15 = .ok (.aload_n 0, 1) := by decide +kernel
theorem dX4_emptyDoor_16 : decode cX4_emptyDoor 16 = .ok (.getfield 7, 3) := by decide +kernel
theorem dX4_emptyDoor_19 : decode cX4_emptyDoor 19 = .ok (.iconst 0, 1) := by decide +kernel
theorem dX4_emptyDoor_20 : decode cX4_emptyDoor 20 = .ok (.iload_n 3, 1) := by decide +kernel
theorem dX4_emptyDoor_21 : decode cX4_emptyDoor 21 = .ok (.iadd, 1) := by decide +kernel
theorem dX4_emptyDoor_22 : decode cX4_emptyDoor 22 = .ok (.iaload, 1) := by decide +kernel
theorem dX4_emptyDoor_23 : decode cX4_emptyDoor 23 = .ok (.ifCond .le 24, 3) := by decide +kernel
theorem dX4_emptyDoor_26 : decode cX4_emptyDoor 26 = .ok (.aload_n 0, 1) := by decide +kernel
theorem dX4_emptyDoor_27 : decode cX4_emptyDoor 27 = .ok (.iload_n 3, 1) := by decide +kernel
theorem dX4_emptyDoor_28 : decode cX4_emptyDoor 28 = .ok (.aload_n 0, 1) := by decide +kernel
theorem dX4_emptyDoor_29 : decode cX4_emptyDoor 29 = .ok (.getfield 7, 3) := by decide +kernel
theorem dX4_emptyDoor_32 : decode cX4_emptyDoor 32 = .ok (.iconst 0, 1) := by decide +kernel
theorem dX4_emptyDoor_33 : decode cX4_emptyDoor 33 = .ok (.iload_n 3, 1) := by decide +kernel
theorem dX4_emptyDoor_34 : decode cX4_emptyDoor 34 = .ok (.iadd, 1) := by decide +kernel
theorem dX4_emptyDoor_35 : decode cX4_emptyDoor 35 = .ok (.iaload, 1) := by decide +kernel
theorem dX4_emptyDoor_36 : decode cX4_emptyDoor 36 = .ok (.iconst 1, 1) := by decide +kernel
theorem dX4_emptyDoor_37 : decode cX4_emptyDoor 37 = .ok (.isub, 1) := by decide +kernel
theorem dX4_emptyDoor_38 : decode cX4_emptyDoor 38 = .ok (.invokevirtual 68, 3) := by decide +kernel
theorem dX4_emptyDoor_41 : decode cX4_emptyDoor 41 = .ok (.iinc 2 1, 3) := by decide +kernel
theorem dX4_emptyDoor_44 : decode cX4_emptyDoor 44 = .ok (.goto (-29), 3) := by decide +kernel
theorem dX4_emptyDoor_47 : decode cX4_emptyDoor 47 = .ok (.iinc 3 1, 3) := by decide +kernel
theorem dX4_emptyDoor_50 : decode cX4_emptyDoor 50 = .ok (.goto (-44), 3) := by decide +kernel
theorem dX4_emptyDoor_53 : decode cX4_emptyDoor 53 = .ok (.iload_n 2, 1) := by decide +kernel
theorem dX4_emptyDoor_54 : decode cX4_emptyDoor 54 = .ok (.ireturn, 1) := by decide +kernel
theorem dX4_beatsOn_0 : decode cX4_beatsOn 0 = .ok (.iconst 0, 1) := by decide +kernel
theorem dX4_beatsOn_1 : decode cX4_beatsOn 1 = .ok (.istore_n 2, 1) := by decide +kernel
theorem dX4_beatsOn_2 : decode cX4_beatsOn 2 = .ok (.iconst 0, 1) := by decide +kernel
theorem dX4_beatsOn_3 : decode cX4_beatsOn 3 = .ok (.istore_n 3, 1) := by decide +kernel
theorem dX4_beatsOn_4 : decode cX4_beatsOn 4 = .ok (.iload_n 3, 1) := by decide +kernel
theorem dX4_beatsOn_5 : decode cX4_beatsOn 5 = .ok (.aload_n 0, 1) := by decide +kernel
theorem dX4_beatsOn_6 : decode cX4_beatsOn 6 = .ok (.getfield 7, 3) := by decide +kernel
theorem dX4_beatsOn_9 : decode cX4_beatsOn 9 = .ok (.iconst 0, 1) := by decide +kernel
theorem dX4_beatsOn_10 : decode cX4_beatsOn 10 = .ok (.iload_n 1, 1) := by decide +kernel
theorem dX4_beatsOn_11 : decode cX4_beatsOn 11 = .ok (.iadd, 1) := by decide +kernel
theorem dX4_beatsOn_12 : decode cX4_beatsOn 12 = .ok (.iaload, 1) := by decide +kernel
theorem dX4_beatsOn_13 : decode cX4_beatsOn 13 = .ok (.if_icmp .ge 21, 3) := by decide +kernel
theorem dX4_beatsOn_16 : decode cX4_beatsOn 16 = .ok (.iload_n 2, 1) := by decide +kernel
theorem dX4_beatsOn_17 : decode cX4_beatsOn 17 = .ok (.aload_n 0, 1) := by decide +kernel
theorem dX4_beatsOn_18 : decode cX4_beatsOn 18 = .ok (.iload_n 1, 1) := by decide +kernel
theorem dX4_beatsOn_19 : decode cX4_beatsOn 19 = .ok (.iload_n 3, 1) := by decide +kernel
theorem dX4_beatsOn_20 : decode cX4_beatsOn 20 = .ok (.invokevirtual 53, 3) := by decide +kernel
theorem dX4_beatsOn_23 : decode cX4_beatsOn 23 = .ok (.invokestatic 71, 3) := by decide +kernel
theorem dX4_beatsOn_26 : decode cX4_beatsOn 26 = .ok (.iadd, 1) := by decide +kernel
theorem dX4_beatsOn_27 : decode cX4_beatsOn 27 = .ok (.istore_n 2, 1) := by decide +kernel
theorem dX4_beatsOn_28 : decode cX4_beatsOn 28 = .ok (.iinc 3 1, 3) := by decide +kernel
theorem dX4_beatsOn_31 : decode cX4_beatsOn 31 = .ok (.goto (-27), 3) := by decide +kernel
theorem dX4_beatsOn_34 : decode cX4_beatsOn 34 = .ok (.iload_n 2, 1) := by decide +kernel
theorem dX4_beatsOn_35 : decode cX4_beatsOn 35 = .ok (.ireturn, 1) := by decide +kernel
theorem dX4_wordWith_0 : decode cX4_wordWith 0 = .ok (.iload 4, 2) := by decide +kernel
theorem dX4_wordWith_2 : decode cX4_wordWith 2 = .ok (.iload_n 3, 1) := by decide +kernel
theorem dX4_wordWith_3 : decode cX4_wordWith 3 = .ok (.if_icmp .ge 13, 3) := by decide +kernel
theorem dX4_wordWith_6 : decode cX4_wordWith 6 = .ok (.aload_n 0, 1) := by decide +kernel
theorem dX4_wordWith_7 : decode cX4_wordWith 7 = .ok (.iload_n 2, 1) := by decide +kernel
theorem dX4_wordWith_8 : decode cX4_wordWith 8 = .ok (.iload 4, 2) := by decide +kernel
theorem dX4_wordWith_10 : decode cX4_wordWith 10 = .ok (.invokevirtual 53, 3) := by decide +kernel
theorem dX4_wordWith_13 : decode cX4_wordWith 13 = .ok (.goto 22, 3) := by decide +kernel
theorem dX4_wordWith_16 : decode cX4_wordWith 16 = .ok (.iload 4, 2) := by decide +kernel
theorem dX4_wordWith_18 : decode cX4_wordWith 18 = .ok (.iload_n 3, 1) := by decide +kernel
theorem dX4_wordWith_19 : decode cX4_wordWith 19 = .ok (.if_icmp .ne 7, 3) := by decide +kernel
theorem dX4_wordWith_22 : decode cX4_wordWith 22 = .ok (.iload_n 1, 1) := by decide +kernel
theorem dX4_wordWith_23 : decode cX4_wordWith 23 = .ok (.goto 12, 3) := by decide +kernel
theorem dX4_wordWith_26 : decode cX4_wordWith 26 = .ok (.aload_n 0, 1) := by decide +kernel
theorem dX4_wordWith_27 : decode cX4_wordWith 27 = .ok (.iload_n 2, 1) := by decide +kernel
theorem dX4_wordWith_28 : decode cX4_wordWith 28 = .ok (.iload 4, 2) := by decide +kernel
theorem dX4_wordWith_30 : decode cX4_wordWith 30 = .ok (.iconst 1, 1) := by decide +kernel
theorem dX4_wordWith_31 : decode cX4_wordWith 31 = .ok (.isub, 1) := by decide +kernel
theorem dX4_wordWith_32 : decode cX4_wordWith 32 = .ok (.invokevirtual 53, 3) := by decide +kernel
theorem dX4_wordWith_35 : decode cX4_wordWith 35 = .ok (.ireturn, 1) := by decide +kernel
theorem dX4_clash_0 : decode cX4_clash 0 = .ok (.iload_n 0, 1) := by decide +kernel
theorem dX4_clash_1 : decode cX4_clash 1 = .ok (.invokestatic 74, 3) := by decide +kernel
theorem dX4_clash_4 : decode cX4_clash 4 = .ok (.iload_n 1, 1) := by decide +kernel
theorem dX4_clash_5 : decode cX4_clash 5 = .ok (.invokestatic 74, 3) := by decide +kernel
theorem dX4_clash_8 : decode cX4_clash 8 = .ok (.if_icmp .ne 15, 3) := by decide +kernel
theorem dX4_clash_11 : decode cX4_clash 11 = .ok (.iload_n 0, 1) := by decide +kernel
theorem dX4_clash_12 : decode cX4_clash 12 = .ok (.invokestatic 74, 3) := by decide +kernel
theorem dX4_clash_15 : decode cX4_clash 15 = .ok (.iconst 2, 1) := by decide +kernel
theorem dX4_clash_16 : decode cX4_clash 16 = .ok (.if_icmp .eq 7, 3) := by decide +kernel
theorem dX4_clash_19 : decode cX4_clash 19 = .ok (.iconst 1, 1) := by decide +kernel
theorem dX4_clash_20 : decode cX4_clash 20 = .ok (.goto 4, 3) := by decide +kernel
theorem dX4_clash_23 : decode cX4_clash 23 = .ok (.iconst 0, 1) := by decide +kernel
theorem dX4_clash_24 : decode cX4_clash 24 = .ok (.ireturn, 1) := by decide +kernel
theorem dX4_reason_0 : decode cX4_reason 0 = .ok (.aload_n 0, 1) := by decide +kernel
theorem dX4_reason_1 : decode cX4_reason 1 = .ok (.getfield 7, 3) := by decide +kernel
theorem dX4_reason_4 : decode cX4_reason 4 = .ok (.iconst 0, 1) := by decide +kernel
theorem dX4_reason_5 : decode cX4_reason 5 = .ok (.iload_n 2, 1) := by decide +kernel
theorem dX4_reason_6 : decode cX4_reason 6 = .ok (.iadd, 1) := by decide +kernel
theorem dX4_reason_7 : decode cX4_reason 7 = .ok (.iaload, 1) := by decide +kernel
theorem dX4_reason_8 : decode cX4_reason 8 = .ok (.istore 4, 2) := by decide +kernel
theorem dX4_reason_10 : decode cX4_reason 10 = .ok (.iload 4, 2) := by decide +kernel
theorem dX4_reason_12 : decode cX4_reason 12 = .ok (.bipush 6, 2) := by decide +kernel
theorem dX4_reason_14 : decode cX4_reason 14 = .ok (.if_icmp .ne 5, 3) := by decide +kernel
theorem dX4_reason_17 : decode cX4_reason 17 = .ok (.iconst 1, 1) := by decide +kernel
theorem dX4_reason_18 : decode cX4_reason 18 = .ok (.ireturn, 1) := by decide +kernel
theorem dX4_reason_19 : decode cX4_reason 19 = .ok (.aload_n 0, 1) := by decide +kernel
theorem dX4_reason_20 : decode cX4_reason 20 = .ok (.iload_n 2, 1) := by decide +kernel
theorem dX4_reason_21 : decode cX4_reason 21 = .ok (.invokevirtual 77, 3) := by decide +kernel
theorem dX4_reason_24 : decode cX4_reason 24 = .ok (.iload_n 1, 1) := by decide +kernel
theorem dX4_reason_25 : decode cX4_reason 25 = .ok (.invokestatic 71, 3) := by decide +kernel
theorem dX4_reason_28 : decode cX4_reason 28 = .ok (.iadd, 1) := by decide +kernel
theorem dX4_reason_29 : decode cX4_reason 29 = .ok (.bipush 12, 2) := by decide +kernel
theorem dX4_reason_31 : decode cX4_reason 31 = .ok (.if_icmp .le 5, 3) := by decide +kernel
theorem dX4_reason_34 : decode cX4_reason 34 = .ok (.iconst 2, 1) := by decide +kernel
theorem dX4_reason_35 : decode cX4_reason 35 = .ok (.ireturn, 1) := by decide +kernel
theorem dX4_reason_36 : decode cX4_reason 36 = .ok (.iconst 0, 1) := by decide +kernel
theorem dX4_reason_37 : decode cX4_reason 37 = .ok (.istore 5, 2) := by decide +kernel
theorem dX4_reason_39 : decode cX4_reason 39 = .ok (.iload 5, 2) := by decide +kernel
theorem dX4_reason_41 : decode cX4_reason 41 = .ok (.iload 4, 2) := by decide +kernel
theorem dX4_reason_43 : decode cX4_reason 43 = .ok (.if_icmp .ge 37, 3) := by decide +kernel
theorem dX4_reason_46 : decode cX4_reason 46 = .ok (.aload_n 0, 1) := by decide +kernel
theorem dX4_reason_47 : decode cX4_reason 47 = .ok (.iload_n 1, 1) := by decide +kernel
theorem dX4_reason_48 : decode cX4_reason 48 = .ok (.iload_n 2, 1) := by decide +kernel
theorem dX4_reason_49 : decode cX4_reason 49 = .ok (.iload_n 3, 1) := by decide +kernel
theorem dX4_reason_50 : decode cX4_reason 50 = .ok (.iload 5, 2) := by decide +kernel
theorem dX4_reason_52 : decode cX4_reason 52 = .ok (.invokevirtual 80, 3) := by decide +kernel
theorem dX4_reason_55 : decode cX4_reason 55 = .ok (.aload_n 0, 1) := by decide +kernel
theorem dX4_reason_56 : decode cX4_reason 56 = .ok (.iload_n 1, 1) := by decide +kernel
theorem dX4_reason_57 : decode cX4_reason 57 = .ok (.iload_n 2, 1) := by decide +kernel
theorem dX4_reason_58 : decode cX4_reason 58 = .ok (.iload_n 3, 1) := by decide +kernel
theorem dX4_reason_59 : decode cX4_reason 59 = .ok (.iload 5, 2) := by decide +kernel
theorem dX4_reason_61 : decode cX4_reason 61 = .ok (.iconst 1, 1) := by decide +kernel
theorem dX4_reason_62 : decode cX4_reason 62 = .ok (.iadd, 1) := by decide +kernel
theorem dX4_reason_63 : decode cX4_reason 63 = .ok (.invokevirtual 80, 3) := by decide +kernel
theorem dX4_reason_66 : decode cX4_reason 66 = .ok (.invokestatic 84, 3) := by decide +kernel
theorem dX4_reason_69 : decode cX4_reason 69 = .ok (.ifCond .eq 5, 3) := by decide +kernel
theorem dX4_reason_72 : decode cX4_reason 72 = .ok (.iconst 3, 1) := by decide +kernel
theorem dX4_reason_73 : decode cX4_reason 73 = .ok (.ireturn, 1) := by decide +kernel
theorem dX4_reason_74 : decode cX4_reason 74 = .ok (.iinc 5 1, 3) := by decide +kernel
theorem dX4_reason_77 : decode cX4_reason 77 = .ok (.goto (-38), 3) := by decide +kernel
theorem dX4_reason_80 : decode cX4_reason 80 = .ok (.iload_n 3, 1) := by decide +kernel
theorem dX4_reason_81 : decode cX4_reason 81 = .ok (.ifCond .eq 9, 3) := by decide +kernel
theorem dX4_reason_84 : decode cX4_reason 84 = .ok (.iload_n 3, 1) := by decide +kernel
theorem dX4_reason_85 : decode cX4_reason 85 = .ok (.iload 4, 2) := by decide +kernel
theorem dX4_reason_87 : decode cX4_reason 87 = .ok (.if_icmp .ne 7, 3) := by decide +kernel
theorem dX4_reason_90 : decode cX4_reason 90 = .ok (.iconst 1, 1) := by decide +kernel
theorem dX4_reason_91 : decode cX4_reason 91 = .ok (.goto 4, 3) := by decide +kernel
theorem dX4_reason_94 : decode cX4_reason 94 = .ok (.iconst 0, 1) := by decide +kernel
theorem dX4_reason_95 : decode cX4_reason 95 = .ok (.istore 5, 2) := by decide +kernel
theorem dX4_reason_97 : decode cX4_reason 97 = .ok (.aload_n 0, 1) := by decide +kernel
theorem dX4_reason_98 : decode cX4_reason 98 = .ok (.getfield 7, 3) := by decide +kernel
theorem dX4_reason_101 : decode cX4_reason 101 = .ok (.sipush 176, 3) := by decide +kernel
theorem dX4_reason_104 : decode cX4_reason 104 = .ok (.iaload, 1) := by decide +kernel
theorem dX4_reason_105 : decode cX4_reason 105 = .ok (.iconst 1, 1) := by decide +kernel
theorem dX4_reason_106 : decode cX4_reason 106 = .ok (.if_icmp .ne 20, 3) := by decide +kernel
theorem dX4_reason_109 : decode cX4_reason 109 = .ok (.iload_n 1, 1) := by decide +kernel
theorem dX4_reason_110 : decode cX4_reason 110 = .ok (.invokestatic 74, 3) := by decide +kernel
theorem dX4_reason_113 : decode cX4_reason 113 = .ok (.iconst 3, 1) := by decide +kernel
theorem dX4_reason_114 : decode cX4_reason 114 = .ok (.if_icmp .ne 12, 3) := by decide +kernel
theorem dX4_reason_117 : decode cX4_reason 117 = .ok (.iload 5, 2) := by decide +kernel
theorem dX4_reason_119 : decode cX4_reason 119 = .ok (.ifCond .eq 7, 3) := by decide +kernel
theorem dX4_reason_122 : decode cX4_reason 122 = .ok (.iconst 4, 1) := by decide +kernel
theorem dX4_reason_123 : decode cX4_reason 123 = .ok (.goto 4, 3) := by decide +kernel
theorem dX4_reason_126 : decode cX4_reason 126 = .ok (.iconst 0, 1) := by decide +kernel
theorem dX4_reason_127 : decode cX4_reason 127 = .ok (.ireturn, 1) := by decide +kernel
theorem dX4_hasKind_0 : decode cX4_hasKind 0 = .ok (.iconst 0, 1) := by decide +kernel
theorem dX4_hasKind_1 : decode cX4_hasKind 1 = .ok (.istore_n 3, 1) := by decide +kernel
theorem dX4_hasKind_2 : decode cX4_hasKind 2 = .ok (.iconst 0, 1) := by decide +kernel
theorem dX4_hasKind_3 : decode cX4_hasKind 3 = .ok (.istore 4, 2) := by decide +kernel
theorem dX4_hasKind_5 : decode cX4_hasKind 5 = .ok (.iload 4, 2) := by decide +kernel
theorem dX4_hasKind_7 : decode cX4_hasKind 7 = .ok (.aload_n 0, 1) := by decide +kernel
theorem dX4_hasKind_8 : decode cX4_hasKind 8 = .ok (.getfield 7, 3) := by decide +kernel
theorem dX4_hasKind_11 : decode cX4_hasKind 11 = .ok (.iconst 0, 1) := by decide +kernel
theorem dX4_hasKind_12 : decode cX4_hasKind 12 = .ok (.iload_n 1, 1) := by decide +kernel
theorem dX4_hasKind_13 : decode cX4_hasKind 13 = .ok (.iadd, 1) := by decide +kernel
theorem dX4_hasKind_14 : decode cX4_hasKind 14 = .ok (.iaload, 1) := by decide +kernel
theorem dX4_hasKind_15 : decode cX4_hasKind 15 = .ok (.if_icmp .ge 33, 3) := by decide +kernel
theorem dX4_hasKind_18 : decode cX4_hasKind 18 = .ok (.iload_n 3, 1) := by decide +kernel
theorem dX4_hasKind_19 : decode cX4_hasKind 19 = .ok (.ifCond .ne 17, 3) := by decide +kernel
theorem dX4_hasKind_22 : decode cX4_hasKind 22 = .ok (.aload_n 0, 1) := by decide +kernel
theorem dX4_hasKind_23 : decode cX4_hasKind 23 = .ok (.iload_n 1, 1) := by decide +kernel
theorem dX4_hasKind_24 : decode cX4_hasKind 24 = .ok (.iload 4, 2) := by decide +kernel
theorem dX4_hasKind_26 : decode cX4_hasKind 26 = .ok (.invokevirtual 53, 3) := by decide +kernel
theorem dX4_hasKind_29 : decode cX4_hasKind 29 = .ok (.invokestatic 74, 3) := by decide +kernel
theorem dX4_hasKind_32 : decode cX4_hasKind 32 = .ok (.iload_n 2, 1) := by decide +kernel
theorem dX4_hasKind_33 : decode cX4_hasKind 33 = .ok (.if_icmp .ne 7, 3) := by decide +kernel
theorem dX4_hasKind_36 : decode cX4_hasKind 36 = .ok (.iconst 1, 1) := by decide +kernel
theorem dX4_hasKind_37 : decode cX4_hasKind 37 = .ok (.goto 4, 3) := by decide +kernel
theorem dX4_hasKind_40 : decode cX4_hasKind 40 = .ok (.iconst 0, 1) := by decide +kernel
theorem dX4_hasKind_41 : decode cX4_hasKind 41 = .ok (.istore_n 3, 1) := by decide +kernel
theorem dX4_hasKind_42 : decode cX4_hasKind 42 = .ok (.iinc 4 1, 3) := by decide +kernel
theorem dX4_hasKind_45 : decode cX4_hasKind 45 = .ok (.goto (-40), 3) := by decide +kernel
theorem dX4_hasKind_48 : decode cX4_hasKind 48 = .ok (.iload_n 3, 1) := by decide +kernel
theorem dX4_hasKind_49 : decode cX4_hasKind 49 = .ok (.ireturn, 1) := by decide +kernel
theorem dX4_lineWorth_0 : decode cX4_lineWorth 0 = .ok (.aload_n 0, 1) := by decide +kernel
theorem dX4_lineWorth_1 : decode cX4_lineWorth 1 = .ok (.iload_n 1, 1) := by decide +kernel
theorem dX4_lineWorth_2 : decode cX4_lineWorth 2 = .ok (.invokevirtual 77, 3) := by decide +kernel
theorem dX4_lineWorth_5 : decode cX4_lineWorth 5 = .ok (.istore_n 2, 1) := by decide +kernel
theorem dX4_lineWorth_6 : decode cX4_lineWorth 6 = .ok (.iload_n 2, 1) := by decide +kernel
theorem dX4_lineWorth_7 : decode cX4_lineWorth 7 = .ok (.aload_n 0, 1) := by decide +kernel
theorem dX4_lineWorth_8 : decode cX4_lineWorth 8 = .ok (.iload_n 1, 1) := by decide +kernel
theorem dX4_lineWorth_9 : decode cX4_lineWorth 9 = .ok (.iconst 0, 1) := by decide +kernel
end
section
theorem dX4_lineWorth_10 : decode cX4_lineWorth 10 = .ok (.invokevirtual 88, 3) := by decide +kernel
theorem dX4_lineWorth_13 : decode cX4_lineWorth 13 = .ok (.ifCond .eq 16, 3) := by decide +kernel
theorem dX4_lineWorth_16 : decode cX4_lineWorth 16 = .ok (.aload_n 0, 1) := by decide +kernel
theorem dX4_lineWorth_17 : decode cX4_lineWorth 17 = .ok (.iload_n 1, 1) := by decide +kernel
theorem dX4_lineWorth_18 : decode cX4_lineWorth 18 = .ok (.iconst 1, 1) := by decide +kernel
theorem dX4_lineWorth_19 : decode cX4_lineWorth 19 = .ok (.invokevirtual 88, 3) := by decide +kernel
theorem dX4_lineWorth_22 : decode cX4_lineWorth 22 = .ok (.ifCond .eq 7, 3) := by decide +kernel
theorem dX4_lineWorth_25 : decode cX4_lineWorth 25 = .ok (.iconst 5, 1) := by decide +kernel
theorem dX4_lineWorth_26 : decode cX4_lineWorth 26 = .ok (.goto 4, 3) := by decide +kernel
theorem dX4_lineWorth_29 : decode cX4_lineWorth 29 = .ok (.iconst 0, 1) := by decide +kernel
theorem dX4_lineWorth_30 : decode cX4_lineWorth 30 = .ok (.iadd, 1) := by decide +kernel
theorem dX4_lineWorth_31 : decode cX4_lineWorth 31 = .ok (.istore_n 3, 1) := by decide +kernel
theorem dX4_lineWorth_32 : decode cX4_lineWorth 32 = .ok (.iload_n 3, 1) := by decide +kernel
theorem dX4_lineWorth_33 : decode cX4_lineWorth 33 = .ok (.iload_n 2, 1) := by decide +kernel
theorem dX4_lineWorth_34 : decode cX4_lineWorth 34 = .ok (.bipush 8, 2) := by decide +kernel
theorem dX4_lineWorth_36 : decode cX4_lineWorth 36 = .ok (.if_icmp .ne 7, 3) := by decide +kernel
theorem dX4_lineWorth_39 : decode cX4_lineWorth 39 = .ok (.iconst 3, 1) := by decide +kernel
theorem dX4_lineWorth_40 : decode cX4_lineWorth 40 = .ok (.goto 4, 3) := by decide +kernel
theorem dX4_lineWorth_43 : decode cX4_lineWorth 43 = .ok (.iconst 0, 1) := by decide +kernel
theorem dX4_lineWorth_44 : decode cX4_lineWorth 44 = .ok (.iadd, 1) := by decide +kernel
theorem dX4_lineWorth_45 : decode cX4_lineWorth 45 = .ok (.ireturn, 1) := by decide +kernel
theorem dX4_lineEnding_0 : decode cX4_lineEnding 0 = .ok (.aload_n 0, 1) := by decide +kernel
theorem dX4_lineEnding_1 : decode cX4_lineEnding 1 = .ok (.getfield 7, 3) := by decide +kernel
theorem dX4_lineEnding_4 : decode cX4_lineEnding 4 = .ok (.iconst 0, 1) := by decide +kernel
theorem dX4_lineEnding_5 : decode cX4_lineEnding 5 = .ok (.iload_n 1, 1) := by decide +kernel
theorem dX4_lineEnding_6 : decode cX4_lineEnding 6 = .ok (.iadd, 1) := by decide +kernel
theorem dX4_lineEnding_7 : decode cX4_lineEnding 7 = .ok (.iaload, 1) := by decide +kernel
theorem dX4_lineEnding_8 : decode cX4_lineEnding 8 = .ok (.ifCond .ne 5, 3) := by decide +kernel
theorem dX4_lineEnding_11 : decode cX4_lineEnding 11 = .ok (.iconst (-1), 1) := by decide +kernel
theorem dX4_lineEnding_12 : decode cX4_lineEnding 12 = .ok (.ireturn, 1) := by decide +kernel
theorem dX4_lineEnding_13 : decode cX4_lineEnding 13 = .ok (.aload_n 0, 1) := by decide +kernel
theorem dX4_lineEnding_14 : decode cX4_lineEnding 14 = .ok (.aload_n 0, 1) := by decide +kernel
theorem dX4_lineEnding_15 : decode cX4_lineEnding 15 = .ok (.getfield 7, 3) := by decide +kernel
theorem dX4_lineEnding_18 : decode cX4_lineEnding 18 = .ok (.bipush 112, 2) := by decide +kernel
theorem dX4_lineEnding_20 : decode cX4_lineEnding 20 = .ok (.iload_n 1, 1) := by decide +kernel
theorem dX4_lineEnding_21 : decode cX4_lineEnding 21 = .ok (.iadd, 1) := by decide +kernel
theorem dX4_lineEnding_22 : decode cX4_lineEnding 22 = .ok (.iaload, 1) := by decide +kernel
theorem dX4_lineEnding_23 : decode cX4_lineEnding 23 = .ok (.ifCond .le 17, 3) := by decide +kernel
theorem dX4_lineEnding_26 : decode cX4_lineEnding 26 = .ok (.aload_n 0, 1) := by decide +kernel
theorem dX4_lineEnding_27 : decode cX4_lineEnding 27 = .ok (.getfield 7, 3) := by decide +kernel
theorem dX4_lineEnding_30 : decode cX4_lineEnding 30 = .ok (.bipush 112, 2) := by decide +kernel
theorem dX4_lineEnding_32 : decode cX4_lineEnding 32 = .ok (.iload_n 1, 1) := by decide +kernel
theorem dX4_lineEnding_33 : decode cX4_lineEnding 33 = .ok (.iadd, 1) := by decide +kernel
theorem dX4_lineEnding_34 : decode cX4_lineEnding 34 = .ok (.iaload, 1) := by decide +kernel
theorem dX4_lineEnding_35 : decode cX4_lineEnding 35 = .ok (.iconst 1, 1) := by decide +kernel
theorem dX4_lineEnding_36 : decode cX4_lineEnding 36 = .ok (.isub, 1) := by decide +kernel
theorem dX4_lineEnding_37 : decode cX4_lineEnding 37 = .ok (.goto 4, 3) := by decide +kernel
theorem dX4_lineEnding_40 : decode cX4_lineEnding 40 = .ok (.iload_n 1, 1) := by decide +kernel
theorem dX4_lineEnding_41 : decode cX4_lineEnding 41 = .ok (.invokevirtual 61, 3) := by decide +kernel
theorem dX4_lineEnding_44 : decode cX4_lineEnding 44 = .ok (.invokestatic 91, 3) := by decide +kernel
theorem dX4_lineEnding_47 : decode cX4_lineEnding 47 = .ok (.ireturn, 1) := by decide +kernel
theorem dX4_rhymes_0 : decode cX4_rhymes 0 = .ok (.iconst 0, 1) := by decide +kernel
theorem dX4_rhymes_1 : decode cX4_rhymes 1 = .ok (.istore_n 2, 1) := by decide +kernel
theorem dX4_rhymes_2 : decode cX4_rhymes 2 = .ok (.iload_n 1, 1) := by decide +kernel
theorem dX4_rhymes_3 : decode cX4_rhymes 3 = .ok (.iconst 4, 1) := by decide +kernel
theorem dX4_rhymes_4 : decode cX4_rhymes 4 = .ok (.idiv, 1) := by decide +kernel
theorem dX4_rhymes_5 : decode cX4_rhymes 5 = .ok (.iconst 4, 1) := by decide +kernel
theorem dX4_rhymes_6 : decode cX4_rhymes 6 = .ok (.imul, 1) := by decide +kernel
theorem dX4_rhymes_7 : decode cX4_rhymes 7 = .ok (.istore_n 3, 1) := by decide +kernel
theorem dX4_rhymes_8 : decode cX4_rhymes 8 = .ok (.iload_n 3, 1) := by decide +kernel
theorem dX4_rhymes_9 : decode cX4_rhymes 9 = .ok (.iload_n 1, 1) := by decide +kernel
theorem dX4_rhymes_10 : decode cX4_rhymes 10 = .ok (.iconst 4, 1) := by decide +kernel
theorem dX4_rhymes_11 : decode cX4_rhymes 11 = .ok (.idiv, 1) := by decide +kernel
theorem dX4_rhymes_12 : decode cX4_rhymes 12 = .ok (.iconst 4, 1) := by decide +kernel
theorem dX4_rhymes_13 : decode cX4_rhymes 13 = .ok (.imul, 1) := by decide +kernel
theorem dX4_rhymes_14 : decode cX4_rhymes 14 = .ok (.iconst 4, 1) := by decide +kernel
theorem dX4_rhymes_15 : decode cX4_rhymes 15 = .ok (.iadd, 1) := by decide +kernel
theorem dX4_rhymes_16 : decode cX4_rhymes 16 = .ok (.if_icmp .ge 44, 3) := by decide +kernel
theorem dX4_rhymes_19 : decode cX4_rhymes 19 = .ok (.iload_n 2, 1) := by decide +kernel
theorem dX4_rhymes_20 : decode cX4_rhymes 20 = .ok (.iload_n 3, 1) := by decide +kernel
theorem dX4_rhymes_21 : decode cX4_rhymes 21 = .ok (.iload_n 1, 1) := by decide +kernel
theorem dX4_rhymes_22 : decode cX4_rhymes 22 = .ok (.if_icmp .eq 29, 3) := by decide +kernel
theorem dX4_rhymes_25 : decode cX4_rhymes 25 = .ok (.aload_n 0, 1) := by decide +kernel
theorem dX4_rhymes_26 : decode cX4_rhymes 26 = .ok (.iload_n 1, 1) := by decide +kernel
theorem dX4_rhymes_27 : decode cX4_rhymes 27 = .ok (.invokevirtual 94, 3) := by decide +kernel
theorem dX4_rhymes_30 : decode cX4_rhymes 30 = .ok (.iconst (-1), 1) := by decide +kernel
theorem dX4_rhymes_31 : decode cX4_rhymes 31 = .ok (.if_icmp .eq 20, 3) := by decide +kernel
theorem dX4_rhymes_34 : decode cX4_rhymes 34 = .ok (.aload_n 0, 1) := by decide +kernel
theorem dX4_rhymes_35 : decode cX4_rhymes 35 = .ok (.iload_n 3, 1) := by decide +kernel
theorem dX4_rhymes_36 : decode cX4_rhymes 36 = .ok (.invokevirtual 94, 3) := by decide +kernel
theorem dX4_rhymes_39 : decode cX4_rhymes 39 = .ok (.aload_n 0, 1) := by decide +kernel
theorem dX4_rhymes_40 : decode cX4_rhymes 40 = .ok (.iload_n 1, 1) := by decide +kernel
theorem dX4_rhymes_41 : decode cX4_rhymes 41 = .ok (.invokevirtual 94, 3) := by decide +kernel
theorem dX4_rhymes_44 : decode cX4_rhymes 44 = .ok (.if_icmp .ne 7, 3) := by decide +kernel
theorem dX4_rhymes_47 : decode cX4_rhymes 47 = .ok (.iconst 1, 1) := by decide +kernel
theorem dX4_rhymes_48 : decode cX4_rhymes 48 = .ok (.goto 4, 3) := by decide +kernel
theorem dX4_rhymes_51 : decode cX4_rhymes 51 = .ok (.iconst 0, 1) := by decide +kernel
theorem dX4_rhymes_52 : decode cX4_rhymes 52 = .ok (.iadd, 1) := by decide +kernel
theorem dX4_rhymes_53 : decode cX4_rhymes 53 = .ok (.istore_n 2, 1) := by decide +kernel
theorem dX4_rhymes_54 : decode cX4_rhymes 54 = .ok (.iinc 3 1, 3) := by decide +kernel
theorem dX4_rhymes_57 : decode cX4_rhymes 57 = .ok (.goto (-49), 3) := by decide +kernel
theorem dX4_rhymes_60 : decode cX4_rhymes 60 = .ok (.iload_n 2, 1) := by decide +kernel
theorem dX4_rhymes_61 : decode cX4_rhymes 61 = .ok (.ireturn, 1) := by decide +kernel
theorem dX4_pairs_0 : decode cX4_pairs 0 = .ok (.iconst 0, 1) := by decide +kernel
theorem dX4_pairs_1 : decode cX4_pairs 1 = .ok (.istore_n 2, 1) := by decide +kernel
theorem dX4_pairs_2 : decode cX4_pairs 2 = .ok (.iconst 4, 1) := by decide +kernel
theorem dX4_pairs_3 : decode cX4_pairs 3 = .ok (.iload_n 1, 1) := by decide +kernel
theorem dX4_pairs_4 : decode cX4_pairs 4 = .ok (.imul, 1) := by decide +kernel
theorem dX4_pairs_5 : decode cX4_pairs 5 = .ok (.istore_n 3, 1) := by decide +kernel
theorem dX4_pairs_6 : decode cX4_pairs 6 = .ok (.iload_n 3, 1) := by decide +kernel
theorem dX4_pairs_7 : decode cX4_pairs 7 = .ok (.iconst 4, 1) := by decide +kernel
theorem dX4_pairs_8 : decode cX4_pairs 8 = .ok (.iload_n 1, 1) := by decide +kernel
theorem dX4_pairs_9 : decode cX4_pairs 9 = .ok (.imul, 1) := by decide +kernel
theorem dX4_pairs_10 : decode cX4_pairs 10 = .ok (.iconst 4, 1) := by decide +kernel
theorem dX4_pairs_11 : decode cX4_pairs 11 = .ok (.iadd, 1) := by decide +kernel
theorem dX4_pairs_12 : decode cX4_pairs 12 = .ok (.if_icmp .ge 17, 3) := by decide +kernel
theorem dX4_pairs_15 : decode cX4_pairs 15 = .ok (.iload_n 2, 1) := by decide +kernel
theorem dX4_pairs_16 : decode cX4_pairs 16 = .ok (.aload_n 0, 1) := by decide +kernel
theorem dX4_pairs_17 : decode cX4_pairs 17 = .ok (.iload_n 3, 1) := by decide +kernel
theorem dX4_pairs_18 : decode cX4_pairs 18 = .ok (.invokevirtual 97, 3) := by decide +kernel
theorem dX4_pairs_21 : decode cX4_pairs 21 = .ok (.iadd, 1) := by decide +kernel
theorem dX4_pairs_22 : decode cX4_pairs 22 = .ok (.istore_n 2, 1) := by decide +kernel
theorem dX4_pairs_23 : decode cX4_pairs 23 = .ok (.iinc 3 1, 3) := by decide +kernel
theorem dX4_pairs_26 : decode cX4_pairs 26 = .ok (.goto (-20), 3) := by decide +kernel
theorem dX4_pairs_29 : decode cX4_pairs 29 = .ok (.iload_n 2, 1) := by decide +kernel
theorem dX4_pairs_30 : decode cX4_pairs 30 = .ok (.iconst 2, 1) := by decide +kernel
theorem dX4_pairs_31 : decode cX4_pairs 31 = .ok (.idiv, 1) := by decide +kernel
theorem dX4_pairs_32 : decode cX4_pairs 32 = .ok (.ireturn, 1) := by decide +kernel
theorem dX4_doorWorth_0 : decode cX4_doorWorth 0 = .ok (.iconst 4, 1) := by decide +kernel
theorem dX4_doorWorth_1 : decode cX4_doorWorth 1 = .ok (.aload_n 0, 1) := by decide +kernel
theorem dX4_doorWorth_2 : decode cX4_doorWorth 2 = .ok (.iload_n 1, 1) := by decide +kernel
theorem dX4_doorWorth_3 : decode cX4_doorWorth 3 = .ok (.invokevirtual 100, 3) := by decide +kernel
theorem dX4_doorWorth_6 : decode cX4_doorWorth 6 = .ok (.imul, 1) := by decide +kernel
theorem dX4_doorWorth_7 : decode cX4_doorWorth 7 = .ok (.istore_n 2, 1) := by decide +kernel
theorem dX4_doorWorth_8 : decode cX4_doorWorth 8 = .ok (.iconst 4, 1) := by decide +kernel
theorem dX4_doorWorth_9 : decode cX4_doorWorth 9 = .ok (.iload_n 1, 1) := by decide +kernel
theorem dX4_doorWorth_10 : decode cX4_doorWorth 10 = .ok (.imul, 1) := by decide +kernel
theorem dX4_doorWorth_11 : decode cX4_doorWorth 11 = .ok (.istore_n 3, 1) := by decide +kernel
theorem dX4_doorWorth_12 : decode cX4_doorWorth 12 = .ok (.iload_n 3, 1) := by decide +kernel
theorem dX4_doorWorth_13 : decode cX4_doorWorth 13 = .ok (.iconst 4, 1) := by decide +kernel
theorem dX4_doorWorth_14 : decode cX4_doorWorth 14 = .ok (.iload_n 1, 1) := by decide +kernel
theorem dX4_doorWorth_15 : decode cX4_doorWorth 15 = .ok (.imul, 1) := by decide +kernel
theorem dX4_doorWorth_16 : decode cX4_doorWorth 16 = .ok (.iconst 4, 1) := by decide +kernel
theorem dX4_doorWorth_17 : decode cX4_doorWorth 17 = .ok (.iadd, 1) := by decide +kernel
theorem dX4_doorWorth_18 : decode cX4_doorWorth 18 = .ok (.if_icmp .ge 17, 3) := by decide +kernel
theorem dX4_doorWorth_21 : decode cX4_doorWorth 21 = .ok (.iload_n 2, 1) := by decide +kernel
theorem dX4_doorWorth_22 : decode cX4_doorWorth 22 = .ok (.aload_n 0, 1) := by decide +kernel
theorem dX4_doorWorth_23 : decode cX4_doorWorth 23 = .ok (.iload_n 3, 1) := by decide +kernel
theorem dX4_doorWorth_24 : decode cX4_doorWorth 24 = .ok (.invokevirtual 103, 3) := by decide +kernel
theorem dX4_doorWorth_27 : decode cX4_doorWorth 27 = .ok (.iadd, 1) := by decide +kernel
theorem dX4_doorWorth_28 : decode cX4_doorWorth 28 = .ok (.istore_n 2, 1) := by decide +kernel
theorem dX4_doorWorth_29 : decode cX4_doorWorth 29 = .ok (.iinc 3 1, 3) := by decide +kernel
theorem dX4_doorWorth_32 : decode cX4_doorWorth 32 = .ok (.goto (-20), 3) := by decide +kernel
theorem dX4_doorWorth_35 : decode cX4_doorWorth 35 = .ok (.iload_n 2, 1) := by decide +kernel
theorem dX4_doorWorth_36 : decode cX4_doorWorth 36 = .ok (.ireturn, 1) := by decide +kernel
theorem dX4_doorWords_0 : decode cX4_doorWords 0 = .ok (.iconst 0, 1) := by decide +kernel
theorem dX4_doorWords_1 : decode cX4_doorWords 1 = .ok (.istore_n 2, 1) := by decide +kernel
theorem dX4_doorWords_2 : decode cX4_doorWords 2 = .ok (.iconst 4, 1) := by decide +kernel
theorem dX4_doorWords_3 : decode cX4_doorWords 3 = .ok (.iload_n 1, 1) := by decide +kernel
theorem dX4_doorWords_4 : decode cX4_doorWords 4 = .ok (.imul, 1) := by decide +kernel
theorem dX4_doorWords_5 : decode cX4_doorWords 5 = .ok (.istore_n 3, 1) := by decide +kernel
theorem dX4_doorWords_6 : decode cX4_doorWords 6 = .ok (.iload_n 3, 1) := by decide +kernel
theorem dX4_doorWords_7 : decode cX4_doorWords 7 = .ok (.iconst 4, 1) := by decide +kernel
theorem dX4_doorWords_8 : decode cX4_doorWords 8 = .ok (.iload_n 1, 1) := by decide +kernel
theorem dX4_doorWords_9 : decode cX4_doorWords 9 = .ok (.imul, 1) := by decide +kernel
theorem dX4_doorWords_10 : decode cX4_doorWords 10 = .ok (.iconst 4, 1) := by decide +kernel
theorem dX4_doorWords_11 : decode cX4_doorWords 11 = .ok (.iadd, 1) := by decide +kernel
theorem dX4_doorWords_12 : decode cX4_doorWords 12 = .ok (.if_icmp .ge 20, 3) := by decide +kernel
theorem dX4_doorWords_15 : decode cX4_doorWords 15 = .ok (.iload_n 2, 1) := by decide +kernel
theorem dX4_doorWords_16 : decode cX4_doorWords 16 = .ok (.aload_n 0, 1) := by decide +kernel
theorem dX4_doorWords_17 : decode cX4_doorWords 17 = .ok (.getfield 7, 3) := by decide +kernel
theorem dX4_doorWords_20 : decode cX4_doorWords 20 = .ok (.iconst 0, 1) := by decide +kernel
theorem dX4_doorWords_21 : decode cX4_doorWords 21 = .ok (.iload_n 3, 1) := by decide +kernel
theorem dX4_doorWords_22 : decode cX4_doorWords 22 = .ok (.iadd, 1) := by decide +kernel
theorem dX4_doorWords_23 : decode cX4_doorWords 23 = .ok (.iaload, 1) := by decide +kernel
theorem dX4_doorWords_24 : decode cX4_doorWords 24 = .ok (.iadd, 1) := by decide +kernel
theorem dX4_doorWords_25 : decode cX4_doorWords 25 = .ok (.istore_n 2, 1) := by decide +kernel
theorem dX4_doorWords_26 : decode cX4_doorWords 26 = .ok (.iinc 3 1, 3) := by decide +kernel
theorem dX4_doorWords_29 : decode cX4_doorWords 29 = .ok (.goto (-23), 3) := by decide +kernel
theorem dX4_doorWords_32 : decode cX4_doorWords 32 = .ok (.iload_n 2, 1) := by decide +kernel
theorem dX4_doorWords_33 : decode cX4_doorWords 33 = .ok (.ireturn, 1) := by decide +kernel
theorem dX4_borrowerOf_0 : decode cX4_borrowerOf 0 = .ok (.iconst 0, 1) := by decide +kernel
theorem dX4_borrowerOf_1 : decode cX4_borrowerOf 1 = .ok (.istore_n 2, 1) := by decide +kernel
theorem dX4_borrowerOf_2 : decode cX4_borrowerOf 2 = .ok (.iload_n 2, 1) := by decide +kernel
theorem dX4_borrowerOf_3 : decode cX4_borrowerOf 3 = .ok (.bipush 16, 2) := by decide +kernel
theorem dX4_borrowerOf_5 : decode cX4_borrowerOf 5 = .ok (.if_icmp .ge 26, 3) := by decide +kernel
theorem dX4_borrowerOf_8 : decode cX4_borrowerOf 8 = .ok (.aload_n 0, 1) := by decide +kernel
theorem dX4_borrowerOf_9 : decode cX4_borrowerOf 9 = .ok (.getfield 7, 3) := by decide +kernel
theorem dX4_borrowerOf_12 : decode cX4_borrowerOf 12 = .ok (.bipush 112, 2) := by decide +kernel
theorem dX4_borrowerOf_14 : decode cX4_borrowerOf 14 = .ok (.iload_n 2, 1) := by decide +kernel
theorem dX4_borrowerOf_15 : decode cX4_borrowerOf 15 = .ok (.iadd, 1) := by decide +kernel
theorem dX4_borrowerOf_16 : decode cX4_borrowerOf 16 = .ok (.iaload, 1) := by decide +kernel
theorem dX4_borrowerOf_17 : decode cX4_borrowerOf 17 = .ok (.iload_n 1, 1) := by decide +kernel
theorem dX4_borrowerOf_18 : decode cX4_borrowerOf 18 = .ok (.iconst 1, 1) := by decide +kernel
theorem dX4_borrowerOf_19 : decode cX4_borrowerOf 19 = .ok (.iadd, 1) := by decide +kernel
theorem dX4_borrowerOf_20 : decode cX4_borrowerOf 20 = .ok (.if_icmp .ne 5, 3) := by decide +kernel
theorem dX4_borrowerOf_23 : decode cX4_borrowerOf 23 = .ok (.iload_n 2, 1) := by decide +kernel
theorem dX4_borrowerOf_24 : decode cX4_borrowerOf 24 = .ok (.ireturn, 1) := by decide +kernel
theorem dX4_borrowerOf_25 : decode cX4_borrowerOf 25 = .ok (.iinc 2 1, 3) := by decide +kernel
theorem dX4_borrowerOf_28 : decode cX4_borrowerOf 28 = .ok (.goto (-26), 3) := by decide +kernel
theorem dX4_borrowerOf_31 : decode cX4_borrowerOf 31 = .ok (.iconst (-1), 1) := by decide +kernel
theorem dX4_borrowerOf_32 : decode cX4_borrowerOf 32 = .ok (.ireturn, 1) := by decide +kernel
theorem dX4_target_0 : decode cX4_target 0 = .ok (.iconst (-1), 1) := by decide +kernel
theorem dX4_target_1 : decode cX4_target 1 = .ok (.istore_n 1, 1) := by decide +kernel
theorem dX4_target_2 : decode cX4_target 2 = .ok (.iconst 0, 1) := by decide +kernel
theorem dX4_target_3 : decode cX4_target 3 = .ok (.istore_n 2, 1) := by decide +kernel
theorem dX4_target_4 : decode cX4_target 4 = .ok (.iload_n 2, 1) := by decide +kernel
theorem dX4_target_5 : decode cX4_target 5 = .ok (.iconst 4, 1) := by decide +kernel
theorem dX4_target_6 : decode cX4_target 6 = .ok (.if_icmp .ge 50, 3) := by decide +kernel
theorem dX4_target_9 : decode cX4_target 9 = .ok (.aload_n 0, 1) := by decide +kernel
theorem dX4_target_10 : decode cX4_target 10 = .ok (.iload_n 2, 1) := by decide +kernel
theorem dX4_target_11 : decode cX4_target 11 = .ok (.invokevirtual 106, 3) := by decide +kernel
theorem dX4_target_14 : decode cX4_target 14 = .ok (.ifCond .le 36, 3) := by decide +kernel
theorem dX4_target_17 : decode cX4_target 17 = .ok (.aload_n 0, 1) := by decide +kernel
theorem dX4_target_18 : decode cX4_target 18 = .ok (.getfield 7, 3) := by decide +kernel
theorem dX4_target_21 : decode cX4_target 21 = .ok (.sipush 128, 3) := by decide +kernel
theorem dX4_target_24 : decode cX4_target 24 = .ok (.iload_n 2, 1) := by decide +kernel
theorem dX4_target_25 : decode cX4_target 25 = .ok (.iadd, 1) := by decide +kernel
theorem dX4_target_26 : decode cX4_target 26 = .ok (.iaload, 1) := by decide +kernel
theorem dX4_target_27 : decode cX4_target 27 = .ok (.ifCond .ne 23, 3) := by decide +kernel
theorem dX4_target_30 : decode cX4_target 30 = .ok (.iload_n 1, 1) := by decide +kernel
theorem dX4_target_31 : decode cX4_target 31 = .ok (.iconst (-1), 1) := by decide +kernel
theorem dX4_target_32 : decode cX4_target 32 = .ok (.if_icmp .eq 16, 3) := by decide +kernel
theorem dX4_target_35 : decode cX4_target 35 = .ok (.aload_n 0, 1) := by decide +kernel
theorem dX4_target_36 : decode cX4_target 36 = .ok (.iload_n 2, 1) := by decide +kernel
theorem dX4_target_37 : decode cX4_target 37 = .ok (.invokevirtual 109, 3) := by decide +kernel
theorem dX4_target_40 : decode cX4_target 40 = .ok (.aload_n 0, 1) := by decide +kernel
theorem dX4_target_41 : decode cX4_target 41 = .ok (.iload_n 1, 1) := by decide +kernel
theorem dX4_target_42 : decode cX4_target 42 = .ok (.invokevirtual 109, 3) := by decide +kernel
theorem dX4_target_45 : decode cX4_target 45 = .ok (.if_icmp .le 5, 3) := by decide +kernel
theorem dX4_target_48 : decode cX4_target 48 = .ok (.iload_n 2, 1) := by decide +kernel
theorem dX4_target_49 : decode cX4_target 49 = .ok (.istore_n 1, 1) := by decide +kernel
theorem dX4_target_50 : decode cX4_target 50 = .ok (.iinc 2 1, 3) := by decide +kernel
theorem dX4_target_53 : decode cX4_target 53 = .ok (.goto (-49), 3) := by decide +kernel
theorem dX4_target_56 : decode cX4_target 56 = .ok (.iload_n 1, 1) := by decide +kernel
theorem dX4_target_57 : decode cX4_target 57 = .ok (.iconst (-1), 1) := by decide +kernel
theorem dX4_target_58 : decode cX4_target 58 = .ok (.if_icmp .eq 23, 3) := by decide +kernel
theorem dX4_target_61 : decode cX4_target 61 = .ok (.aload_n 0, 1) := by decide +kernel
theorem dX4_target_62 : decode cX4_target 62 = .ok (.iload_n 1, 1) := by decide +kernel
theorem dX4_target_63 : decode cX4_target 63 = .ok (.invokevirtual 109, 3) := by decide +kernel
theorem dX4_target_66 : decode cX4_target 66 = .ok (.aload_n 0, 1) := by decide +kernel
theorem dX4_target_67 : decode cX4_target 67 = .ok (.getfield 7, 3) := by decide +kernel
theorem dX4_target_70 : decode cX4_target 70 = .ok (.sipush 177, 3) := by decide +kernel
theorem dX4_target_73 : decode cX4_target 73 = .ok (.iaload, 1) := by decide +kernel
theorem dX4_target_74 : decode cX4_target 74 = .ok (.if_icmp .lt 7, 3) := by decide +kernel
theorem dX4_target_77 : decode cX4_target 77 = .ok (.iload_n 1, 1) := by decide +kernel
theorem dX4_target_78 : decode cX4_target 78 = .ok (.goto 4, 3) := by decide +kernel
theorem dX4_target_81 : decode cX4_target 81 = .ok (.iconst (-1), 1) := by decide +kernel
theorem dX4_target_82 : decode cX4_target 82 = .ok (.ireturn, 1) := by decide +kernel
theorem dX4_preyOn_0 : decode cX4_preyOn 0 = .ok (.iconst (-1), 1) := by decide +kernel
theorem dX4_preyOn_1 : decode cX4_preyOn 1 = .ok (.istore_n 2, 1) := by decide +kernel
theorem dX4_preyOn_2 : decode cX4_preyOn 2 = .ok (.iconst 4, 1) := by decide +kernel
theorem dX4_preyOn_3 : decode cX4_preyOn 3 = .ok (.iload_n 1, 1) := by decide +kernel
theorem dX4_preyOn_4 : decode cX4_preyOn 4 = .ok (.imul, 1) := by decide +kernel
theorem dX4_preyOn_5 : decode cX4_preyOn 5 = .ok (.iconst 4, 1) := by decide +kernel
theorem dX4_preyOn_6 : decode cX4_preyOn 6 = .ok (.iadd, 1) := by decide +kernel
theorem dX4_preyOn_7 : decode cX4_preyOn 7 = .ok (.iconst 1, 1) := by decide +kernel
theorem dX4_preyOn_8 : decode cX4_preyOn 8 = .ok (.isub, 1) := by decide +kernel
theorem dX4_preyOn_9 : decode cX4_preyOn 9 = .ok (.istore_n 3, 1) := by decide +kernel
theorem dX4_preyOn_10 : decode cX4_preyOn 10 = .ok (.iload_n 3, 1) := by decide +kernel
theorem dX4_preyOn_11 : decode cX4_preyOn 11 = .ok (.iconst 4, 1) := by decide +kernel
theorem dX4_preyOn_12 : decode cX4_preyOn 12 = .ok (.iload_n 1, 1) := by decide +kernel
theorem dX4_preyOn_13 : decode cX4_preyOn 13 = .ok (.imul, 1) := by decide +kernel
theorem dX4_preyOn_14 : decode cX4_preyOn 14 = .ok (.if_icmp .lt 64, 3) := by decide +kernel
theorem dX4_preyOn_17 : decode cX4_preyOn 17 = .ok (.iconst 0, 1) := by decide +kernel
theorem dX4_preyOn_18 : decode cX4_preyOn 18 = .ok (.istore 4, 2) := by decide +kernel
theorem dX4_preyOn_20 : decode cX4_preyOn 20 = .ok (.iload 4, 2) := by decide +kernel
theorem dX4_preyOn_22 : decode cX4_preyOn 22 = .ok (.aload_n 0, 1) := by decide +kernel
theorem dX4_preyOn_23 : decode cX4_preyOn 23 = .ok (.getfield 7, 3) := by decide +kernel
theorem dX4_preyOn_26 : decode cX4_preyOn 26 = .ok (.iconst 0, 1) := by decide +kernel
theorem dX4_preyOn_27 : decode cX4_preyOn 27 = .ok (.iload_n 3, 1) := by decide +kernel
theorem dX4_preyOn_28 : decode cX4_preyOn 28 = .ok (.iadd, 1) := by decide +kernel
theorem dX4_preyOn_29 : decode cX4_preyOn 29 = .ok (.iaload, 1) := by decide +kernel
theorem dX4_preyOn_30 : decode cX4_preyOn 30 = .ok (.if_icmp .ge 42, 3) := by decide +kernel
theorem dX4_preyOn_33 : decode cX4_preyOn 33 = .ok (.aload_n 0, 1) := by decide +kernel
theorem dX4_preyOn_34 : decode cX4_preyOn 34 = .ok (.iload_n 3, 1) := by decide +kernel
theorem dX4_preyOn_35 : decode cX4_preyOn 35 = .ok (.iload 4, 2) := by decide +kernel
theorem dX4_preyOn_37 : decode cX4_preyOn 37 = .ok (.invokevirtual 53, 3) := by decide +kernel
theorem dX4_preyOn_40 : decode cX4_preyOn 40 = .ok (.istore 5, 2) := by decide +kernel
theorem dX4_preyOn_42 : decode cX4_preyOn 42 = .ok (.iload_n 2, 1) := by decide +kernel
theorem dX4_preyOn_43 : decode cX4_preyOn 43 = .ok (.iconst (-1), 1) := by decide +kernel
theorem dX4_preyOn_44 : decode cX4_preyOn 44 = .ok (.if_icmp .eq 15, 3) := by decide +kernel
theorem dX4_preyOn_47 : decode cX4_preyOn 47 = .ok (.iload 5, 2) := by decide +kernel
theorem dX4_preyOn_49 : decode cX4_preyOn 49 = .ok (.invokestatic 71, 3) := by decide +kernel
theorem dX4_preyOn_52 : decode cX4_preyOn 52 = .ok (.iload_n 2, 1) := by decide +kernel
theorem dX4_preyOn_53 : decode cX4_preyOn 53 = .ok (.invokestatic 71, 3) := by decide +kernel
theorem dX4_preyOn_56 : decode cX4_preyOn 56 = .ok (.if_icmp .le 8, 3) := by decide +kernel
theorem dX4_preyOn_59 : decode cX4_preyOn 59 = .ok (.iload 5, 2) := by decide +kernel
theorem dX4_preyOn_61 : decode cX4_preyOn 61 = .ok (.goto 4, 3) := by decide +kernel
theorem dX4_preyOn_64 : decode cX4_preyOn 64 = .ok (.iload_n 2, 1) := by decide +kernel
theorem dX4_preyOn_65 : decode cX4_preyOn 65 = .ok (.istore_n 2, 1) := by decide +kernel
theorem dX4_preyOn_66 : decode cX4_preyOn 66 = .ok (.iinc 4 1, 3) := by decide +kernel
theorem dX4_preyOn_69 : decode cX4_preyOn 69 = .ok (.goto (-49), 3) := by decide +kernel
theorem dX4_preyOn_72 : decode cX4_preyOn 72 = .ok (.iinc 3 (-1), 3) := by decide +kernel
theorem dX4_preyOn_75 : decode cX4_preyOn 75 = .ok (.goto (-65), 3) := by decide +kernel
theorem dX4_preyOn_78 : decode cX4_preyOn 78 = .ok (.iload_n 2, 1) := by decide +kernel
theorem dX4_preyOn_79 : decode cX4_preyOn 79 = .ok (.ireturn, 1) := by decide +kernel
theorem dX4_preyNow_0 : decode cX4_preyNow 0 = .ok (.aload_n 0, 1) := by decide +kernel
theorem dX4_preyNow_1 : decode cX4_preyNow 1 = .ok (.invokevirtual 112, 3) := by decide +kernel
theorem dX4_preyNow_4 : decode cX4_preyNow 4 = .ok (.istore_n 1, 1) := by decide +kernel
theorem dX4_preyNow_5 : decode cX4_preyNow 5 = .ok (.iload_n 1, 1) := by decide +kernel
theorem dX4_preyNow_6 : decode cX4_preyNow 6 = .ok (.iconst (-1), 1) := by decide +kernel
theorem dX4_preyNow_7 : decode cX4_preyNow 7 = .ok (.if_icmp .ne 7, 3) := by decide +kernel
theorem dX4_preyNow_10 : decode cX4_preyNow 10 = .ok (.iconst (-1), 1) := by decide +kernel
theorem dX4_preyNow_11 : decode cX4_preyNow 11 = .ok (.goto 8, 3) := by decide +kernel
theorem dX4_preyNow_14 : decode cX4_preyNow 14 = .ok (.aload_n 0, 1) := by decide +kernel
theorem dX4_preyNow_15 : decode cX4_preyNow 15 = .ok (.iload_n 1, 1) := by decide +kernel
theorem dX4_preyNow_16 : decode cX4_preyNow 16 = .ok (.invokevirtual 116, 3) := by decide +kernel
theorem dX4_preyNow_19 : decode cX4_preyNow 19 = .ok (.ireturn, 1) := by decide +kernel
theorem dX4_night_0 : decode cX4_night 0 = .ok (.aload_n 0, 1) := by decide +kernel
theorem dX4_night_1 : decode cX4_night 1 = .ok (.invokevirtual 119, 3) := by decide +kernel
theorem dX4_night_4 : decode cX4_night 4 = .ok (.istore_n 1, 1) := by decide +kernel
theorem dX4_night_5 : decode cX4_night 5 = .ok (.iconst 0, 1) := by decide +kernel
theorem dX4_night_6 : decode cX4_night 6 = .ok (.istore_n 2, 1) := by decide +kernel
theorem dX4_night_7 : decode cX4_night 7 = .ok (.iload_n 2, 1) := by decide +kernel
theorem dX4_night_8 : decode cX4_night 8 = .ok (.iconst 4, 1) := by decide +kernel
theorem dX4_night_9 : decode cX4_night 9 = .ok (.if_icmp .ge 40, 3) := by decide +kernel
theorem dX4_night_12 : decode cX4_night 12 = .ok (.aload_n 0, 1) := by decide +kernel
theorem dX4_night_13 : decode cX4_night 13 = .ok (.getfield 7, 3) := by decide +kernel
theorem dX4_night_16 : decode cX4_night 16 = .ok (.sipush 128, 3) := by decide +kernel
theorem dX4_night_19 : decode cX4_night 19 = .ok (.iload_n 2, 1) := by decide +kernel
theorem dX4_night_20 : decode cX4_night 20 = .ok (.iadd, 1) := by decide +kernel
theorem dX4_night_21 : decode cX4_night 21 = .ok (.dup2, 1) := by decide +kernel
theorem dX4_night_22 : decode cX4_night 22 = .ok (.iaload, 1) := by decide +kernel
theorem dX4_night_23 : decode cX4_night 23 = .ok (.aload_n 0, 1) := by decide +kernel
theorem dX4_night_24 : decode cX4_night 24 = .ok (.getfield 7, 3) := by decide +kernel
theorem dX4_night_27 : decode cX4_night 27 = .ok (.sipush 128, 3) := by decide +kernel
theorem dX4_night_30 : decode cX4_night 30 = .ok (.iload_n 2, 1) := by decide +kernel
theorem dX4_night_31 : decode cX4_night 31 = .ok (.iadd, 1) := by decide +kernel
theorem dX4_night_32 : decode cX4_night 32 = .ok (.iaload, 1) := by decide +kernel
theorem dX4_night_33 : decode cX4_night 33 = .ok (.ifCond .le 7, 3) := by decide +kernel
theorem dX4_night_36 : decode cX4_night 36 = .ok (.iconst 1, 1) := by decide +kernel
theorem dX4_night_37 : decode cX4_night 37 = .ok (.goto 4, 3) := by decide +kernel
theorem dX4_night_40 : decode cX4_night 40 = .ok (.iconst 0, 1) := by decide +kernel
theorem dX4_night_41 : decode cX4_night 41 = .ok (.isub, 1) := by decide +kernel
theorem dX4_night_42 : decode cX4_night 42 = .ok (.iastore, 1) := by decide +kernel
theorem dX4_night_43 : decode cX4_night 43 = .ok (.iinc 2 1, 3) := by decide +kernel
theorem dX4_night_46 : decode cX4_night 46 = .ok (.goto (-39), 3) := by decide +kernel
theorem dX4_night_49 : decode cX4_night 49 = .ok (.aload_n 0, 1) := by decide +kernel
theorem dX4_night_50 : decode cX4_night 50 = .ok (.getfield 7, 3) := by decide +kernel
theorem dX4_night_53 : decode cX4_night 53 = .ok (.sipush 179, 3) := by decide +kernel
theorem dX4_night_56 : decode cX4_night 56 = .ok (.dup2, 1) := by decide +kernel
theorem dX4_night_57 : decode cX4_night 57 = .ok (.iaload, 1) := by decide +kernel
theorem dX4_night_58 : decode cX4_night 58 = .ok (.iconst 1, 1) := by decide +kernel
theorem dX4_night_59 : decode cX4_night 59 = .ok (.iadd, 1) := by decide +kernel
theorem dX4_night_60 : decode cX4_night 60 = .ok (.iastore, 1) := by decide +kernel
theorem dX4_night_61 : decode cX4_night 61 = .ok (.iload_n 1, 1) := by decide +kernel
theorem dX4_night_62 : decode cX4_night 62 = .ok (.iconst (-1), 1) := by decide +kernel
theorem dX4_night_63 : decode cX4_night 63 = .ok (.if_icmp .ne 5, 3) := by decide +kernel
theorem dX4_night_66 : decode cX4_night 66 = .ok (.iconst 0, 1) := by decide +kernel
theorem dX4_night_67 : decode cX4_night 67 = .ok (.ireturn, 1) := by decide +kernel
theorem dX4_night_68 : decode cX4_night 68 = .ok (.aload_n 0, 1) := by decide +kernel
theorem dX4_night_69 : decode cX4_night 69 = .ok (.iload_n 1, 1) := by decide +kernel
theorem dX4_night_70 : decode cX4_night 70 = .ok (.invokevirtual 57, 3) := by decide +kernel
theorem dX4_night_73 : decode cX4_night 73 = .ok (.istore_n 2, 1) := by decide +kernel
theorem dX4_night_74 : decode cX4_night 74 = .ok (.aload_n 0, 1) := by decide +kernel
theorem dX4_night_75 : decode cX4_night 75 = .ok (.iload_n 2, 1) := by decide +kernel
theorem dX4_night_76 : decode cX4_night 76 = .ok (.aload_n 0, 1) := by decide +kernel
theorem dX4_night_77 : decode cX4_night 77 = .ok (.iload_n 1, 1) := by decide +kernel
theorem dX4_night_78 : decode cX4_night 78 = .ok (.invokevirtual 122, 3) := by decide +kernel
theorem dX4_night_81 : decode cX4_night 81 = .ok (.invokevirtual 68, 3) := by decide +kernel
theorem dX4_night_84 : decode cX4_night 84 = .ok (.aload_n 0, 1) := by decide +kernel
theorem dX4_night_85 : decode cX4_night 85 = .ok (.getfield 7, 3) := by decide +kernel
theorem dX4_night_88 : decode cX4_night 88 = .ok (.sipush 136, 3) := by decide +kernel
theorem dX4_night_91 : decode cX4_night 91 = .ok (.iload_n 1, 1) := by decide +kernel
theorem dX4_night_92 : decode cX4_night 92 = .ok (.iadd, 1) := by decide +kernel
theorem dX4_night_93 : decode cX4_night 93 = .ok (.dup2, 1) := by decide +kernel
theorem dX4_night_94 : decode cX4_night 94 = .ok (.iaload, 1) := by decide +kernel
theorem dX4_night_95 : decode cX4_night 95 = .ok (.iconst 1, 1) := by decide +kernel
theorem dX4_night_96 : decode cX4_night 96 = .ok (.iadd, 1) := by decide +kernel
theorem dX4_night_97 : decode cX4_night 97 = .ok (.iastore, 1) := by decide +kernel
theorem dX4_night_98 : decode cX4_night 98 = .ok (.aload_n 0, 1) := by decide +kernel
theorem dX4_night_99 : decode cX4_night 99 = .ok (.getfield 7, 3) := by decide +kernel
theorem dX4_night_102 : decode cX4_night 102 = .ok (.sipush 132, 3) := by decide +kernel
theorem dX4_night_105 : decode cX4_night 105 = .ok (.iload_n 2, 1) := by decide +kernel
theorem dX4_night_106 : decode cX4_night 106 = .ok (.iconst 4, 1) := by decide +kernel
theorem dX4_night_107 : decode cX4_night 107 = .ok (.idiv, 1) := by decide +kernel
theorem dX4_night_108 : decode cX4_night 108 = .ok (.iadd, 1) := by decide +kernel
theorem dX4_night_109 : decode cX4_night 109 = .ok (.dup2, 1) := by decide +kernel
theorem dX4_night_110 : decode cX4_night 110 = .ok (.iaload, 1) := by decide +kernel
theorem dX4_night_111 : decode cX4_night 111 = .ok (.iconst 1, 1) := by decide +kernel
theorem dX4_night_112 : decode cX4_night 112 = .ok (.iadd, 1) := by decide +kernel
theorem dX4_night_113 : decode cX4_night 113 = .ok (.iastore, 1) := by decide +kernel
theorem dX4_night_114 : decode cX4_night 114 = .ok (.aload_n 0, 1) := by decide +kernel
theorem dX4_night_115 : decode cX4_night 115 = .ok (.getfield 7, 3) := by decide +kernel
theorem dX4_night_118 : decode cX4_night 118 = .ok (.sipush 128, 3) := by decide +kernel
theorem dX4_night_121 : decode cX4_night 121 = .ok (.iload_n 2, 1) := by decide +kernel
theorem dX4_night_122 : decode cX4_night 122 = .ok (.iconst 4, 1) := by decide +kernel
theorem dX4_night_123 : decode cX4_night 123 = .ok (.idiv, 1) := by decide +kernel
theorem dX4_night_124 : decode cX4_night 124 = .ok (.iadd, 1) := by decide +kernel
theorem dX4_night_125 : decode cX4_night 125 = .ok (.aload_n 0, 1) := by decide +kernel
theorem dX4_night_126 : decode cX4_night 126 = .ok (.getfield 7, 3) := by decide +kernel
theorem dX4_night_129 : decode cX4_night 129 = .ok (.sipush 178, 3) := by decide +kernel
theorem dX4_night_132 : decode cX4_night 132 = .ok (.iaload, 1) := by decide +kernel
theorem dX4_night_133 : decode cX4_night 133 = .ok (.iastore, 1) := by decide +kernel
theorem dX4_night_134 : decode cX4_night 134 = .ok (.iconst 1, 1) := by decide +kernel
theorem dX4_night_135 : decode cX4_night 135 = .ok (.ireturn, 1) := by decide +kernel
theorem dX4_nights_0 : decode cX4_nights 0 = .ok (.iconst 0, 1) := by decide +kernel
theorem dX4_nights_1 : decode cX4_nights 1 = .ok (.istore_n 2, 1) := by decide +kernel
theorem dX4_nights_2 : decode cX4_nights 2 = .ok (.iconst 0, 1) := by decide +kernel
theorem dX4_nights_3 : decode cX4_nights 3 = .ok (.istore_n 3, 1) := by decide +kernel
theorem dX4_nights_4 : decode cX4_nights 4 = .ok (.iload_n 3, 1) := by decide +kernel
theorem dX4_nights_5 : decode cX4_nights 5 = .ok (.iload_n 1, 1) := by decide +kernel
theorem dX4_nights_6 : decode cX4_nights 6 = .ok (.if_icmp .ge 16, 3) := by decide +kernel
theorem dX4_nights_9 : decode cX4_nights 9 = .ok (.iload_n 2, 1) := by decide +kernel
theorem dX4_nights_10 : decode cX4_nights 10 = .ok (.aload_n 0, 1) := by decide +kernel
theorem dX4_nights_11 : decode cX4_nights 11 = .ok (.invokevirtual 125, 3) := by decide +kernel
theorem dX4_nights_14 : decode cX4_nights 14 = .ok (.iadd, 1) := by decide +kernel
theorem dX4_nights_15 : decode cX4_nights 15 = .ok (.istore_n 2, 1) := by decide +kernel
theorem dX4_nights_16 : decode cX4_nights 16 = .ok (.iinc 3 1, 3) := by decide +kernel
theorem dX4_nights_19 : decode cX4_nights 19 = .ok (.goto (-15), 3) := by decide +kernel
theorem dX4_nights_22 : decode cX4_nights 22 = .ok (.iload_n 2, 1) := by decide +kernel
theorem dX4_nights_23 : decode cX4_nights 23 = .ok (.ireturn, 1) := by decide +kernel
theorem dX4_put_0 : decode cX4_put 0 = .ok (.aload_n 0, 1) := by decide +kernel
theorem dX4_put_1 : decode cX4_put 1 = .ok (.iconst 0, 1) := by decide +kernel
theorem dX4_put_2 : decode cX4_put 2 = .ok (.putfield 38, 3) := by decide +kernel
theorem dX4_put_5 : decode cX4_put 5 = .ok (.iload_n 1, 1) := by decide +kernel
theorem dX4_put_6 : decode cX4_put 6 = .ok (.invokestatic 128, 3) := by decide +kernel
theorem dX4_put_9 : decode cX4_put 9 = .ok (.ifCond .eq 32, 3) := by decide +kernel
theorem dX4_put_12 : decode cX4_put 12 = .ok (.iload_n 2, 1) := by decide +kernel
theorem dX4_put_13 : decode cX4_put 13 = .ok (.iload_n 3, 1) := by decide +kernel
theorem dX4_put_14 : decode cX4_put 14 = .ok (.invokestatic 131, 3) := by decide +kernel
theorem dX4_put_17 : decode cX4_put 17 = .ok (.ifCond .eq 24, 3) := by decide +kernel
theorem dX4_put_20 : decode cX4_put 20 = .ok (.iload 4, 2) := by decide +kernel
theorem dX4_put_22 : decode cX4_put 22 = .ok (.iconst 0, 1) := by decide +kernel
theorem dX4_put_23 : decode cX4_put 23 = .ok (.aload_n 0, 1) := by decide +kernel
theorem dX4_put_24 : decode cX4_put 24 = .ok (.getfield 7, 3) := by decide +kernel
theorem dX4_put_27 : decode cX4_put 27 = .ok (.iconst 0, 1) := by decide +kernel
theorem dX4_put_28 : decode cX4_put 28 = .ok (.iconst 4, 1) := by decide +kernel
theorem dX4_put_29 : decode cX4_put 29 = .ok (.iload_n 2, 1) := by decide +kernel
theorem dX4_put_30 : decode cX4_put 30 = .ok (.imul, 1) := by decide +kernel
theorem dX4_put_31 : decode cX4_put 31 = .ok (.iadd, 1) := by decide +kernel
theorem dX4_put_32 : decode cX4_put 32 = .ok (.iload_n 3, 1) := by decide +kernel
theorem dX4_put_33 : decode cX4_put 33 = .ok (.iadd, 1) := by decide +kernel
theorem dX4_put_34 : decode cX4_put 34 = .ok (.iaload, 1) := by decide +kernel
theorem dX4_put_35 : decode cX4_put 35 = .ok (.invokestatic 42, 3) := by decide +kernel
theorem dX4_put_38 : decode cX4_put 38 = .ok (.ifCond .ne 9, 3) := by decide +kernel
theorem dX4_put_41 : decode cX4_put 41 = .ok (.aload_n 0, 1) := by decide +kernel
theorem dX4_put_42 : decode cX4_put 42 = .ok (.iconst 1, 1) := by decide +kernel
theorem dX4_put_43 : decode cX4_put 43 = .ok (.invokevirtual 134, 3) := by decide +kernel
theorem dX4_put_46 : decode cX4_put 46 = .ok (.ireturn, 1) := by decide +kernel
theorem dX4_put_47 : decode cX4_put 47 = .ok (.aload_n 0, 1) := by decide +kernel
theorem dX4_put_48 : decode cX4_put 48 = .ok (.iload_n 1, 1) := by decide +kernel
theorem dX4_put_49 : decode cX4_put 49 = .ok (.invokevirtual 57, 3) := by decide +kernel
theorem dX4_put_52 : decode cX4_put 52 = .ok (.iconst (-1), 1) := by decide +kernel
theorem dX4_put_53 : decode cX4_put 53 = .ok (.if_icmp .eq 9, 3) := by decide +kernel
theorem dX4_put_56 : decode cX4_put 56 = .ok (.aload_n 0, 1) := by decide +kernel
theorem dX4_put_57 : decode cX4_put 57 = .ok (.iconst 2, 1) := by decide +kernel
theorem dX4_put_58 : decode cX4_put 58 = .ok (.invokevirtual 134, 3) := by decide +kernel
theorem dX4_put_61 : decode cX4_put 61 = .ok (.ireturn, 1) := by decide +kernel
theorem dX4_put_62 : decode cX4_put 62 = .ok (.aload_n 0, 1) := by decide +kernel
theorem dX4_put_63 : decode cX4_put 63 = .ok (.invokevirtual 137, 3) := by decide +kernel
theorem dX4_put_66 : decode cX4_put 66 = .ok (.aload_n 0, 1) := by decide +kernel
theorem dX4_put_67 : decode cX4_put 67 = .ok (.iload_n 1, 1) := by decide +kernel
theorem dX4_put_68 : decode cX4_put 68 = .ok (.iconst 4, 1) := by decide +kernel
theorem dX4_put_69 : decode cX4_put 69 = .ok (.iload_n 2, 1) := by decide +kernel
theorem dX4_put_70 : decode cX4_put 70 = .ok (.imul, 1) := by decide +kernel
theorem dX4_put_71 : decode cX4_put 71 = .ok (.iload_n 3, 1) := by decide +kernel
theorem dX4_put_72 : decode cX4_put 72 = .ok (.iadd, 1) := by decide +kernel
theorem dX4_put_73 : decode cX4_put 73 = .ok (.iload 4, 2) := by decide +kernel
theorem dX4_put_75 : decode cX4_put 75 = .ok (.invokevirtual 140, 3) := by decide +kernel
theorem dX4_put_78 : decode cX4_put 78 = .ok (.istore 5, 2) := by decide +kernel
theorem dX4_put_80 : decode cX4_put 80 = .ok (.iload 5, 2) := by decide +kernel
theorem dX4_put_82 : decode cX4_put 82 = .ok (.ifCond .ne 30, 3) := by decide +kernel
theorem dX4_put_85 : decode cX4_put 85 = .ok (.aload_n 0, 1) := by decide +kernel
theorem dX4_put_86 : decode cX4_put 86 = .ok (.iload_n 1, 1) := by decide +kernel
theorem dX4_put_87 : decode cX4_put 87 = .ok (.iconst 4, 1) := by decide +kernel
theorem dX4_put_88 : decode cX4_put 88 = .ok (.iload_n 2, 1) := by decide +kernel
theorem dX4_put_89 : decode cX4_put 89 = .ok (.imul, 1) := by decide +kernel
theorem dX4_put_90 : decode cX4_put 90 = .ok (.iload_n 3, 1) := by decide +kernel
theorem dX4_put_91 : decode cX4_put 91 = .ok (.iadd, 1) := by decide +kernel
theorem dX4_put_92 : decode cX4_put 92 = .ok (.iload 4, 2) := by decide +kernel
theorem dX4_put_94 : decode cX4_put 94 = .ok (.invokevirtual 144, 3) := by decide +kernel
theorem dX4_put_97 : decode cX4_put 97 = .ok (.aload_n 0, 1) := by decide +kernel
theorem dX4_put_98 : decode cX4_put 98 = .ok (.getfield 7, 3) := by decide +kernel
theorem dX4_put_101 : decode cX4_put 101 = .ok (.sipush 180, 3) := by decide +kernel
theorem dX4_put_104 : decode cX4_put 104 = .ok (.dup2, 1) := by decide +kernel
theorem dX4_put_105 : decode cX4_put 105 = .ok (.iaload, 1) := by decide +kernel
theorem dX4_put_106 : decode cX4_put 106 = .ok (.iconst 1, 1) := by decide +kernel
theorem dX4_put_107 : decode cX4_put 107 = .ok (.iadd, 1) := by decide +kernel
theorem dX4_put_108 : decode cX4_put 108 = .ok (.iastore, 1) := by decide +kernel
theorem dX4_put_109 : decode cX4_put 109 = .ok (.goto 15, 3) := by decide +kernel
theorem dX4_put_112 : decode cX4_put 112 = .ok (.aload_n 0, 1) := by decide +kernel
theorem dX4_put_113 : decode cX4_put 113 = .ok (.getfield 7, 3) := by decide +kernel
theorem dX4_put_116 : decode cX4_put 116 = .ok (.sipush 181, 3) := by decide +kernel
theorem dX4_put_119 : decode cX4_put 119 = .ok (.dup2, 1) := by decide +kernel
theorem dX4_put_120 : decode cX4_put 120 = .ok (.iaload, 1) := by decide +kernel
theorem dX4_put_121 : decode cX4_put 121 = .ok (.iconst 1, 1) := by decide +kernel
theorem dX4_put_122 : decode cX4_put 122 = .ok (.iadd, 1) := by decide +kernel
theorem dX4_put_123 : decode cX4_put 123 = .ok (.iastore, 1) := by decide +kernel
theorem dX4_put_124 : decode cX4_put 124 = .ok (.iload 5, 2) := by decide +kernel
theorem dX4_put_126 : decode cX4_put 126 = .ok (.ireturn, 1) := by decide +kernel
theorem dX4_takeOff_0 : decode cX4_takeOff 0 = .ok (.aload_n 0, 1) := by decide +kernel
theorem dX4_takeOff_1 : decode cX4_takeOff 1 = .ok (.iconst 0, 1) := by decide +kernel
theorem dX4_takeOff_2 : decode cX4_takeOff 2 = .ok (.putfield 38, 3) := by decide +kernel
theorem dX4_takeOff_5 : decode cX4_takeOff 5 = .ok (.iload_n 1, 1) := by decide +kernel
theorem dX4_takeOff_6 : decode cX4_takeOff 6 = .ok (.invokestatic 128, 3) := by decide +kernel
theorem dX4_takeOff_9 : decode cX4_takeOff 9 = .ok (.ifCond .ne 9, 3) := by decide +kernel
theorem dX4_takeOff_12 : decode cX4_takeOff 12 = .ok (.aload_n 0, 1) := by decide +kernel
theorem dX4_takeOff_13 : decode cX4_takeOff 13 = .ok (.iconst 1, 1) := by decide +kernel
theorem dX4_takeOff_14 : decode cX4_takeOff 14 = .ok (.invokevirtual 134, 3) := by decide +kernel
theorem dX4_takeOff_17 : decode cX4_takeOff 17 = .ok (.ireturn, 1) := by decide +kernel
theorem dX4_takeOff_18 : decode cX4_takeOff 18 = .ok (.aload_n 0, 1) := by decide +kernel
theorem dX4_takeOff_19 : decode cX4_takeOff 19 = .ok (.iload_n 1, 1) := by decide +kernel
theorem dX4_takeOff_20 : decode cX4_takeOff 20 = .ok (.invokevirtual 57, 3) := by decide +kernel
theorem dX4_takeOff_23 : decode cX4_takeOff 23 = .ok (.istore_n 2, 1) := by decide +kernel
theorem dX4_takeOff_24 : decode cX4_takeOff 24 = .ok (.iload_n 2, 1) := by decide +kernel
theorem dX4_takeOff_25 : decode cX4_takeOff 25 = .ok (.iconst (-1), 1) := by decide +kernel
theorem dX4_takeOff_26 : decode cX4_takeOff 26 = .ok (.if_icmp .ne 9, 3) := by decide +kernel
theorem dX4_takeOff_29 : decode cX4_takeOff 29 = .ok (.aload_n 0, 1) := by decide +kernel
theorem dX4_takeOff_30 : decode cX4_takeOff 30 = .ok (.iconst 2, 1) := by decide +kernel
theorem dX4_takeOff_31 : decode cX4_takeOff 31 = .ok (.invokevirtual 134, 3) := by decide +kernel
theorem dX4_takeOff_34 : decode cX4_takeOff 34 = .ok (.ireturn, 1) := by decide +kernel
theorem dX4_takeOff_35 : decode cX4_takeOff 35 = .ok (.aload_n 0, 1) := by decide +kernel
theorem dX4_takeOff_36 : decode cX4_takeOff 36 = .ok (.invokevirtual 137, 3) := by decide +kernel
theorem dX4_takeOff_39 : decode cX4_takeOff 39 = .ok (.aload_n 0, 1) := by decide +kernel
theorem dX4_takeOff_40 : decode cX4_takeOff 40 = .ok (.iload_n 2, 1) := by decide +kernel
theorem dX4_takeOff_41 : decode cX4_takeOff 41 = .ok (.aload_n 0, 1) := by decide +kernel
theorem dX4_takeOff_42 : decode cX4_takeOff 42 = .ok (.iload_n 1, 1) := by decide +kernel
theorem dX4_takeOff_43 : decode cX4_takeOff 43 = .ok (.invokevirtual 122, 3) := by decide +kernel
theorem dX4_takeOff_46 : decode cX4_takeOff 46 = .ok (.invokevirtual 68, 3) := by decide +kernel
theorem dX4_takeOff_49 : decode cX4_takeOff 49 = .ok (.bipush 10, 2) := by decide +kernel
theorem dX4_takeOff_51 : decode cX4_takeOff 51 = .ok (.iload_n 2, 1) := by decide +kernel
theorem dX4_takeOff_52 : decode cX4_takeOff 52 = .ok (.iconst 4, 1) := by decide +kernel
theorem dX4_takeOff_53 : decode cX4_takeOff 53 = .ok (.idiv, 1) := by decide +kernel
theorem dX4_takeOff_54 : decode cX4_takeOff 54 = .ok (.imul, 1) := by decide +kernel
theorem dX4_takeOff_55 : decode cX4_takeOff 55 = .ok (.iload_n 2, 1) := by decide +kernel
theorem dX4_takeOff_56 : decode cX4_takeOff 56 = .ok (.iconst 4, 1) := by decide +kernel
theorem dX4_takeOff_57 : decode cX4_takeOff 57 = .ok (.irem, 1) := by decide +kernel
theorem dX4_takeOff_58 : decode cX4_takeOff 58 = .ok (.iadd, 1) := by decide +kernel
theorem dX4_takeOff_59 : decode cX4_takeOff 59 = .ok (.ireturn, 1) := by decide +kernel
theorem dX4_move_0 : decode cX4_move 0 = .ok (.aload_n 0, 1) := by decide +kernel
theorem dX4_move_1 : decode cX4_move 1 = .ok (.iconst 0, 1) := by decide +kernel
theorem dX4_move_2 : decode cX4_move 2 = .ok (.putfield 38, 3) := by decide +kernel
theorem dX4_move_5 : decode cX4_move 5 = .ok (.iload_n 1, 1) := by decide +kernel
theorem dX4_move_6 : decode cX4_move 6 = .ok (.invokestatic 128, 3) := by decide +kernel
theorem dX4_move_9 : decode cX4_move 9 = .ok (.ifCond .eq 11, 3) := by decide +kernel
theorem dX4_move_12 : decode cX4_move 12 = .ok (.iload_n 2, 1) := by decide +kernel
theorem dX4_move_13 : decode cX4_move 13 = .ok (.iload_n 3, 1) := by decide +kernel
theorem dX4_move_14 : decode cX4_move 14 = .ok (.invokestatic 131, 3) := by decide +kernel
theorem dX4_move_17 : decode cX4_move 17 = .ok (.ifCond .ne 9, 3) := by decide +kernel
theorem dX4_move_20 : decode cX4_move 20 = .ok (.aload_n 0, 1) := by decide +kernel
theorem dX4_move_21 : decode cX4_move 21 = .ok (.iconst 1, 1) := by decide +kernel
theorem dX4_move_22 : decode cX4_move 22 = .ok (.invokevirtual 134, 3) := by decide +kernel
theorem dX4_move_25 : decode cX4_move 25 = .ok (.ireturn, 1) := by decide +kernel
theorem dX4_move_26 : decode cX4_move 26 = .ok (.aload_n 0, 1) := by decide +kernel
theorem dX4_move_27 : decode cX4_move 27 = .ok (.iload_n 1, 1) := by decide +kernel
theorem dX4_move_28 : decode cX4_move 28 = .ok (.invokevirtual 57, 3) := by decide +kernel
theorem dX4_move_31 : decode cX4_move 31 = .ok (.istore 4, 2) := by decide +kernel
theorem dX4_move_33 : decode cX4_move 33 = .ok (.iconst 4, 1) := by decide +kernel
theorem dX4_move_34 : decode cX4_move 34 = .ok (.iload_n 2, 1) := by decide +kernel
theorem dX4_move_35 : decode cX4_move 35 = .ok (.imul, 1) := by decide +kernel
theorem dX4_move_36 : decode cX4_move 36 = .ok (.iload_n 3, 1) := by decide +kernel
theorem dX4_move_37 : decode cX4_move 37 = .ok (.iadd, 1) := by decide +kernel
theorem dX4_move_38 : decode cX4_move 38 = .ok (.istore 5, 2) := by decide +kernel
theorem dX4_move_40 : decode cX4_move 40 = .ok (.iload 4, 2) := by decide +kernel
theorem dX4_move_42 : decode cX4_move 42 = .ok (.iconst (-1), 1) := by decide +kernel
theorem dX4_move_43 : decode cX4_move 43 = .ok (.if_icmp .eq 10, 3) := by decide +kernel
theorem dX4_move_46 : decode cX4_move 46 = .ok (.iload 4, 2) := by decide +kernel
theorem dX4_move_48 : decode cX4_move 48 = .ok (.iload 5, 2) := by decide +kernel
theorem dX4_move_50 : decode cX4_move 50 = .ok (.if_icmp .ne 9, 3) := by decide +kernel
theorem dX4_move_53 : decode cX4_move 53 = .ok (.aload_n 0, 1) := by decide +kernel
theorem dX4_move_54 : decode cX4_move 54 = .ok (.iconst 2, 1) := by decide +kernel
theorem dX4_move_55 : decode cX4_move 55 = .ok (.invokevirtual 134, 3) := by decide +kernel
theorem dX4_move_58 : decode cX4_move 58 = .ok (.ireturn, 1) := by decide +kernel
theorem dX4_move_59 : decode cX4_move 59 = .ok (.aload_n 0, 1) := by decide +kernel
theorem dX4_move_60 : decode cX4_move 60 = .ok (.invokevirtual 137, 3) := by decide +kernel
theorem dX4_move_63 : decode cX4_move 63 = .ok (.aload_n 0, 1) := by decide +kernel
theorem dX4_move_64 : decode cX4_move 64 = .ok (.iload_n 1, 1) := by decide +kernel
theorem dX4_move_65 : decode cX4_move 65 = .ok (.iload 5, 2) := by decide +kernel
theorem dX4_move_67 : decode cX4_move 67 = .ok (.aload_n 0, 1) := by decide +kernel
theorem dX4_move_68 : decode cX4_move 68 = .ok (.getfield 7, 3) := by decide +kernel
theorem dX4_move_71 : decode cX4_move 71 = .ok (.iconst 0, 1) := by decide +kernel
theorem dX4_move_72 : decode cX4_move 72 = .ok (.iload 5, 2) := by decide +kernel
theorem dX4_move_74 : decode cX4_move 74 = .ok (.iadd, 1) := by decide +kernel
theorem dX4_move_75 : decode cX4_move 75 = .ok (.iaload, 1) := by decide +kernel
theorem dX4_move_76 : decode cX4_move 76 = .ok (.invokevirtual 140, 3) := by decide +kernel
theorem dX4_move_79 : decode cX4_move 79 = .ok (.istore 6, 2) := by decide +kernel
theorem dX4_move_81 : decode cX4_move 81 = .ok (.iload 6, 2) := by decide +kernel
theorem dX4_move_83 : decode cX4_move 83 = .ok (.ifCond .ne 45, 3) := by decide +kernel
theorem dX4_move_86 : decode cX4_move 86 = .ok (.aload_n 0, 1) := by decide +kernel
theorem dX4_move_87 : decode cX4_move 87 = .ok (.iload 4, 2) := by decide +kernel
theorem dX4_move_89 : decode cX4_move 89 = .ok (.aload_n 0, 1) := by decide +kernel
theorem dX4_move_90 : decode cX4_move 90 = .ok (.iload_n 1, 1) := by decide +kernel
theorem dX4_move_91 : decode cX4_move 91 = .ok (.invokevirtual 122, 3) := by decide +kernel
theorem dX4_move_94 : decode cX4_move 94 = .ok (.invokevirtual 68, 3) := by decide +kernel
theorem dX4_move_97 : decode cX4_move 97 = .ok (.aload_n 0, 1) := by decide +kernel
theorem dX4_move_98 : decode cX4_move 98 = .ok (.iload_n 1, 1) := by decide +kernel
theorem dX4_move_99 : decode cX4_move 99 = .ok (.iload 5, 2) := by decide +kernel
theorem dX4_move_101 : decode cX4_move 101 = .ok (.aload_n 0, 1) := by decide +kernel
theorem dX4_move_102 : decode cX4_move 102 = .ok (.getfield 7, 3) := by decide +kernel
theorem dX4_move_105 : decode cX4_move 105 = .ok (.iconst 0, 1) := by decide +kernel
theorem dX4_move_106 : decode cX4_move 106 = .ok (.iload 5, 2) := by decide +kernel
theorem dX4_move_108 : decode cX4_move 108 = .ok (.iadd, 1) := by decide +kernel
theorem dX4_move_109 : decode cX4_move 109 = .ok (.iaload, 1) := by decide +kernel
theorem dX4_move_110 : decode cX4_move 110 = .ok (.invokevirtual 144, 3) := by decide +kernel
theorem dX4_move_113 : decode cX4_move 113 = .ok (.aload_n 0, 1) := by decide +kernel
theorem dX4_move_114 : decode cX4_move 114 = .ok (.getfield 7, 3) := by decide +kernel
theorem dX4_move_117 : decode cX4_move 117 = .ok (.sipush 180, 3) := by decide +kernel
theorem dX4_move_120 : decode cX4_move 120 = .ok (.dup2, 1) := by decide +kernel
theorem dX4_move_121 : decode cX4_move 121 = .ok (.iaload, 1) := by decide +kernel
theorem dX4_move_122 : decode cX4_move 122 = .ok (.iconst 1, 1) := by decide +kernel
theorem dX4_move_123 : decode cX4_move 123 = .ok (.iadd, 1) := by decide +kernel
theorem dX4_move_124 : decode cX4_move 124 = .ok (.iastore, 1) := by decide +kernel
theorem dX4_move_125 : decode cX4_move 125 = .ok (.goto 15, 3) := by decide +kernel
theorem dX4_move_128 : decode cX4_move 128 = .ok (.aload_n 0, 1) := by decide +kernel
theorem dX4_move_129 : decode cX4_move 129 = .ok (.getfield 7, 3) := by decide +kernel
theorem dX4_move_132 : decode cX4_move 132 = .ok (.sipush 181, 3) := by decide +kernel
theorem dX4_move_135 : decode cX4_move 135 = .ok (.dup2, 1) := by decide +kernel
theorem dX4_move_136 : decode cX4_move 136 = .ok (.iaload, 1) := by decide +kernel
theorem dX4_move_137 : decode cX4_move 137 = .ok (.iconst 1, 1) := by decide +kernel
theorem dX4_move_138 : decode cX4_move 138 = .ok (.iadd, 1) := by decide +kernel
theorem dX4_move_139 : decode cX4_move 139 = .ok (.iastore, 1) := by decide +kernel
theorem dX4_move_140 : decode cX4_move 140 = .ok (.iload 6, 2) := by decide +kernel
theorem dX4_move_142 : decode cX4_move 142 = .ok (.ireturn, 1) := by decide +kernel
theorem dX4_clearDoor_0 : decode cX4_clearDoor 0 = .ok (.aload_n 0, 1) := by decide +kernel
theorem dX4_clearDoor_1 : decode cX4_clearDoor 1 = .ok (.iconst 0, 1) := by decide +kernel
theorem dX4_clearDoor_2 : decode cX4_clearDoor 2 = .ok (.putfield 38, 3) := by decide +kernel
theorem dX4_clearDoor_5 : decode cX4_clearDoor 5 = .ok (.iload_n 1, 1) := by decide +kernel
theorem dX4_clearDoor_6 : decode cX4_clearDoor 6 = .ok (.invokestatic 46, 3) := by decide +kernel
theorem dX4_clearDoor_9 : decode cX4_clearDoor 9 = .ok (.ifCond .ne 9, 3) := by decide +kernel
theorem dX4_clearDoor_12 : decode cX4_clearDoor 12 = .ok (.aload_n 0, 1) := by decide +kernel
theorem dX4_clearDoor_13 : decode cX4_clearDoor 13 = .ok (.iconst 1, 1) := by decide +kernel
theorem dX4_clearDoor_14 : decode cX4_clearDoor 14 = .ok (.invokevirtual 134, 3) := by decide +kernel
theorem dX4_clearDoor_17 : decode cX4_clearDoor 17 = .ok (.ireturn, 1) := by decide +kernel
theorem dX4_clearDoor_18 : decode cX4_clearDoor 18 = .ok (.aload_n 0, 1) := by decide +kernel
theorem dX4_clearDoor_19 : decode cX4_clearDoor 19 = .ok (.invokevirtual 137, 3) := by decide +kernel
theorem dX4_clearDoor_22 : decode cX4_clearDoor 22 = .ok (.aload_n 0, 1) := by decide +kernel
theorem dX4_clearDoor_23 : decode cX4_clearDoor 23 = .ok (.iload_n 1, 1) := by decide +kernel
theorem dX4_clearDoor_24 : decode cX4_clearDoor 24 = .ok (.invokevirtual 148, 3) := by decide +kernel
theorem dX4_clearDoor_27 : decode cX4_clearDoor 27 = .ok (.ireturn, 1) := by decide +kernel
theorem dX4_canLend_0 : decode cX4_canLend 0 = .ok (.aload_n 0, 1) := by decide +kernel
theorem dX4_canLend_1 : decode cX4_canLend 1 = .ok (.getfield 7, 3) := by decide +kernel
theorem dX4_canLend_4 : decode cX4_canLend 4 = .ok (.iconst 0, 1) := by decide +kernel
theorem dX4_canLend_5 : decode cX4_canLend 5 = .ok (.iload_n 1, 1) := by decide +kernel
theorem dX4_canLend_6 : decode cX4_canLend 6 = .ok (.iadd, 1) := by decide +kernel
theorem dX4_canLend_7 : decode cX4_canLend 7 = .ok (.iaload, 1) := by decide +kernel
theorem dX4_canLend_8 : decode cX4_canLend 8 = .ok (.ifCond .le 28, 3) := by decide +kernel
theorem dX4_canLend_11 : decode cX4_canLend 11 = .ok (.aload_n 0, 1) := by decide +kernel
theorem dX4_canLend_12 : decode cX4_canLend 12 = .ok (.getfield 7, 3) := by decide +kernel
theorem dX4_canLend_15 : decode cX4_canLend 15 = .ok (.bipush 112, 2) := by decide +kernel
theorem dX4_canLend_17 : decode cX4_canLend 17 = .ok (.iload_n 1, 1) := by decide +kernel
theorem dX4_canLend_18 : decode cX4_canLend 18 = .ok (.iadd, 1) := by decide +kernel
theorem dX4_canLend_19 : decode cX4_canLend 19 = .ok (.iaload, 1) := by decide +kernel
theorem dX4_canLend_20 : decode cX4_canLend 20 = .ok (.ifCond .ne 16, 3) := by decide +kernel
theorem dX4_canLend_23 : decode cX4_canLend 23 = .ok (.aload_n 0, 1) := by decide +kernel
theorem dX4_canLend_24 : decode cX4_canLend 24 = .ok (.iload_n 1, 1) := by decide +kernel
theorem dX4_canLend_25 : decode cX4_canLend 25 = .ok (.invokevirtual 151, 3) := by decide +kernel
theorem dX4_canLend_28 : decode cX4_canLend 28 = .ok (.iconst (-1), 1) := by decide +kernel
theorem dX4_canLend_29 : decode cX4_canLend 29 = .ok (.if_icmp .ne 7, 3) := by decide +kernel
theorem dX4_canLend_32 : decode cX4_canLend 32 = .ok (.iconst 1, 1) := by decide +kernel
theorem dX4_canLend_33 : decode cX4_canLend 33 = .ok (.goto 4, 3) := by decide +kernel
theorem dX4_canLend_36 : decode cX4_canLend 36 = .ok (.iconst 0, 1) := by decide +kernel
theorem dX4_canLend_37 : decode cX4_canLend 37 = .ok (.ireturn, 1) := by decide +kernel
theorem dX4_borrow_0 : decode cX4_borrow 0 = .ok (.aload_n 0, 1) := by decide +kernel
theorem dX4_borrow_1 : decode cX4_borrow 1 = .ok (.iconst 0, 1) := by decide +kernel
theorem dX4_borrow_2 : decode cX4_borrow 2 = .ok (.putfield 38, 3) := by decide +kernel
theorem dX4_borrow_5 : decode cX4_borrow 5 = .ok (.iload_n 1, 1) := by decide +kernel
theorem dX4_borrow_6 : decode cX4_borrow 6 = .ok (.iload_n 2, 1) := by decide +kernel
theorem dX4_borrow_7 : decode cX4_borrow 7 = .ok (.invokestatic 131, 3) := by decide +kernel
theorem dX4_borrow_10 : decode cX4_borrow 10 = .ok (.ifCond .eq 12, 3) := by decide +kernel
theorem dX4_borrow_13 : decode cX4_borrow 13 = .ok (.iload_n 3, 1) := by decide +kernel
theorem dX4_borrow_14 : decode cX4_borrow 14 = .ok (.iload 4, 2) := by decide +kernel
theorem dX4_borrow_16 : decode cX4_borrow 16 = .ok (.invokestatic 131, 3) := by decide +kernel
theorem dX4_borrow_19 : decode cX4_borrow 19 = .ok (.ifCond .ne 9, 3) := by decide +kernel
theorem dX4_borrow_22 : decode cX4_borrow 22 = .ok (.aload_n 0, 1) := by decide +kernel
theorem dX4_borrow_23 : decode cX4_borrow 23 = .ok (.iconst 1, 1) := by decide +kernel
theorem dX4_borrow_24 : decode cX4_borrow 24 = .ok (.invokevirtual 134, 3) := by decide +kernel
theorem dX4_borrow_27 : decode cX4_borrow 27 = .ok (.ireturn, 1) := by decide +kernel
theorem dX4_borrow_28 : decode cX4_borrow 28 = .ok (.iload_n 1, 1) := by decide +kernel
theorem dX4_borrow_29 : decode cX4_borrow 29 = .ok (.iload_n 3, 1) := by decide +kernel
theorem dX4_borrow_30 : decode cX4_borrow 30 = .ok (.if_icmp .ne 9, 3) := by decide +kernel
theorem dX4_borrow_33 : decode cX4_borrow 33 = .ok (.aload_n 0, 1) := by decide +kernel
theorem dX4_borrow_34 : decode cX4_borrow 34 = .ok (.iconst 2, 1) := by decide +kernel
theorem dX4_borrow_35 : decode cX4_borrow 35 = .ok (.invokevirtual 134, 3) := by decide +kernel
theorem dX4_borrow_38 : decode cX4_borrow 38 = .ok (.ireturn, 1) := by decide +kernel
theorem dX4_borrow_39 : decode cX4_borrow 39 = .ok (.iconst 4, 1) := by decide +kernel
theorem dX4_borrow_40 : decode cX4_borrow 40 = .ok (.iload_n 1, 1) := by decide +kernel
theorem dX4_borrow_41 : decode cX4_borrow 41 = .ok (.imul, 1) := by decide +kernel
theorem dX4_borrow_42 : decode cX4_borrow 42 = .ok (.iload_n 2, 1) := by decide +kernel
theorem dX4_borrow_43 : decode cX4_borrow 43 = .ok (.iadd, 1) := by decide +kernel
theorem dX4_borrow_44 : decode cX4_borrow 44 = .ok (.istore 5, 2) := by decide +kernel
theorem dX4_borrow_46 : decode cX4_borrow 46 = .ok (.iconst 4, 1) := by decide +kernel
theorem dX4_borrow_47 : decode cX4_borrow 47 = .ok (.iload_n 3, 1) := by decide +kernel
theorem dX4_borrow_48 : decode cX4_borrow 48 = .ok (.imul, 1) := by decide +kernel
theorem dX4_borrow_49 : decode cX4_borrow 49 = .ok (.iload 4, 2) := by decide +kernel
theorem dX4_borrow_51 : decode cX4_borrow 51 = .ok (.iadd, 1) := by decide +kernel
theorem dX4_borrow_52 : decode cX4_borrow 52 = .ok (.istore 6, 2) := by decide +kernel
theorem dX4_borrow_54 : decode cX4_borrow 54 = .ok (.aload_n 0, 1) := by decide +kernel
theorem dX4_borrow_55 : decode cX4_borrow 55 = .ok (.iload 5, 2) := by decide +kernel
theorem dX4_borrow_57 : decode cX4_borrow 57 = .ok (.invokevirtual 154, 3) := by decide +kernel
theorem dX4_borrow_60 : decode cX4_borrow 60 = .ok (.ifCond .eq 12, 3) := by decide +kernel
theorem dX4_borrow_63 : decode cX4_borrow 63 = .ok (.aload_n 0, 1) := by decide +kernel
theorem dX4_borrow_64 : decode cX4_borrow 64 = .ok (.iload 6, 2) := by decide +kernel
theorem dX4_borrow_66 : decode cX4_borrow 66 = .ok (.invokevirtual 154, 3) := by decide +kernel
theorem dX4_borrow_69 : decode cX4_borrow 69 = .ok (.ifCond .ne 9, 3) := by decide +kernel
theorem dX4_borrow_72 : decode cX4_borrow 72 = .ok (.aload_n 0, 1) := by decide +kernel
theorem dX4_borrow_73 : decode cX4_borrow 73 = .ok (.iconst 3, 1) := by decide +kernel
theorem dX4_borrow_74 : decode cX4_borrow 74 = .ok (.invokevirtual 134, 3) := by decide +kernel
theorem dX4_borrow_77 : decode cX4_borrow 77 = .ok (.ireturn, 1) := by decide +kernel
theorem dX4_borrow_78 : decode cX4_borrow 78 = .ok (.aload_n 0, 1) := by decide +kernel
theorem dX4_borrow_79 : decode cX4_borrow 79 = .ok (.invokevirtual 137, 3) := by decide +kernel
theorem dX4_borrow_82 : decode cX4_borrow 82 = .ok (.aload_n 0, 1) := by decide +kernel
theorem dX4_borrow_83 : decode cX4_borrow 83 = .ok (.getfield 7, 3) := by decide +kernel
theorem dX4_borrow_86 : decode cX4_borrow 86 = .ok (.bipush 112, 2) := by decide +kernel
theorem dX4_borrow_88 : decode cX4_borrow 88 = .ok (.iload 5, 2) := by decide +kernel
theorem dX4_borrow_90 : decode cX4_borrow 90 = .ok (.iadd, 1) := by decide +kernel
theorem dX4_borrow_91 : decode cX4_borrow 91 = .ok (.iload 6, 2) := by decide +kernel
theorem dX4_borrow_93 : decode cX4_borrow 93 = .ok (.iconst 1, 1) := by decide +kernel
theorem dX4_borrow_94 : decode cX4_borrow 94 = .ok (.iadd, 1) := by decide +kernel
theorem dX4_borrow_95 : decode cX4_borrow 95 = .ok (.iastore, 1) := by decide +kernel
theorem dX4_borrow_96 : decode cX4_borrow 96 = .ok (.aload_n 0, 1) := by decide +kernel
theorem dX4_borrow_97 : decode cX4_borrow 97 = .ok (.iload 5, 2) := by decide +kernel
theorem dX4_borrow_99 : decode cX4_borrow 99 = .ok (.invokevirtual 94, 3) := by decide +kernel
theorem dX4_borrow_102 : decode cX4_borrow 102 = .ok (.ireturn, 1) := by decide +kernel
theorem dX4_bringBack_0 : decode cX4_bringBack 0 = .ok (.aload_n 0, 1) := by decide +kernel
theorem dX4_bringBack_1 : decode cX4_bringBack 1 = .ok (.iconst 0, 1) := by decide +kernel
theorem dX4_bringBack_2 : decode cX4_bringBack 2 = .ok (.putfield 38, 3) := by decide +kernel
theorem dX4_bringBack_5 : decode cX4_bringBack 5 = .ok (.iload_n 1, 1) := by decide +kernel
theorem dX4_bringBack_6 : decode cX4_bringBack 6 = .ok (.iload_n 2, 1) := by decide +kernel
theorem dX4_bringBack_7 : decode cX4_bringBack 7 = .ok (.invokestatic 131, 3) := by decide +kernel
theorem dX4_bringBack_10 : decode cX4_bringBack 10 = .ok (.ifCond .ne 9, 3) := by decide +kernel
theorem dX4_bringBack_13 : decode cX4_bringBack 13 = .ok (.aload_n 0, 1) := by decide +kernel
theorem dX4_bringBack_14 : decode cX4_bringBack 14 = .ok (.iconst 1, 1) := by decide +kernel
theorem dX4_bringBack_15 : decode cX4_bringBack 15 = .ok (.invokevirtual 134, 3) := by decide +kernel
theorem dX4_bringBack_18 : decode cX4_bringBack 18 = .ok (.ireturn, 1) := by decide +kernel
theorem dX4_bringBack_19 : decode cX4_bringBack 19 = .ok (.aload_n 0, 1) := by decide +kernel
theorem dX4_bringBack_20 : decode cX4_bringBack 20 = .ok (.getfield 7, 3) := by decide +kernel
theorem dX4_bringBack_23 : decode cX4_bringBack 23 = .ok (.bipush 112, 2) := by decide +kernel
theorem dX4_bringBack_25 : decode cX4_bringBack 25 = .ok (.iconst 4, 1) := by decide +kernel
theorem dX4_bringBack_26 : decode cX4_bringBack 26 = .ok (.iload_n 1, 1) := by decide +kernel
theorem dX4_bringBack_27 : decode cX4_bringBack 27 = .ok (.imul, 1) := by decide +kernel
theorem dX4_bringBack_28 : decode cX4_bringBack 28 = .ok (.iadd, 1) := by decide +kernel
theorem dX4_bringBack_29 : decode cX4_bringBack 29 = .ok (.iload_n 2, 1) := by decide +kernel
theorem dX4_bringBack_30 : decode cX4_bringBack 30 = .ok (.iadd, 1) := by decide +kernel
theorem dX4_bringBack_31 : decode cX4_bringBack 31 = .ok (.iaload, 1) := by decide +kernel
theorem dX4_bringBack_32 : decode cX4_bringBack 32 = .ok (.ifCond .ne 9, 3) := by decide +kernel
theorem dX4_bringBack_35 : decode cX4_bringBack 35 = .ok (.aload_n 0, 1) := by decide +kernel
theorem dX4_bringBack_36 : decode cX4_bringBack 36 = .ok (.iconst 2, 1) := by decide +kernel
theorem dX4_bringBack_37 : decode cX4_bringBack 37 = .ok (.invokevirtual 134, 3) := by decide +kernel
theorem dX4_bringBack_40 : decode cX4_bringBack 40 = .ok (.ireturn, 1) := by decide +kernel
theorem dX4_bringBack_41 : decode cX4_bringBack 41 = .ok (.aload_n 0, 1) := by decide +kernel
theorem dX4_bringBack_42 : decode cX4_bringBack 42 = .ok (.invokevirtual 137, 3) := by decide +kernel
theorem dX4_bringBack_45 : decode cX4_bringBack 45 = .ok (.aload_n 0, 1) := by decide +kernel
theorem dX4_bringBack_46 : decode cX4_bringBack 46 = .ok (.getfield 7, 3) := by decide +kernel
theorem dX4_bringBack_49 : decode cX4_bringBack 49 = .ok (.bipush 112, 2) := by decide +kernel
theorem dX4_bringBack_51 : decode cX4_bringBack 51 = .ok (.iconst 4, 1) := by decide +kernel
theorem dX4_bringBack_52 : decode cX4_bringBack 52 = .ok (.iload_n 1, 1) := by decide +kernel
theorem dX4_bringBack_53 : decode cX4_bringBack 53 = .ok (.imul, 1) := by decide +kernel
theorem dX4_bringBack_54 : decode cX4_bringBack 54 = .ok (.iadd, 1) := by decide +kernel
theorem dX4_bringBack_55 : decode cX4_bringBack 55 = .ok (.iload_n 2, 1) := by decide +kernel
theorem dX4_bringBack_56 : decode cX4_bringBack 56 = .ok (.iadd, 1) := by decide +kernel
theorem dX4_bringBack_57 : decode cX4_bringBack 57 = .ok (.iconst 0, 1) := by decide +kernel
theorem dX4_bringBack_58 : decode cX4_bringBack 58 = .ok (.iastore, 1) := by decide +kernel
theorem dX4_bringBack_59 : decode cX4_bringBack 59 = .ok (.aload_n 0, 1) := by decide +kernel
theorem dX4_bringBack_60 : decode cX4_bringBack 60 = .ok (.iconst 4, 1) := by decide +kernel
theorem dX4_bringBack_61 : decode cX4_bringBack 61 = .ok (.iload_n 1, 1) := by decide +kernel
theorem dX4_bringBack_62 : decode cX4_bringBack 62 = .ok (.imul, 1) := by decide +kernel
theorem dX4_bringBack_63 : decode cX4_bringBack 63 = .ok (.iload_n 2, 1) := by decide +kernel
theorem dX4_bringBack_64 : decode cX4_bringBack 64 = .ok (.iadd, 1) := by decide +kernel
theorem dX4_bringBack_65 : decode cX4_bringBack 65 = .ok (.invokevirtual 94, 3) := by decide +kernel
theorem dX4_bringBack_68 : decode cX4_bringBack 68 = .ok (.ireturn, 1) := by decide +kernel
theorem dX4_sleep_0 : decode cX4_sleep 0 = .ok (.aload_n 0, 1) := by decide +kernel
theorem dX4_sleep_1 : decode cX4_sleep 1 = .ok (.iconst 0, 1) := by decide +kernel
theorem dX4_sleep_2 : decode cX4_sleep 2 = .ok (.putfield 38, 3) := by decide +kernel
theorem dX4_sleep_5 : decode cX4_sleep 5 = .ok (.iload_n 1, 1) := by decide +kernel
theorem dX4_sleep_6 : decode cX4_sleep 6 = .ok (.iconst 1, 1) := by decide +kernel
theorem dX4_sleep_7 : decode cX4_sleep 7 = .ok (.bipush 20, 2) := by decide +kernel
theorem dX4_sleep_9 : decode cX4_sleep 9 = .ok (.invokestatic 42, 3) := by decide +kernel
theorem dX4_sleep_12 : decode cX4_sleep 12 = .ok (.ifCond .ne 9, 3) := by decide +kernel
theorem dX4_sleep_15 : decode cX4_sleep 15 = .ok (.aload_n 0, 1) := by decide +kernel
theorem dX4_sleep_16 : decode cX4_sleep 16 = .ok (.iconst 1, 1) := by decide +kernel
theorem dX4_sleep_17 : decode cX4_sleep 17 = .ok (.invokevirtual 134, 3) := by decide +kernel
theorem dX4_sleep_20 : decode cX4_sleep 20 = .ok (.ireturn, 1) := by decide +kernel
theorem dX4_sleep_21 : decode cX4_sleep 21 = .ok (.aload_n 0, 1) := by decide +kernel
theorem dX4_sleep_22 : decode cX4_sleep 22 = .ok (.getfield 7, 3) := by decide +kernel
theorem dX4_sleep_25 : decode cX4_sleep 25 = .ok (.sipush 179, 3) := by decide +kernel
theorem dX4_sleep_28 : decode cX4_sleep 28 = .ok (.iaload, 1) := by decide +kernel
theorem dX4_sleep_29 : decode cX4_sleep 29 = .ok (.iload_n 1, 1) := by decide +kernel
theorem dX4_sleep_30 : decode cX4_sleep 30 = .ok (.iadd, 1) := by decide +kernel
theorem dX4_sleep_31 : decode cX4_sleep 31 = .ok (.sipush 9999, 3) := by decide +kernel
theorem dX4_sleep_34 : decode cX4_sleep 34 = .ok (.if_icmp .le 9, 3) := by decide +kernel
theorem dX4_sleep_37 : decode cX4_sleep 37 = .ok (.aload_n 0, 1) := by decide +kernel
theorem dX4_sleep_38 : decode cX4_sleep 38 = .ok (.iconst 2, 1) := by decide +kernel
theorem dX4_sleep_39 : decode cX4_sleep 39 = .ok (.invokevirtual 134, 3) := by decide +kernel
theorem dX4_sleep_42 : decode cX4_sleep 42 = .ok (.ireturn, 1) := by decide +kernel
theorem dX4_sleep_43 : decode cX4_sleep 43 = .ok (.aload_n 0, 1) := by decide +kernel
theorem dX4_sleep_44 : decode cX4_sleep 44 = .ok (.invokevirtual 137, 3) := by decide +kernel
theorem dX4_sleep_47 : decode cX4_sleep 47 = .ok (.aload_n 0, 1) := by decide +kernel
theorem dX4_sleep_48 : decode cX4_sleep 48 = .ok (.iload_n 1, 1) := by decide +kernel
theorem dX4_sleep_49 : decode cX4_sleep 49 = .ok (.invokevirtual 157, 3) := by decide +kernel
theorem dX4_sleep_52 : decode cX4_sleep 52 = .ok (.ireturn, 1) := by decide +kernel
theorem dX4_mostOf_0 : decode cX4_mostOf 0 = .ok (.iload_n 0, 1) := by decide +kernel
theorem dX4_mostOf_1 : decode cX4_mostOf 1 = .ok (.ifCond .ne 7, 3) := by decide +kernel
theorem dX4_mostOf_4 : decode cX4_mostOf 4 = .ok (.iconst 1, 1) := by decide +kernel
theorem dX4_mostOf_5 : decode cX4_mostOf 5 = .ok (.goto 16, 3) := by decide +kernel
theorem dX4_mostOf_8 : decode cX4_mostOf 8 = .ok (.iload_n 0, 1) := by decide +kernel
theorem dX4_mostOf_9 : decode cX4_mostOf 9 = .ok (.iconst 1, 1) := by decide +kernel
theorem dX4_mostOf_10 : decode cX4_mostOf 10 = .ok (.if_icmp .ne 9, 3) := by decide +kernel
theorem dX4_mostOf_13 : decode cX4_mostOf 13 = .ok (.sipush 200, 3) := by decide +kernel
theorem dX4_mostOf_16 : decode cX4_mostOf 16 = .ok (.goto 5, 3) := by decide +kernel
theorem dX4_mostOf_19 : decode cX4_mostOf 19 = .ok (.bipush 9, 2) := by decide +kernel
theorem dX4_mostOf_21 : decode cX4_mostOf 21 = .ok (.ireturn, 1) := by decide +kernel
theorem dX4_set_0 : decode cX4_set 0 = .ok (.aload_n 0, 1) := by decide +kernel
theorem dX4_set_1 : decode cX4_set 1 = .ok (.iconst 0, 1) := by decide +kernel
theorem dX4_set_2 : decode cX4_set 2 = .ok (.putfield 38, 3) := by decide +kernel
theorem dX4_set_5 : decode cX4_set 5 = .ok (.iload_n 1, 1) := by decide +kernel
theorem dX4_set_6 : decode cX4_set 6 = .ok (.iconst 0, 1) := by decide +kernel
theorem dX4_set_7 : decode cX4_set 7 = .ok (.iconst 2, 1) := by decide +kernel
theorem dX4_set_8 : decode cX4_set 8 = .ok (.invokestatic 42, 3) := by decide +kernel
theorem dX4_set_11 : decode cX4_set 11 = .ok (.ifCond .ne 9, 3) := by decide +kernel
theorem dX4_set_14 : decode cX4_set 14 = .ok (.aload_n 0, 1) := by decide +kernel
theorem dX4_set_15 : decode cX4_set 15 = .ok (.iconst 1, 1) := by decide +kernel
theorem dX4_set_16 : decode cX4_set 16 = .ok (.invokevirtual 134, 3) := by decide +kernel
theorem dX4_set_19 : decode cX4_set 19 = .ok (.ireturn, 1) := by decide +kernel
theorem dX4_set_20 : decode cX4_set 20 = .ok (.iload_n 2, 1) := by decide +kernel
theorem dX4_set_21 : decode cX4_set 21 = .ok (.iconst 0, 1) := by decide +kernel
theorem dX4_set_22 : decode cX4_set 22 = .ok (.iload_n 1, 1) := by decide +kernel
theorem dX4_set_23 : decode cX4_set 23 = .ok (.invokestatic 160, 3) := by decide +kernel
theorem dX4_set_26 : decode cX4_set 26 = .ok (.invokestatic 42, 3) := by decide +kernel
theorem dX4_set_29 : decode cX4_set 29 = .ok (.ifCond .ne 9, 3) := by decide +kernel
theorem dX4_set_32 : decode cX4_set 32 = .ok (.aload_n 0, 1) := by decide +kernel
theorem dX4_set_33 : decode cX4_set 33 = .ok (.iconst 2, 1) := by decide +kernel
theorem dX4_set_34 : decode cX4_set 34 = .ok (.invokevirtual 134, 3) := by decide +kernel
theorem dX4_set_37 : decode cX4_set 37 = .ok (.ireturn, 1) := by decide +kernel
theorem dX4_set_38 : decode cX4_set 38 = .ok (.aload_n 0, 1) := by decide +kernel
theorem dX4_set_39 : decode cX4_set 39 = .ok (.invokevirtual 137, 3) := by decide +kernel
theorem dX4_set_42 : decode cX4_set 42 = .ok (.aload_n 0, 1) := by decide +kernel
theorem dX4_set_43 : decode cX4_set 43 = .ok (.getfield 7, 3) := by decide +kernel
theorem dX4_set_46 : decode cX4_set 46 = .ok (.sipush 176, 3) := by decide +kernel
theorem dX4_set_49 : decode cX4_set 49 = .ok (.iload_n 1, 1) := by decide +kernel
theorem dX4_set_50 : decode cX4_set 50 = .ok (.iadd, 1) := by decide +kernel
theorem dX4_set_51 : decode cX4_set 51 = .ok (.iaload, 1) := by decide +kernel
theorem dX4_set_52 : decode cX4_set 52 = .ok (.istore_n 3, 1) := by decide +kernel
theorem dX4_set_53 : decode cX4_set 53 = .ok (.aload_n 0, 1) := by decide +kernel
theorem dX4_set_54 : decode cX4_set 54 = .ok (.getfield 7, 3) := by decide +kernel
theorem dX4_set_57 : decode cX4_set 57 = .ok (.sipush 176, 3) := by decide +kernel
theorem dX4_set_60 : decode cX4_set 60 = .ok (.iload_n 1, 1) := by decide +kernel
theorem dX4_set_61 : decode cX4_set 61 = .ok (.iadd, 1) := by decide +kernel
theorem dX4_set_62 : decode cX4_set 62 = .ok (.iload_n 2, 1) := by decide +kernel
theorem dX4_set_63 : decode cX4_set 63 = .ok (.iastore, 1) := by decide +kernel
theorem dX4_set_64 : decode cX4_set 64 = .ok (.iload_n 3, 1) := by decide +kernel
theorem dX4_set_65 : decode cX4_set 65 = .ok (.ireturn, 1) := by decide +kernel
theorem dX4_append_0 : decode cX4_append 0 = .ok (.aload_n 0, 1) := by decide +kernel
theorem dX4_append_1 : decode cX4_append 1 = .ok (.iconst 0, 1) := by decide +kernel
theorem dX4_append_2 : decode cX4_append 2 = .ok (.putfield 38, 3) := by decide +kernel
theorem dX4_append_5 : decode cX4_append 5 = .ok (.iload_n 1, 1) := by decide +kernel
theorem dX4_append_6 : decode cX4_append 6 = .ok (.bipush 33, 2) := by decide +kernel
theorem dX4_append_8 : decode cX4_append 8 = .ok (.bipush 126, 2) := by decide +kernel
theorem dX4_append_10 : decode cX4_append 10 = .ok (.invokestatic 42, 3) := by decide +kernel
theorem dX4_append_13 : decode cX4_append 13 = .ok (.ifCond .ne 9, 3) := by decide +kernel
theorem dX4_append_16 : decode cX4_append 16 = .ok (.aload_n 0, 1) := by decide +kernel
theorem dX4_append_17 : decode cX4_append 17 = .ok (.iconst 1, 1) := by decide +kernel
theorem dX4_append_18 : decode cX4_append 18 = .ok (.invokevirtual 134, 3) := by decide +kernel
theorem dX4_append_21 : decode cX4_append 21 = .ok (.ireturn, 1) := by decide +kernel
theorem dX4_append_22 : decode cX4_append 22 = .ok (.aload_n 0, 1) := by decide +kernel
theorem dX4_append_23 : decode cX4_append 23 = .ok (.getfield 163, 3) := by decide +kernel
theorem dX4_append_26 : decode cX4_append 26 = .ok (.bipush 60, 2) := by decide +kernel
theorem dX4_append_28 : decode cX4_append 28 = .ok (.if_icmp .ne 9, 3) := by decide +kernel
theorem dX4_append_31 : decode cX4_append 31 = .ok (.aload_n 0, 1) := by decide +kernel
theorem dX4_append_32 : decode cX4_append 32 = .ok (.iconst 2, 1) := by decide +kernel
theorem dX4_append_33 : decode cX4_append 33 = .ok (.invokevirtual 134, 3) := by decide +kernel
theorem dX4_append_36 : decode cX4_append 36 = .ok (.ireturn, 1) := by decide +kernel
theorem dX4_append_37 : decode cX4_append 37 = .ok (.aload_n 0, 1) := by decide +kernel
theorem dX4_append_38 : decode cX4_append 38 = .ok (.getfield 26, 3) := by decide +kernel
theorem dX4_append_41 : decode cX4_append 41 = .ok (.aload_n 0, 1) := by decide +kernel
theorem dX4_append_42 : decode cX4_append 42 = .ok (.getfield 163, 3) := by decide +kernel
theorem dX4_append_45 : decode cX4_append 45 = .ok (.iload_n 1, 1) := by decide +kernel
theorem dX4_append_46 : decode cX4_append 46 = .ok (.iastore, 1) := by decide +kernel
theorem dX4_append_47 : decode cX4_append 47 = .ok (.aload_n 0, 1) := by decide +kernel
theorem dX4_append_48 : decode cX4_append 48 = .ok (.dup, 1) := by decide +kernel
theorem dX4_append_49 : decode cX4_append 49 = .ok (.getfield 163, 3) := by decide +kernel
theorem dX4_append_52 : decode cX4_append 52 = .ok (.iconst 1, 1) := by decide +kernel
theorem dX4_append_53 : decode cX4_append 53 = .ok (.iadd, 1) := by decide +kernel
theorem dX4_append_54 : decode cX4_append 54 = .ok (.putfield 163, 3) := by decide +kernel
theorem dX4_append_57 : decode cX4_append 57 = .ok (.aload_n 0, 1) := by decide +kernel
theorem dX4_append_58 : decode cX4_append 58 = .ok (.getfield 163, 3) := by decide +kernel
theorem dX4_append_61 : decode cX4_append 61 = .ok (.ireturn, 1) := by decide +kernel
theorem dX4_clearBuffer_0 : decode cX4_clearBuffer 0 = .ok (.aload_n 0, 1) := by decide +kernel
theorem dX4_clearBuffer_1 : decode cX4_clearBuffer 1 = .ok (.iconst 0, 1) := by decide +kernel
theorem dX4_clearBuffer_2 : decode cX4_clearBuffer 2 = .ok (.putfield 38, 3) := by decide +kernel
theorem dX4_clearBuffer_5 : decode cX4_clearBuffer 5 = .ok (.aload_n 0, 1) := by decide +kernel
theorem dX4_clearBuffer_6 : decode cX4_clearBuffer 6 = .ok (.getfield 163, 3) := by decide +kernel
theorem dX4_clearBuffer_9 : decode cX4_clearBuffer 9 = .ok (.istore_n 1, 1) := by decide +kernel
theorem dX4_clearBuffer_10 : decode cX4_clearBuffer 10 = .ok (.aload_n 0, 1) := by decide +kernel
theorem dX4_clearBuffer_11 : decode cX4_clearBuffer 11 = .ok (.iconst 0, 1) := by decide +kernel
theorem dX4_clearBuffer_12 : decode cX4_clearBuffer 12 = .ok (.putfield 163, 3) := by decide +kernel
theorem dX4_clearBuffer_15 : decode cX4_clearBuffer 15 = .ok (.iload_n 1, 1) := by decide +kernel
theorem dX4_clearBuffer_16 : decode cX4_clearBuffer 16 = .ok (.ireturn, 1) := by decide +kernel
theorem dX4_hasStood_0 : decode cX4_hasStood 0 = .ok (.aload_n 0, 1) := by decide +kernel
theorem dX4_hasStood_1 : decode cX4_hasStood 1 = .ok (.getfield 166, 3) := by decide +kernel
theorem dX4_hasStood_4 : decode cX4_hasStood 4 = .ok (.iload_n 1, 1) := by decide +kernel
theorem dX4_hasStood_5 : decode cX4_hasStood 5 = .ok (.lshr, 1) := by decide +kernel
theorem dX4_hasStood_6 : decode cX4_hasStood 6 = .ok (.lconst 1, 1) := by decide +kernel
theorem dX4_hasStood_7 : decode cX4_hasStood 7 = .ok (.land, 1) := by decide +kernel
theorem dX4_hasStood_8 : decode cX4_hasStood 8 = .ok (.lconst 1, 1) := by decide +kernel
theorem dX4_hasStood_9 : decode cX4_hasStood 9 = .ok (.lcmp, 1) := by decide +kernel
theorem dX4_hasStood_10 : decode cX4_hasStood 10 = .ok (.ifCond .ne 7, 3) := by decide +kernel
theorem dX4_hasStood_13 : decode cX4_hasStood 13 = .ok (.iconst 1, 1) := by decide +kernel
theorem dX4_hasStood_14 : decode cX4_hasStood 14 = .ok (.goto 4, 3) := by decide +kernel
theorem dX4_hasStood_17 : decode cX4_hasStood 17 = .ok (.iconst 0, 1) := by decide +kernel
theorem dX4_hasStood_18 : decode cX4_hasStood 18 = .ok (.ireturn, 1) := by decide +kernel
theorem dX4_digitAt_0 : decode cX4_digitAt 0 = .ok (.iload_n 1, 1) := by decide +kernel
theorem dX4_digitAt_1 : decode cX4_digitAt 1 = .ok (.aload_n 0, 1) := by decide +kernel
theorem dX4_digitAt_2 : decode cX4_digitAt 2 = .ok (.getfield 163, 3) := by decide +kernel
theorem dX4_digitAt_5 : decode cX4_digitAt 5 = .ok (.if_icmp .ge 31, 3) := by decide +kernel
theorem dX4_digitAt_8 : decode cX4_digitAt 8 = .ok (.aload_n 0, 1) := by decide +kernel
theorem dX4_digitAt_9 : decode cX4_digitAt 9 = .ok (.getfield 26, 3) := by decide +kernel
theorem dX4_digitAt_12 : decode cX4_digitAt 12 = .ok (.iload_n 1, 1) := by decide +kernel
theorem dX4_digitAt_13 : decode cX4_digitAt 13 = .ok (.iaload, 1) := by decide +kernel
theorem dX4_digitAt_14 : decode cX4_digitAt 14 = .ok (.bipush 48, 2) := by decide +kernel
theorem dX4_digitAt_16 : decode cX4_digitAt 16 = .ok (.bipush 57, 2) := by decide +kernel
theorem dX4_digitAt_18 : decode cX4_digitAt 18 = .ok (.invokestatic 42, 3) := by decide +kernel
theorem dX4_digitAt_21 : decode cX4_digitAt 21 = .ok (.ifCond .eq 15, 3) := by decide +kernel
theorem dX4_digitAt_24 : decode cX4_digitAt 24 = .ok (.aload_n 0, 1) := by decide +kernel
theorem dX4_digitAt_25 : decode cX4_digitAt 25 = .ok (.getfield 26, 3) := by decide +kernel
theorem dX4_digitAt_28 : decode cX4_digitAt 28 = .ok (.iload_n 1, 1) := by decide +kernel
theorem dX4_digitAt_29 : decode cX4_digitAt 29 = .ok (.iaload, 1) := by decide +kernel
theorem dX4_digitAt_30 : decode cX4_digitAt 30 = .ok (.bipush 48, 2) := by decide +kernel
theorem dX4_digitAt_32 : decode cX4_digitAt 32 = .ok (.isub, 1) := by decide +kernel
theorem dX4_digitAt_33 : decode cX4_digitAt 33 = .ok (.goto 4, 3) := by decide +kernel
theorem dX4_digitAt_36 : decode cX4_digitAt 36 = .ok (.iconst (-1), 1) := by decide +kernel
theorem dX4_digitAt_37 : decode cX4_digitAt 37 = .ok (.ireturn, 1) := by decide +kernel
theorem dX4_canBegin_0 : decode cX4_canBegin 0 = .ok (.aload_n 0, 1) := by decide +kernel
theorem dX4_canBegin_1 : decode cX4_canBegin 1 = .ok (.iload_n 1, 1) := by decide +kernel
theorem dX4_canBegin_2 : decode cX4_canBegin 2 = .ok (.invokevirtual 170, 3) := by decide +kernel
theorem dX4_canBegin_5 : decode cX4_canBegin 5 = .ok (.ifCond .ne 7, 3) := by decide +kernel
theorem dX4_canBegin_8 : decode cX4_canBegin 8 = .ok (.iconst 1, 1) := by decide +kernel
theorem dX4_canBegin_9 : decode cX4_canBegin 9 = .ok (.goto 4, 3) := by decide +kernel
theorem dX4_canBegin_12 : decode cX4_canBegin 12 = .ok (.iconst 0, 1) := by decide +kernel
theorem dX4_canBegin_13 : decode cX4_canBegin 13 = .ok (.istore_n 2, 1) := by decide +kernel
theorem dX4_canBegin_14 : decode cX4_canBegin 14 = .ok (.bipush 10, 2) := by decide +kernel
theorem dX4_canBegin_16 : decode cX4_canBegin 16 = .ok (.iload_n 1, 1) := by decide +kernel
theorem dX4_canBegin_17 : decode cX4_canBegin 17 = .ok (.imul, 1) := by decide +kernel
theorem dX4_canBegin_18 : decode cX4_canBegin 18 = .ok (.istore_n 3, 1) := by decide +kernel
theorem dX4_canBegin_19 : decode cX4_canBegin 19 = .ok (.iload_n 3, 1) := by decide +kernel
theorem dX4_canBegin_20 : decode cX4_canBegin 20 = .ok (.bipush 10, 2) := by decide +kernel
theorem dX4_canBegin_22 : decode cX4_canBegin 22 = .ok (.iload_n 1, 1) := by decide +kernel
theorem dX4_canBegin_23 : decode cX4_canBegin 23 = .ok (.imul, 1) := by decide +kernel
theorem dX4_canBegin_24 : decode cX4_canBegin 24 = .ok (.bipush 10, 2) := by decide +kernel
theorem dX4_canBegin_26 : decode cX4_canBegin 26 = .ok (.iadd, 1) := by decide +kernel
theorem dX4_canBegin_27 : decode cX4_canBegin 27 = .ok (.if_icmp .ge 36, 3) := by decide +kernel
theorem dX4_canBegin_30 : decode cX4_canBegin 30 = .ok (.iload_n 1, 1) := by decide +kernel
theorem dX4_canBegin_31 : decode cX4_canBegin 31 = .ok (.iconst 1, 1) := by decide +kernel
theorem dX4_canBegin_32 : decode cX4_canBegin 32 = .ok (.iconst 3, 1) := by decide +kernel
theorem dX4_canBegin_33 : decode cX4_canBegin 33 = .ok (.invokestatic 42, 3) := by decide +kernel
theorem dX4_canBegin_36 : decode cX4_canBegin 36 = .ok (.ifCond .eq 27, 3) := by decide +kernel
theorem dX4_canBegin_39 : decode cX4_canBegin 39 = .ok (.iload_n 2, 1) := by decide +kernel
theorem dX4_canBegin_40 : decode cX4_canBegin 40 = .ok (.ifCond .ne 11, 3) := by decide +kernel
theorem dX4_canBegin_43 : decode cX4_canBegin 43 = .ok (.aload_n 0, 1) := by decide +kernel
theorem dX4_canBegin_44 : decode cX4_canBegin 44 = .ok (.iload_n 3, 1) := by decide +kernel
theorem dX4_canBegin_45 : decode cX4_canBegin 45 = .ok (.invokevirtual 170, 3) := by decide +kernel
theorem dX4_canBegin_48 : decode cX4_canBegin 48 = .ok (.ifCond .ne 7, 3) := by decide +kernel
theorem dX4_canBegin_51 : decode cX4_canBegin 51 = .ok (.iconst 1, 1) := by decide +kernel
theorem dX4_canBegin_52 : decode cX4_canBegin 52 = .ok (.goto 4, 3) := by decide +kernel
theorem dX4_canBegin_55 : decode cX4_canBegin 55 = .ok (.iconst 0, 1) := by decide +kernel
theorem dX4_canBegin_56 : decode cX4_canBegin 56 = .ok (.istore_n 2, 1) := by decide +kernel
theorem dX4_canBegin_57 : decode cX4_canBegin 57 = .ok (.iinc 3 1, 3) := by decide +kernel
theorem dX4_canBegin_60 : decode cX4_canBegin 60 = .ok (.goto (-41), 3) := by decide +kernel
theorem dX4_canBegin_63 : decode cX4_canBegin 63 = .ok (.iload_n 2, 1) := by decide +kernel
theorem dX4_canBegin_64 : decode cX4_canBegin 64 = .ok (.ireturn, 1) := by decide +kernel
theorem dX4_readNumber_0 : decode cX4_readNumber 0 = .ok (.aload_n 0, 1) := by decide +kernel
theorem dX4_readNumber_1 : decode cX4_readNumber 1 = .ok (.aload_n 0, 1) := by decide +kernel
theorem dX4_readNumber_2 : decode cX4_readNumber 2 = .ok (.getfield 173, 3) := by decide +kernel
theorem dX4_readNumber_5 : decode cX4_readNumber 5 = .ok (.invokevirtual 176, 3) := by decide +kernel
theorem dX4_readNumber_8 : decode cX4_readNumber 8 = .ok (.istore_n 1, 1) := by decide +kernel
theorem dX4_readNumber_9 : decode cX4_readNumber 9 = .ok (.iload_n 1, 1) := by decide +kernel
theorem dX4_readNumber_10 : decode cX4_readNumber 10 = .ok (.iconst (-1), 1) := by decide +kernel
theorem dX4_readNumber_11 : decode cX4_readNumber 11 = .ok (.if_icmp .eq 11, 3) := by decide +kernel
theorem dX4_readNumber_14 : decode cX4_readNumber 14 = .ok (.aload_n 0, 1) := by decide +kernel
theorem dX4_readNumber_15 : decode cX4_readNumber 15 = .ok (.iload_n 1, 1) := by decide +kernel
theorem dX4_readNumber_16 : decode cX4_readNumber 16 = .ok (.invokevirtual 179, 3) := by decide +kernel
theorem dX4_readNumber_19 : decode cX4_readNumber 19 = .ok (.ifCond .ne 5, 3) := by decide +kernel
theorem dX4_readNumber_22 : decode cX4_readNumber 22 = .ok (.iconst (-1), 1) := by decide +kernel
theorem dX4_readNumber_23 : decode cX4_readNumber 23 = .ok (.ireturn, 1) := by decide +kernel
theorem dX4_readNumber_24 : decode cX4_readNumber 24 = .ok (.aload_n 0, 1) := by decide +kernel
theorem dX4_readNumber_25 : decode cX4_readNumber 25 = .ok (.dup, 1) := by decide +kernel
theorem dX4_readNumber_26 : decode cX4_readNumber 26 = .ok (.getfield 173, 3) := by decide +kernel
theorem dX4_readNumber_29 : decode cX4_readNumber 29 = .ok (.iconst 1, 1) := by decide +kernel
theorem dX4_readNumber_30 : decode cX4_readNumber 30 = .ok (.iadd, 1) := by decide +kernel
theorem dX4_readNumber_31 : decode cX4_readNumber 31 = .ok (.putfield 173, 3) := by decide +kernel
theorem dX4_readNumber_34 : decode cX4_readNumber 34 = .ok (.aload_n 0, 1) := by decide +kernel
theorem dX4_readNumber_35 : decode cX4_readNumber 35 = .ok (.aload_n 0, 1) := by decide +kernel
theorem dX4_readNumber_36 : decode cX4_readNumber 36 = .ok (.getfield 173, 3) := by decide +kernel
theorem dX4_readNumber_39 : decode cX4_readNumber 39 = .ok (.invokevirtual 176, 3) := by decide +kernel
theorem dX4_readNumber_42 : decode cX4_readNumber 42 = .ok (.istore_n 2, 1) := by decide +kernel
theorem dX4_readNumber_43 : decode cX4_readNumber 43 = .ok (.iload_n 1, 1) := by decide +kernel
theorem dX4_readNumber_44 : decode cX4_readNumber 44 = .ok (.iconst 1, 1) := by decide +kernel
theorem dX4_readNumber_45 : decode cX4_readNumber 45 = .ok (.iconst 3, 1) := by decide +kernel
theorem dX4_readNumber_46 : decode cX4_readNumber 46 = .ok (.invokestatic 42, 3) := by decide +kernel
theorem dX4_readNumber_49 : decode cX4_readNumber 49 = .ok (.ifCond .eq 8, 3) := by decide +kernel
theorem dX4_readNumber_52 : decode cX4_readNumber 52 = .ok (.iload_n 2, 1) := by decide +kernel
theorem dX4_readNumber_53 : decode cX4_readNumber 53 = .ok (.iconst (-1), 1) := by decide +kernel
theorem dX4_readNumber_54 : decode cX4_readNumber 54 = .ok (.if_icmp .ne 17, 3) := by decide +kernel
theorem dX4_readNumber_57 : decode cX4_readNumber 57 = .ok (.aload_n 0, 1) := by decide +kernel
theorem dX4_readNumber_58 : decode cX4_readNumber 58 = .ok (.iload_n 1, 1) := by decide +kernel
theorem dX4_readNumber_59 : decode cX4_readNumber 59 = .ok (.invokevirtual 170, 3) := by decide +kernel
theorem dX4_readNumber_62 : decode cX4_readNumber 62 = .ok (.ifCond .eq 7, 3) := by decide +kernel
theorem dX4_readNumber_65 : decode cX4_readNumber 65 = .ok (.iconst (-1), 1) := by decide +kernel
theorem dX4_readNumber_66 : decode cX4_readNumber 66 = .ok (.goto 4, 3) := by decide +kernel
theorem dX4_readNumber_69 : decode cX4_readNumber 69 = .ok (.iload_n 1, 1) := by decide +kernel
theorem dX4_readNumber_70 : decode cX4_readNumber 70 = .ok (.ireturn, 1) := by decide +kernel
theorem dX4_readNumber_71 : decode cX4_readNumber 71 = .ok (.aload_n 0, 1) := by decide +kernel
theorem dX4_readNumber_72 : decode cX4_readNumber 72 = .ok (.bipush 10, 2) := by decide +kernel
theorem dX4_readNumber_74 : decode cX4_readNumber 74 = .ok (.iload_n 1, 1) := by decide +kernel
theorem dX4_readNumber_75 : decode cX4_readNumber 75 = .ok (.imul, 1) := by decide +kernel
theorem dX4_readNumber_76 : decode cX4_readNumber 76 = .ok (.iload_n 2, 1) := by decide +kernel
theorem dX4_readNumber_77 : decode cX4_readNumber 77 = .ok (.iadd, 1) := by decide +kernel
theorem dX4_readNumber_78 : decode cX4_readNumber 78 = .ok (.invokevirtual 170, 3) := by decide +kernel
theorem dX4_readNumber_81 : decode cX4_readNumber 81 = .ok (.ifCond .eq 5, 3) := by decide +kernel
theorem dX4_readNumber_84 : decode cX4_readNumber 84 = .ok (.iconst (-1), 1) := by decide +kernel
theorem dX4_readNumber_85 : decode cX4_readNumber 85 = .ok (.ireturn, 1) := by decide +kernel
theorem dX4_readNumber_86 : decode cX4_readNumber 86 = .ok (.aload_n 0, 1) := by decide +kernel
theorem dX4_readNumber_87 : decode cX4_readNumber 87 = .ok (.dup, 1) := by decide +kernel
theorem dX4_readNumber_88 : decode cX4_readNumber 88 = .ok (.getfield 173, 3) := by decide +kernel
theorem dX4_readNumber_91 : decode cX4_readNumber 91 = .ok (.iconst 1, 1) := by decide +kernel
theorem dX4_readNumber_92 : decode cX4_readNumber 92 = .ok (.iadd, 1) := by decide +kernel
theorem dX4_readNumber_93 : decode cX4_readNumber 93 = .ok (.putfield 173, 3) := by decide +kernel
theorem dX4_readNumber_96 : decode cX4_readNumber 96 = .ok (.bipush 10, 2) := by decide +kernel
theorem dX4_readNumber_98 : decode cX4_readNumber 98 = .ok (.iload_n 1, 1) := by decide +kernel
theorem dX4_readNumber_99 : decode cX4_readNumber 99 = .ok (.imul, 1) := by decide +kernel
theorem dX4_readNumber_100 : decode cX4_readNumber 100 = .ok (.iload_n 2, 1) := by decide +kernel
theorem dX4_readNumber_101 : decode cX4_readNumber 101 = .ok (.iadd, 1) := by decide +kernel
theorem dX4_readNumber_102 : decode cX4_readNumber 102 = .ok (.ireturn, 1) := by decide +kernel
theorem dX4_readPoem_0 : decode cX4_readPoem 0 = .ok (.aload_n 0, 1) := by decide +kernel
theorem dX4_readPoem_1 : decode cX4_readPoem 1 = .ok (.iconst 0, 1) := by decide +kernel
theorem dX4_readPoem_2 : decode cX4_readPoem 2 = .ok (.putfield 173, 3) := by decide +kernel
theorem dX4_readPoem_5 : decode cX4_readPoem 5 = .ok (.aload_n 0, 1) := by decide +kernel
theorem dX4_readPoem_6 : decode cX4_readPoem 6 = .ok (.lconst 0, 1) := by decide +kernel
theorem dX4_readPoem_7 : decode cX4_readPoem 7 = .ok (.putfield 166, 3) := by decide +kernel
theorem dX4_readPoem_10 : decode cX4_readPoem 10 = .ok (.aload_n 0, 1) := by decide +kernel
theorem dX4_readPoem_11 : decode cX4_readPoem 11 = .ok (.iconst 0, 1) := by decide +kernel
theorem dX4_readPoem_12 : decode cX4_readPoem 12 = .ok (.putfield 182, 3) := by decide +kernel
theorem dX4_readPoem_15 : decode cX4_readPoem 15 = .ok (.iconst 0, 1) := by decide +kernel
theorem dX4_readPoem_16 : decode cX4_readPoem 16 = .ok (.istore_n 1, 1) := by decide +kernel
theorem dX4_readPoem_17 : decode cX4_readPoem 17 = .ok (.iconst 0, 1) := by decide +kernel
theorem dX4_readPoem_18 : decode cX4_readPoem 18 = .ok (.istore_n 2, 1) := by decide +kernel
theorem dX4_readPoem_19 : decode cX4_readPoem 19 = .ok (.aload_n 0, 1) := by decide +kernel
theorem dX4_readPoem_20 : decode cX4_readPoem 20 = .ok (.invokevirtual 185, 3) := by decide +kernel
theorem dX4_readPoem_23 : decode cX4_readPoem 23 = .ok (.istore_n 3, 1) := by decide +kernel
theorem dX4_readPoem_24 : decode cX4_readPoem 24 = .ok (.iload_n 3, 1) := by decide +kernel
theorem dX4_readPoem_25 : decode cX4_readPoem 25 = .ok (.iconst (-1), 1) := by decide +kernel
theorem dX4_readPoem_26 : decode cX4_readPoem 26 = .ok (.if_icmp .ne 5, 3) := by decide +kernel
theorem dX4_readPoem_29 : decode cX4_readPoem 29 = .ok (.iconst 0, 1) := by decide +kernel
theorem dX4_readPoem_30 : decode cX4_readPoem 30 = .ok (.ireturn, 1) := by decide +kernel
theorem dX4_readPoem_31 : decode cX4_readPoem 31 = .ok (.aload_n 0, 1) := by decide +kernel
theorem dX4_readPoem_32 : decode cX4_readPoem 32 = .ok (.dup, 1) := by decide +kernel
theorem dX4_readPoem_33 : decode cX4_readPoem 33 = .ok (.getfield 166, 3) := by decide +kernel
theorem dX4_readPoem_36 : decode cX4_readPoem 36 = .ok (.lconst 1, 1) := by decide +kernel
theorem dX4_readPoem_37 : decode cX4_readPoem 37 = .ok (.iload_n 3, 1) := by decide +kernel
theorem dX4_readPoem_38 : decode cX4_readPoem 38 = .ok (.lshl, 1) := by decide +kernel
theorem dX4_readPoem_39 : decode cX4_readPoem 39 = .ok (.lor, 1) := by decide +kernel
theorem dX4_readPoem_40 : decode cX4_readPoem 40 = .ok (.putfield 166, 3) := by decide +kernel
theorem dX4_readPoem_43 : decode cX4_readPoem 43 = .ok (.aload_n 0, 1) := by decide +kernel
theorem dX4_readPoem_44 : decode cX4_readPoem 44 = .ok (.getfield 29, 3) := by decide +kernel
theorem dX4_readPoem_47 : decode cX4_readPoem 47 = .ok (.aload_n 0, 1) := by decide +kernel
theorem dX4_readPoem_48 : decode cX4_readPoem 48 = .ok (.getfield 182, 3) := by decide +kernel
theorem dX4_readPoem_51 : decode cX4_readPoem 51 = .ok (.iload_n 3, 1) := by decide +kernel
theorem dX4_readPoem_52 : decode cX4_readPoem 52 = .ok (.iastore, 1) := by decide +kernel
theorem dX4_readPoem_53 : decode cX4_readPoem 53 = .ok (.aload_n 0, 1) := by decide +kernel
theorem dX4_readPoem_54 : decode cX4_readPoem 54 = .ok (.getfield 32, 3) := by decide +kernel
theorem dX4_readPoem_57 : decode cX4_readPoem 57 = .ok (.aload_n 0, 1) := by decide +kernel
theorem dX4_readPoem_58 : decode cX4_readPoem 58 = .ok (.getfield 182, 3) := by decide +kernel
theorem dX4_readPoem_61 : decode cX4_readPoem 61 = .ok (.iload_n 1, 1) := by decide +kernel
theorem dX4_readPoem_62 : decode cX4_readPoem 62 = .ok (.iastore, 1) := by decide +kernel
theorem dX4_readPoem_63 : decode cX4_readPoem 63 = .ok (.aload_n 0, 1) := by decide +kernel
theorem dX4_readPoem_64 : decode cX4_readPoem 64 = .ok (.dup, 1) := by decide +kernel
theorem dX4_readPoem_65 : decode cX4_readPoem 65 = .ok (.getfield 182, 3) := by decide +kernel
theorem dX4_readPoem_68 : decode cX4_readPoem 68 = .ok (.iconst 1, 1) := by decide +kernel
theorem dX4_readPoem_69 : decode cX4_readPoem 69 = .ok (.iadd, 1) := by decide +kernel
theorem dX4_readPoem_70 : decode cX4_readPoem 70 = .ok (.putfield 182, 3) := by decide +kernel
theorem dX4_readPoem_73 : decode cX4_readPoem 73 = .ok (.iinc 2 1, 3) := by decide +kernel
theorem dX4_readPoem_76 : decode cX4_readPoem 76 = .ok (.aload_n 0, 1) := by decide +kernel
theorem dX4_readPoem_77 : decode cX4_readPoem 77 = .ok (.getfield 173, 3) := by decide +kernel
theorem dX4_readPoem_80 : decode cX4_readPoem 80 = .ok (.aload_n 0, 1) := by decide +kernel
theorem dX4_readPoem_81 : decode cX4_readPoem 81 = .ok (.getfield 163, 3) := by decide +kernel
theorem dX4_readPoem_84 : decode cX4_readPoem 84 = .ok (.if_icmp .ne 5, 3) := by decide +kernel
theorem dX4_readPoem_87 : decode cX4_readPoem 87 = .ok (.iconst 1, 1) := by decide +kernel
theorem dX4_readPoem_88 : decode cX4_readPoem 88 = .ok (.ireturn, 1) := by decide +kernel
theorem dX4_readPoem_89 : decode cX4_readPoem 89 = .ok (.aload_n 0, 1) := by decide +kernel
theorem dX4_readPoem_90 : decode cX4_readPoem 90 = .ok (.getfield 26, 3) := by decide +kernel
theorem dX4_readPoem_93 : decode cX4_readPoem 93 = .ok (.aload_n 0, 1) := by decide +kernel
theorem dX4_readPoem_94 : decode cX4_readPoem 94 = .ok (.getfield 173, 3) := by decide +kernel
theorem dX4_readPoem_97 : decode cX4_readPoem 97 = .ok (.iaload, 1) := by decide +kernel
theorem dX4_readPoem_98 : decode cX4_readPoem 98 = .ok (.bipush 44, 2) := by decide +kernel
theorem dX4_readPoem_100 : decode cX4_readPoem 100 = .ok (.if_icmp .ne 13, 3) := by decide +kernel
theorem dX4_readPoem_103 : decode cX4_readPoem 103 = .ok (.iload_n 2, 1) := by decide +kernel
theorem dX4_readPoem_104 : decode cX4_readPoem 104 = .ok (.bipush 6, 2) := by decide +kernel
theorem dX4_readPoem_106 : decode cX4_readPoem 106 = .ok (.if_icmp .ge 7, 3) := by decide +kernel
theorem dX4_readPoem_109 : decode cX4_readPoem 109 = .ok (.iconst 1, 1) := by decide +kernel
theorem dX4_readPoem_110 : decode cX4_readPoem 110 = .ok (.goto 4, 3) := by decide +kernel
theorem dX4_readPoem_113 : decode cX4_readPoem 113 = .ok (.iconst 0, 1) := by decide +kernel
theorem dX4_readPoem_114 : decode cX4_readPoem 114 = .ok (.istore 4, 2) := by decide +kernel
theorem dX4_readPoem_116 : decode cX4_readPoem 116 = .ok (.aload_n 0, 1) := by decide +kernel
theorem dX4_readPoem_117 : decode cX4_readPoem 117 = .ok (.getfield 26, 3) := by decide +kernel
theorem dX4_readPoem_120 : decode cX4_readPoem 120 = .ok (.aload_n 0, 1) := by decide +kernel
theorem dX4_readPoem_121 : decode cX4_readPoem 121 = .ok (.getfield 173, 3) := by decide +kernel
theorem dX4_readPoem_124 : decode cX4_readPoem 124 = .ok (.iaload, 1) := by decide +kernel
theorem dX4_readPoem_125 : decode cX4_readPoem 125 = .ok (.bipush 47, 2) := by decide +kernel
theorem dX4_readPoem_127 : decode cX4_readPoem 127 = .ok (.if_icmp .ne 12, 3) := by decide +kernel
theorem dX4_readPoem_130 : decode cX4_readPoem 130 = .ok (.iload_n 1, 1) := by decide +kernel
theorem dX4_readPoem_131 : decode cX4_readPoem 131 = .ok (.iconst 3, 1) := by decide +kernel
theorem dX4_readPoem_132 : decode cX4_readPoem 132 = .ok (.if_icmp .ge 7, 3) := by decide +kernel
theorem dX4_readPoem_135 : decode cX4_readPoem 135 = .ok (.iconst 1, 1) := by decide +kernel
theorem dX4_readPoem_136 : decode cX4_readPoem 136 = .ok (.goto 4, 3) := by decide +kernel
theorem dX4_readPoem_139 : decode cX4_readPoem 139 = .ok (.iconst 0, 1) := by decide +kernel
theorem dX4_readPoem_140 : decode cX4_readPoem 140 = .ok (.istore 5, 2) := by decide +kernel
theorem dX4_readPoem_142 : decode cX4_readPoem 142 = .ok (.iload 4, 2) := by decide +kernel
theorem dX4_readPoem_144 : decode cX4_readPoem 144 = .ok (.ifCond .ne 10, 3) := by decide +kernel
theorem dX4_readPoem_147 : decode cX4_readPoem 147 = .ok (.iload 5, 2) := by decide +kernel
theorem dX4_readPoem_149 : decode cX4_readPoem 149 = .ok (.ifCond .ne 5, 3) := by decide +kernel
theorem dX4_readPoem_152 : decode cX4_readPoem 152 = .ok (.iconst 0, 1) := by decide +kernel
theorem dX4_readPoem_153 : decode cX4_readPoem 153 = .ok (.ireturn, 1) := by decide +kernel
theorem dX4_readPoem_154 : decode cX4_readPoem 154 = .ok (.iload_n 1, 1) := by decide +kernel
theorem dX4_readPoem_155 : decode cX4_readPoem 155 = .ok (.iload 5, 2) := by decide +kernel
theorem dX4_readPoem_157 : decode cX4_readPoem 157 = .ok (.ifCond .eq 7, 3) := by decide +kernel
theorem dX4_readPoem_160 : decode cX4_readPoem 160 = .ok (.iconst 1, 1) := by decide +kernel
theorem dX4_readPoem_161 : decode cX4_readPoem 161 = .ok (.goto 4, 3) := by decide +kernel
theorem dX4_readPoem_164 : decode cX4_readPoem 164 = .ok (.iconst 0, 1) := by decide +kernel
theorem dX4_readPoem_165 : decode cX4_readPoem 165 = .ok (.iadd, 1) := by decide +kernel
theorem dX4_readPoem_166 : decode cX4_readPoem 166 = .ok (.istore_n 1, 1) := by decide +kernel
theorem dX4_readPoem_167 : decode cX4_readPoem 167 = .ok (.iload 5, 2) := by decide +kernel
theorem dX4_readPoem_169 : decode cX4_readPoem 169 = .ok (.ifCond .eq 7, 3) := by decide +kernel
theorem dX4_readPoem_172 : decode cX4_readPoem 172 = .ok (.iconst 0, 1) := by decide +kernel
theorem dX4_readPoem_173 : decode cX4_readPoem 173 = .ok (.goto 4, 3) := by decide +kernel
theorem dX4_readPoem_176 : decode cX4_readPoem 176 = .ok (.iload_n 2, 1) := by decide +kernel
theorem dX4_readPoem_177 : decode cX4_readPoem 177 = .ok (.istore_n 2, 1) := by decide +kernel
theorem dX4_readPoem_178 : decode cX4_readPoem 178 = .ok (.aload_n 0, 1) := by decide +kernel
theorem dX4_readPoem_179 : decode cX4_readPoem 179 = .ok (.dup, 1) := by decide +kernel
theorem dX4_readPoem_180 : decode cX4_readPoem 180 = .ok (.getfield 173, 3) := by decide +kernel
theorem dX4_readPoem_183 : decode cX4_readPoem 183 = .ok (.iconst 1, 1) := by decide +kernel
theorem dX4_readPoem_184 : decode cX4_readPoem 184 = .ok (.iadd, 1) := by decide +kernel
theorem dX4_readPoem_185 : decode cX4_readPoem 185 = .ok (.putfield 173, 3) := by decide +kernel
theorem dX4_readPoem_188 : decode cX4_readPoem 188 = .ok (.goto (-169), 3) := by decide +kernel
theorem dX4_firstError_0 : decode cX4_firstError 0 = .ok (.aload_n 0, 1) := by decide +kernel
theorem dX4_firstError_1 : decode cX4_firstError 1 = .ok (.iconst 0, 1) := by decide +kernel
theorem dX4_firstError_2 : decode cX4_firstError 2 = .ok (.putfield 38, 3) := by decide +kernel
theorem dX4_firstError_5 : decode cX4_firstError 5 = .ok (.aload_n 0, 1) := by decide +kernel
theorem dX4_firstError_6 : decode cX4_firstError 6 = .ok (.invokevirtual 188, 3) := by decide +kernel
theorem dX4_firstError_9 : decode cX4_firstError 9 = .ok (.ifCond .eq 10, 3) := by decide +kernel
theorem dX4_firstError_12 : decode cX4_firstError 12 = .ok (.aload_n 0, 1) := by decide +kernel
theorem dX4_firstError_13 : decode cX4_firstError 13 = .ok (.getfield 163, 3) := by decide +kernel
theorem dX4_firstError_16 : decode cX4_firstError 16 = .ok (.goto 7, 3) := by decide +kernel
theorem dX4_firstError_19 : decode cX4_firstError 19 = .ok (.aload_n 0, 1) := by decide +kernel
theorem dX4_firstError_20 : decode cX4_firstError 20 = .ok (.getfield 173, 3) := by decide +kernel
theorem dX4_firstError_23 : decode cX4_firstError 23 = .ok (.ireturn, 1) := by decide +kernel
theorem dX4_load_0 : decode cX4_load 0 = .ok (.aload_n 0, 1) := by decide +kernel
theorem dX4_load_1 : decode cX4_load 1 = .ok (.iconst 0, 1) := by decide +kernel
theorem dX4_load_2 : decode cX4_load 2 = .ok (.putfield 38, 3) := by decide +kernel
theorem dX4_load_5 : decode cX4_load 5 = .ok (.iload_n 1, 1) := by decide +kernel
theorem dX4_load_6 : decode cX4_load 6 = .ok (.invokestatic 46, 3) := by decide +kernel
theorem dX4_load_9 : decode cX4_load 9 = .ok (.ifCond .ne 9, 3) := by decide +kernel
theorem dX4_load_12 : decode cX4_load 12 = .ok (.aload_n 0, 1) := by decide +kernel
theorem dX4_load_13 : decode cX4_load 13 = .ok (.iconst 1, 1) := by decide +kernel
theorem dX4_load_14 : decode cX4_load 14 = .ok (.invokevirtual 134, 3) := by decide +kernel
theorem dX4_load_17 : decode cX4_load 17 = .ok (.ireturn, 1) := by decide +kernel
theorem dX4_load_18 : decode cX4_load 18 = .ok (.aload_n 0, 1) := by decide +kernel
theorem dX4_load_19 : decode cX4_load 19 = .ok (.invokevirtual 188, 3) := by decide +kernel
theorem dX4_load_22 : decode cX4_load 22 = .ok (.ifCond .ne 9, 3) := by decide +kernel
theorem dX4_load_25 : decode cX4_load 25 = .ok (.aload_n 0, 1) := by decide +kernel
theorem dX4_load_26 : decode cX4_load 26 = .ok (.iconst 2, 1) := by decide +kernel
theorem dX4_load_27 : decode cX4_load 27 = .ok (.invokevirtual 134, 3) := by decide +kernel
theorem dX4_load_30 : decode cX4_load 30 = .ok (.ireturn, 1) := by decide +kernel
theorem dX4_load_31 : decode cX4_load 31 = .ok (.aload_n 0, 1) := by decide +kernel
theorem dX4_load_32 : decode cX4_load 32 = .ok (.invokevirtual 137, 3) := by decide +kernel
theorem dX4_load_35 : decode cX4_load 35 = .ok (.aload_n 0, 1) := by decide +kernel
theorem dX4_load_36 : decode cX4_load 36 = .ok (.iload_n 1, 1) := by decide +kernel
theorem dX4_load_37 : decode cX4_load 37 = .ok (.invokevirtual 148, 3) := by decide +kernel
theorem dX4_load_40 : decode cX4_load 40 = .ok (.istore_n 2, 1) := by decide +kernel
theorem dX4_load_41 : decode cX4_load 41 = .ok (.iconst 0, 1) := by decide +kernel
theorem dX4_load_42 : decode cX4_load 42 = .ok (.istore_n 3, 1) := by decide +kernel
theorem dX4_load_43 : decode cX4_load 43 = .ok (.iconst 1, 1) := by decide +kernel
theorem dX4_load_44 : decode cX4_load 44 = .ok (.istore 4, 2) := by decide +kernel
theorem dX4_load_46 : decode cX4_load 46 = .ok (.iconst 0, 1) := by decide +kernel
theorem dX4_load_47 : decode cX4_load 47 = .ok (.istore 5, 2) := by decide +kernel
theorem dX4_load_49 : decode cX4_load 49 = .ok (.iload 5, 2) := by decide +kernel
theorem dX4_load_51 : decode cX4_load 51 = .ok (.aload_n 0, 1) := by decide +kernel
theorem dX4_load_52 : decode cX4_load 52 = .ok (.getfield 182, 3) := by decide +kernel
theorem dX4_load_55 : decode cX4_load 55 = .ok (.if_icmp .ge 116, 3) := by decide +kernel
theorem dX4_load_58 : decode cX4_load 58 = .ok (.iload 4, 2) := by decide +kernel
theorem dX4_load_60 : decode cX4_load 60 = .ok (.ifCond .eq 111, 3) := by decide +kernel
theorem dX4_load_63 : decode cX4_load 63 = .ok (.iconst 4, 1) := by decide +kernel
theorem dX4_load_64 : decode cX4_load 64 = .ok (.iload_n 1, 1) := by decide +kernel
theorem dX4_load_65 : decode cX4_load 65 = .ok (.imul, 1) := by decide +kernel
theorem dX4_load_66 : decode cX4_load 66 = .ok (.aload_n 0, 1) := by decide +kernel
theorem dX4_load_67 : decode cX4_load 67 = .ok (.getfield 32, 3) := by decide +kernel
theorem dX4_load_70 : decode cX4_load 70 = .ok (.iload 5, 2) := by decide +kernel
theorem dX4_load_72 : decode cX4_load 72 = .ok (.iaload, 1) := by decide +kernel
theorem dX4_load_73 : decode cX4_load 73 = .ok (.iadd, 1) := by decide +kernel
theorem dX4_load_74 : decode cX4_load 74 = .ok (.istore 6, 2) := by decide +kernel
theorem dX4_load_76 : decode cX4_load 76 = .ok (.aload_n 0, 1) := by decide +kernel
theorem dX4_load_77 : decode cX4_load 77 = .ok (.aload_n 0, 1) := by decide +kernel
theorem dX4_load_78 : decode cX4_load 78 = .ok (.getfield 29, 3) := by decide +kernel
theorem dX4_load_81 : decode cX4_load 81 = .ok (.iload 5, 2) := by decide +kernel
theorem dX4_load_83 : decode cX4_load 83 = .ok (.iaload, 1) := by decide +kernel
theorem dX4_load_84 : decode cX4_load 84 = .ok (.invokevirtual 57, 3) := by decide +kernel
theorem dX4_load_87 : decode cX4_load 87 = .ok (.iconst (-1), 1) := by decide +kernel
theorem dX4_load_88 : decode cX4_load 88 = .ok (.if_icmp .ne 32, 3) := by decide +kernel
theorem dX4_load_91 : decode cX4_load 91 = .ok (.aload_n 0, 1) := by decide +kernel
theorem dX4_load_92 : decode cX4_load 92 = .ok (.aload_n 0, 1) := by decide +kernel
theorem dX4_load_93 : decode cX4_load 93 = .ok (.getfield 29, 3) := by decide +kernel
theorem dX4_load_96 : decode cX4_load 96 = .ok (.iload 5, 2) := by decide +kernel
theorem dX4_load_98 : decode cX4_load 98 = .ok (.iaload, 1) := by decide +kernel
theorem dX4_load_99 : decode cX4_load 99 = .ok (.iload 6, 2) := by decide +kernel
theorem dX4_load_101 : decode cX4_load 101 = .ok (.aload_n 0, 1) := by decide +kernel
theorem dX4_load_102 : decode cX4_load 102 = .ok (.getfield 7, 3) := by decide +kernel
theorem dX4_load_105 : decode cX4_load 105 = .ok (.iconst 0, 1) := by decide +kernel
theorem dX4_load_106 : decode cX4_load 106 = .ok (.iload 6, 2) := by decide +kernel
theorem dX4_load_108 : decode cX4_load 108 = .ok (.iadd, 1) := by decide +kernel
theorem dX4_load_109 : decode cX4_load 109 = .ok (.iaload, 1) := by decide +kernel
theorem dX4_load_110 : decode cX4_load 110 = .ok (.invokevirtual 140, 3) := by decide +kernel
theorem dX4_load_113 : decode cX4_load 113 = .ok (.ifCond .ne 7, 3) := by decide +kernel
theorem dX4_load_116 : decode cX4_load 116 = .ok (.iconst 1, 1) := by decide +kernel
theorem dX4_load_117 : decode cX4_load 117 = .ok (.goto 4, 3) := by decide +kernel
theorem dX4_load_120 : decode cX4_load 120 = .ok (.iconst 0, 1) := by decide +kernel
theorem dX4_load_121 : decode cX4_load 121 = .ok (.istore 4, 2) := by decide +kernel
theorem dX4_load_123 : decode cX4_load 123 = .ok (.iload 4, 2) := by decide +kernel
theorem dX4_load_125 : decode cX4_load 125 = .ok (.ifCond .eq 40, 3) := by decide +kernel
theorem dX4_load_128 : decode cX4_load 128 = .ok (.aload_n 0, 1) := by decide +kernel
theorem dX4_load_129 : decode cX4_load 129 = .ok (.aload_n 0, 1) := by decide +kernel
theorem dX4_load_130 : decode cX4_load 130 = .ok (.getfield 29, 3) := by decide +kernel
theorem dX4_load_133 : decode cX4_load 133 = .ok (.iload 5, 2) := by decide +kernel
theorem dX4_load_135 : decode cX4_load 135 = .ok (.iaload, 1) := by decide +kernel
theorem dX4_load_136 : decode cX4_load 136 = .ok (.iload 6, 2) := by decide +kernel
theorem dX4_load_138 : decode cX4_load 138 = .ok (.aload_n 0, 1) := by decide +kernel
theorem dX4_load_139 : decode cX4_load 139 = .ok (.getfield 7, 3) := by decide +kernel
theorem dX4_load_142 : decode cX4_load 142 = .ok (.iconst 0, 1) := by decide +kernel
theorem dX4_load_143 : decode cX4_load 143 = .ok (.iload 6, 2) := by decide +kernel
theorem dX4_load_145 : decode cX4_load 145 = .ok (.iadd, 1) := by decide +kernel
theorem dX4_load_146 : decode cX4_load 146 = .ok (.iaload, 1) := by decide +kernel
theorem dX4_load_147 : decode cX4_load 147 = .ok (.invokevirtual 144, 3) := by decide +kernel
theorem dX4_load_150 : decode cX4_load 150 = .ok (.aload_n 0, 1) := by decide +kernel
theorem dX4_load_151 : decode cX4_load 151 = .ok (.getfield 7, 3) := by decide +kernel
theorem dX4_load_154 : decode cX4_load 154 = .ok (.sipush 180, 3) := by decide +kernel
theorem dX4_load_157 : decode cX4_load 157 = .ok (.dup2, 1) := by decide +kernel
theorem dX4_load_158 : decode cX4_load 158 = .ok (.iaload, 1) := by decide +kernel
theorem dX4_load_159 : decode cX4_load 159 = .ok (.iconst 1, 1) := by decide +kernel
theorem dX4_load_160 : decode cX4_load 160 = .ok (.iadd, 1) := by decide +kernel
theorem dX4_load_161 : decode cX4_load 161 = .ok (.iastore, 1) := by decide +kernel
theorem dX4_load_162 : decode cX4_load 162 = .ok (.iinc 3 1, 3) := by decide +kernel
theorem dX4_load_165 : decode cX4_load 165 = .ok (.iinc 5 1, 3) := by decide +kernel
theorem dX4_load_168 : decode cX4_load 168 = .ok (.goto (-119), 3) := by decide +kernel
theorem dX4_load_171 : decode cX4_load 171 = .ok (.aload_n 0, 1) := by decide +kernel
theorem dX4_load_172 : decode cX4_load 172 = .ok (.iconst 0, 1) := by decide +kernel
theorem dX4_load_173 : decode cX4_load 173 = .ok (.putfield 163, 3) := by decide +kernel
theorem dX4_load_176 : decode cX4_load 176 = .ok (.iload_n 3, 1) := by decide +kernel
theorem dX4_load_177 : decode cX4_load 177 = .ok (.ireturn, 1) := by decide +kernel
theorem dX4_draftSign_0 : decode cX4_draftSign 0 = .ok (.aload_n 0, 1) := by decide +kernel
theorem dX4_draftSign_1 : decode cX4_draftSign 1 = .ok (.getfield 35, 3) := by decide +kernel
theorem dX4_draftSign_4 : decode cX4_draftSign 4 = .ok (.aload_n 0, 1) := by decide +kernel
theorem dX4_draftSign_5 : decode cX4_draftSign 5 = .ok (.getfield 192, 3) := by decide +kernel
theorem dX4_draftSign_8 : decode cX4_draftSign 8 = .ok (.iload_n 1, 1) := by decide +kernel
theorem dX4_draftSign_9 : decode cX4_draftSign 9 = .ok (.iastore, 1) := by decide +kernel
theorem dX4_draftSign_10 : decode cX4_draftSign 10 = .ok (.aload_n 0, 1) := by decide +kernel
theorem dX4_draftSign_11 : decode cX4_draftSign 11 = .ok (.dup, 1) := by decide +kernel
theorem dX4_draftSign_12 : decode cX4_draftSign 12 = .ok (.getfield 192, 3) := by decide +kernel
theorem dX4_draftSign_15 : decode cX4_draftSign 15 = .ok (.iconst 1, 1) := by decide +kernel
theorem dX4_draftSign_16 : decode cX4_draftSign 16 = .ok (.iadd, 1) := by decide +kernel
theorem dX4_draftSign_17 : decode cX4_draftSign 17 = .ok (.putfield 192, 3) := by decide +kernel
theorem dX4_draftSign_20 : decode cX4_draftSign 20 = .ok (.return_, 1) := by decide +kernel
theorem dX4_draftLine_0 : decode cX4_draftLine 0 = .ok (.iconst 0, 1) := by decide +kernel
theorem dX4_draftLine_1 : decode cX4_draftLine 1 = .ok (.istore_n 2, 1) := by decide +kernel
theorem dX4_draftLine_2 : decode cX4_draftLine 2 = .ok (.iload_n 2, 1) := by decide +kernel
theorem dX4_draftLine_3 : decode cX4_draftLine 3 = .ok (.aload_n 0, 1) := by decide +kernel
theorem dX4_draftLine_4 : decode cX4_draftLine 4 = .ok (.getfield 7, 3) := by decide +kernel
theorem dX4_draftLine_7 : decode cX4_draftLine 7 = .ok (.iconst 0, 1) := by decide +kernel
theorem dX4_draftLine_8 : decode cX4_draftLine 8 = .ok (.iload_n 1, 1) := by decide +kernel
theorem dX4_draftLine_9 : decode cX4_draftLine 9 = .ok (.iadd, 1) := by decide +kernel
theorem dX4_draftLine_10 : decode cX4_draftLine 10 = .ok (.iaload, 1) := by decide +kernel
theorem dX4_draftLine_11 : decode cX4_draftLine 11 = .ok (.if_icmp .ge 54, 3) := by decide +kernel
theorem dX4_draftLine_14 : decode cX4_draftLine 14 = .ok (.aload_n 0, 1) := by decide +kernel
theorem dX4_draftLine_15 : decode cX4_draftLine 15 = .ok (.iload_n 1, 1) := by decide +kernel
theorem dX4_draftLine_16 : decode cX4_draftLine 16 = .ok (.iload_n 2, 1) := by decide +kernel
theorem dX4_draftLine_17 : decode cX4_draftLine 17 = .ok (.invokevirtual 53, 3) := by decide +kernel
theorem dX4_draftLine_20 : decode cX4_draftLine 20 = .ok (.istore_n 3, 1) := by decide +kernel
theorem dX4_draftLine_21 : decode cX4_draftLine 21 = .ok (.iload_n 2, 1) := by decide +kernel
theorem dX4_draftLine_22 : decode cX4_draftLine 22 = .ok (.ifCond .le 9, 3) := by decide +kernel
theorem dX4_draftLine_25 : decode cX4_draftLine 25 = .ok (.aload_n 0, 1) := by decide +kernel
theorem dX4_draftLine_26 : decode cX4_draftLine 26 = .ok (.bipush 44, 2) := by decide +kernel
theorem dX4_draftLine_28 : decode cX4_draftLine 28 = .ok (.invokevirtual 195, 3) := by decide +kernel
theorem dX4_draftLine_31 : decode cX4_draftLine 31 = .ok (.iload_n 3, 1) := by decide +kernel
theorem dX4_draftLine_32 : decode cX4_draftLine 32 = .ok (.bipush 9, 2) := by decide +kernel
theorem dX4_draftLine_34 : decode cX4_draftLine 34 = .ok (.if_icmp .le 14, 3) := by decide +kernel
theorem dX4_draftLine_37 : decode cX4_draftLine 37 = .ok (.aload_n 0, 1) := by decide +kernel
theorem dX4_draftLine_38 : decode cX4_draftLine 38 = .ok (.bipush 48, 2) := by decide +kernel
theorem dX4_draftLine_40 : decode cX4_draftLine 40 = .ok (.iload_n 3, 1) := by decide +kernel
theorem dX4_draftLine_41 : decode cX4_draftLine 41 = .ok (.bipush 10, 2) := by decide +kernel
theorem dX4_draftLine_43 : decode cX4_draftLine 43 = .ok (.idiv, 1) := by decide +kernel
theorem dX4_draftLine_44 : decode cX4_draftLine 44 = .ok (.iadd, 1) := by decide +kernel
theorem dX4_draftLine_45 : decode cX4_draftLine 45 = .ok (.invokevirtual 195, 3) := by decide +kernel
theorem dX4_draftLine_48 : decode cX4_draftLine 48 = .ok (.aload_n 0, 1) := by decide +kernel
theorem dX4_draftLine_49 : decode cX4_draftLine 49 = .ok (.bipush 48, 2) := by decide +kernel
theorem dX4_draftLine_51 : decode cX4_draftLine 51 = .ok (.iload_n 3, 1) := by decide +kernel
theorem dX4_draftLine_52 : decode cX4_draftLine 52 = .ok (.bipush 10, 2) := by decide +kernel
theorem dX4_draftLine_54 : decode cX4_draftLine 54 = .ok (.irem, 1) := by decide +kernel
theorem dX4_draftLine_55 : decode cX4_draftLine 55 = .ok (.iadd, 1) := by decide +kernel
theorem dX4_draftLine_56 : decode cX4_draftLine 56 = .ok (.invokevirtual 195, 3) := by decide +kernel
theorem dX4_draftLine_59 : decode cX4_draftLine 59 = .ok (.iinc 2 1, 3) := by decide +kernel
theorem dX4_draftLine_62 : decode cX4_draftLine 62 = .ok (.goto (-60), 3) := by decide +kernel
theorem dX4_draftLine_65 : decode cX4_draftLine 65 = .ok (.return_, 1) := by decide +kernel
theorem dX4_write_0 : decode cX4_write 0 = .ok (.aload_n 0, 1) := by decide +kernel
theorem dX4_write_1 : decode cX4_write 1 = .ok (.iconst 0, 1) := by decide +kernel
theorem dX4_write_2 : decode cX4_write 2 = .ok (.putfield 38, 3) := by decide +kernel
theorem dX4_write_5 : decode cX4_write 5 = .ok (.iload_n 1, 1) := by decide +kernel
theorem dX4_write_6 : decode cX4_write 6 = .ok (.invokestatic 46, 3) := by decide +kernel
theorem dX4_write_9 : decode cX4_write 9 = .ok (.ifCond .ne 9, 3) := by decide +kernel
theorem dX4_write_12 : decode cX4_write 12 = .ok (.aload_n 0, 1) := by decide +kernel
theorem dX4_write_13 : decode cX4_write 13 = .ok (.iconst 1, 1) := by decide +kernel
theorem dX4_write_14 : decode cX4_write 14 = .ok (.invokevirtual 134, 3) := by decide +kernel
theorem dX4_write_17 : decode cX4_write 17 = .ok (.ireturn, 1) := by decide +kernel
theorem dX4_write_18 : decode cX4_write 18 = .ok (.aload_n 0, 1) := by decide +kernel
theorem dX4_write_19 : decode cX4_write 19 = .ok (.iconst 0, 1) := by decide +kernel
theorem dX4_write_20 : decode cX4_write 20 = .ok (.putfield 192, 3) := by decide +kernel
theorem dX4_write_23 : decode cX4_write 23 = .ok (.iconst 4, 1) := by decide +kernel
theorem dX4_write_24 : decode cX4_write 24 = .ok (.iload_n 1, 1) := by decide +kernel
theorem dX4_write_25 : decode cX4_write 25 = .ok (.imul, 1) := by decide +kernel
theorem dX4_write_26 : decode cX4_write 26 = .ok (.istore_n 2, 1) := by decide +kernel
theorem dX4_write_27 : decode cX4_write 27 = .ok (.iload_n 2, 1) := by decide +kernel
theorem dX4_write_28 : decode cX4_write 28 = .ok (.iconst 4, 1) := by decide +kernel
theorem dX4_write_29 : decode cX4_write 29 = .ok (.iload_n 1, 1) := by decide +kernel
theorem dX4_write_30 : decode cX4_write 30 = .ok (.imul, 1) := by decide +kernel
theorem dX4_write_31 : decode cX4_write 31 = .ok (.iconst 4, 1) := by decide +kernel
theorem dX4_write_32 : decode cX4_write 32 = .ok (.iadd, 1) := by decide +kernel
theorem dX4_write_33 : decode cX4_write 33 = .ok (.if_icmp .ge 38, 3) := by decide +kernel
theorem dX4_write_36 : decode cX4_write 36 = .ok (.aload_n 0, 1) := by decide +kernel
theorem dX4_write_37 : decode cX4_write 37 = .ok (.getfield 7, 3) := by decide +kernel
theorem dX4_write_40 : decode cX4_write 40 = .ok (.iconst 0, 1) := by decide +kernel
theorem dX4_write_41 : decode cX4_write 41 = .ok (.iload_n 2, 1) := by decide +kernel
theorem dX4_write_42 : decode cX4_write 42 = .ok (.iadd, 1) := by decide +kernel
theorem dX4_write_43 : decode cX4_write 43 = .ok (.iaload, 1) := by decide +kernel
theorem dX4_write_44 : decode cX4_write 44 = .ok (.ifCond .le 16, 3) := by decide +kernel
theorem dX4_write_47 : decode cX4_write 47 = .ok (.aload_n 0, 1) := by decide +kernel
theorem dX4_write_48 : decode cX4_write 48 = .ok (.getfield 192, 3) := by decide +kernel
theorem dX4_write_51 : decode cX4_write 51 = .ok (.ifCond .le 9, 3) := by decide +kernel
theorem dX4_write_54 : decode cX4_write 54 = .ok (.aload_n 0, 1) := by decide +kernel
theorem dX4_write_55 : decode cX4_write 55 = .ok (.bipush 47, 2) := by decide +kernel
theorem dX4_write_57 : decode cX4_write 57 = .ok (.invokevirtual 195, 3) := by decide +kernel
theorem dX4_write_60 : decode cX4_write 60 = .ok (.aload_n 0, 1) := by decide +kernel
theorem dX4_write_61 : decode cX4_write 61 = .ok (.iload_n 2, 1) := by decide +kernel
theorem dX4_write_62 : decode cX4_write 62 = .ok (.invokevirtual 199, 3) := by decide +kernel
theorem dX4_write_65 : decode cX4_write 65 = .ok (.iinc 2 1, 3) := by decide +kernel
theorem dX4_write_68 : decode cX4_write 68 = .ok (.goto (-41), 3) := by decide +kernel
theorem dX4_write_71 : decode cX4_write 71 = .ok (.aload_n 0, 1) := by decide +kernel
theorem dX4_write_72 : decode cX4_write 72 = .ok (.getfield 192, 3) := by decide +kernel
theorem dX4_write_75 : decode cX4_write 75 = .ok (.bipush 60, 2) := by decide +kernel
theorem dX4_write_77 : decode cX4_write 77 = .ok (.if_icmp .le 5, 3) := by decide +kernel
theorem dX4_write_80 : decode cX4_write 80 = .ok (.iconst (-1), 1) := by decide +kernel
theorem dX4_write_81 : decode cX4_write 81 = .ok (.ireturn, 1) := by decide +kernel
theorem dX4_write_82 : decode cX4_write 82 = .ok (.iconst 0, 1) := by decide +kernel
theorem dX4_write_83 : decode cX4_write 83 = .ok (.istore_n 2, 1) := by decide +kernel
theorem dX4_write_84 : decode cX4_write 84 = .ok (.iload_n 2, 1) := by decide +kernel
theorem dX4_write_85 : decode cX4_write 85 = .ok (.aload_n 0, 1) := by decide +kernel
theorem dX4_write_86 : decode cX4_write 86 = .ok (.getfield 192, 3) := by decide +kernel
theorem dX4_write_89 : decode cX4_write 89 = .ok (.if_icmp .ge 21, 3) := by decide +kernel
theorem dX4_write_92 : decode cX4_write 92 = .ok (.aload_n 0, 1) := by decide +kernel
theorem dX4_write_93 : decode cX4_write 93 = .ok (.getfield 26, 3) := by decide +kernel
theorem dX4_write_96 : decode cX4_write 96 = .ok (.iload_n 2, 1) := by decide +kernel
theorem dX4_write_97 : decode cX4_write 97 = .ok (.aload_n 0, 1) := by decide +kernel
theorem dX4_write_98 : decode cX4_write 98 = .ok (.getfield 35, 3) := by decide +kernel
theorem dX4_write_101 : decode cX4_write 101 = .ok (.iload_n 2, 1) := by decide +kernel
theorem dX4_write_102 : decode cX4_write 102 = .ok (.iaload, 1) := by decide +kernel
theorem dX4_write_103 : decode cX4_write 103 = .ok (.iastore, 1) := by decide +kernel
theorem dX4_write_104 : decode cX4_write 104 = .ok (.iinc 2 1, 3) := by decide +kernel
theorem dX4_write_107 : decode cX4_write 107 = .ok (.goto (-23), 3) := by decide +kernel
theorem dX4_write_110 : decode cX4_write 110 = .ok (.aload_n 0, 1) := by decide +kernel
theorem dX4_write_111 : decode cX4_write 111 = .ok (.aload_n 0, 1) := by decide +kernel
theorem dX4_write_112 : decode cX4_write 112 = .ok (.getfield 192, 3) := by decide +kernel
theorem dX4_write_115 : decode cX4_write 115 = .ok (.putfield 163, 3) := by decide +kernel
theorem dX4_write_118 : decode cX4_write 118 = .ok (.aload_n 0, 1) := by decide +kernel
theorem dX4_write_119 : decode cX4_write 119 = .ok (.getfield 163, 3) := by decide +kernel
theorem dX4_write_122 : decode cX4_write 122 = .ok (.ireturn, 1) := by decide +kernel
theorem dX4_keep_0 : decode cX4_keep 0 = .ok (.aload_n 0, 1) := by decide +kernel
theorem dX4_keep_1 : decode cX4_keep 1 = .ok (.iconst 0, 1) := by decide +kernel
theorem dX4_keep_2 : decode cX4_keep 2 = .ok (.putfield 38, 3) := by decide +kernel
theorem dX4_keep_5 : decode cX4_keep 5 = .ok (.iload_n 1, 1) := by decide +kernel
theorem dX4_keep_6 : decode cX4_keep 6 = .ok (.iconst 0, 1) := by decide +kernel
theorem dX4_keep_7 : decode cX4_keep 7 = .ok (.iconst 1, 1) := by decide +kernel
theorem dX4_keep_8 : decode cX4_keep 8 = .ok (.invokestatic 42, 3) := by decide +kernel
theorem dX4_keep_11 : decode cX4_keep 11 = .ok (.ifCond .ne 9, 3) := by decide +kernel
theorem dX4_keep_14 : decode cX4_keep 14 = .ok (.aload_n 0, 1) := by decide +kernel
theorem dX4_keep_15 : decode cX4_keep 15 = .ok (.iconst 1, 1) := by decide +kernel
theorem dX4_keep_16 : decode cX4_keep 16 = .ok (.invokevirtual 134, 3) := by decide +kernel
theorem dX4_keep_19 : decode cX4_keep 19 = .ok (.ireturn, 1) := by decide +kernel
theorem dX4_keep_20 : decode cX4_keep 20 = .ok (.iconst 0, 1) := by decide +kernel
theorem dX4_keep_21 : decode cX4_keep 21 = .ok (.istore_n 2, 1) := by decide +kernel
theorem dX4_keep_22 : decode cX4_keep 22 = .ok (.iload_n 2, 1) := by decide +kernel
theorem dX4_keep_23 : decode cX4_keep 23 = .ok (.sipush 182, 3) := by decide +kernel
theorem dX4_keep_26 : decode cX4_keep 26 = .ok (.if_icmp .ge 27, 3) := by decide +kernel
theorem dX4_keep_29 : decode cX4_keep 29 = .ok (.aload_n 0, 1) := by decide +kernel
theorem dX4_keep_30 : decode cX4_keep 30 = .ok (.getfield 16, 3) := by decide +kernel
theorem dX4_keep_33 : decode cX4_keep 33 = .ok (.sipush 182, 3) := by decide +kernel
theorem dX4_keep_36 : decode cX4_keep 36 = .ok (.iload_n 1, 1) := by decide +kernel
theorem dX4_keep_37 : decode cX4_keep 37 = .ok (.imul, 1) := by decide +kernel
theorem dX4_keep_38 : decode cX4_keep 38 = .ok (.iload_n 2, 1) := by decide +kernel
theorem dX4_keep_39 : decode cX4_keep 39 = .ok (.iadd, 1) := by decide +kernel
theorem dX4_keep_40 : decode cX4_keep 40 = .ok (.aload_n 0, 1) := by decide +kernel
theorem dX4_keep_41 : decode cX4_keep 41 = .ok (.getfield 7, 3) := by decide +kernel
theorem dX4_keep_44 : decode cX4_keep 44 = .ok (.iload_n 2, 1) := by decide +kernel
theorem dX4_keep_45 : decode cX4_keep 45 = .ok (.iaload, 1) := by decide +kernel
theorem dX4_keep_46 : decode cX4_keep 46 = .ok (.iastore, 1) := by decide +kernel
theorem dX4_keep_47 : decode cX4_keep 47 = .ok (.iinc 2 1, 3) := by decide +kernel
theorem dX4_keep_50 : decode cX4_keep 50 = .ok (.goto (-28), 3) := by decide +kernel
theorem dX4_keep_53 : decode cX4_keep 53 = .ok (.aload_n 0, 1) := by decide +kernel
theorem dX4_keep_54 : decode cX4_keep 54 = .ok (.getfield 19, 3) := by decide +kernel
theorem dX4_keep_57 : decode cX4_keep 57 = .ok (.iload_n 1, 1) := by decide +kernel
theorem dX4_keep_58 : decode cX4_keep 58 = .ok (.iconst 1, 1) := by decide +kernel
theorem dX4_keep_59 : decode cX4_keep 59 = .ok (.bastore, 1) := by decide +kernel
theorem dX4_keep_60 : decode cX4_keep 60 = .ok (.aload_n 0, 1) := by decide +kernel
theorem dX4_keep_61 : decode cX4_keep 61 = .ok (.invokevirtual 202, 3) := by decide +kernel
theorem dX4_keep_64 : decode cX4_keep 64 = .ok (.ireturn, 1) := by decide +kernel
theorem dX4_goBack_0 : decode cX4_goBack 0 = .ok (.aload_n 0, 1) := by decide +kernel
theorem dX4_goBack_1 : decode cX4_goBack 1 = .ok (.iconst 0, 1) := by decide +kernel
theorem dX4_goBack_2 : decode cX4_goBack 2 = .ok (.putfield 38, 3) := by decide +kernel
theorem dX4_goBack_5 : decode cX4_goBack 5 = .ok (.iload_n 1, 1) := by decide +kernel
theorem dX4_goBack_6 : decode cX4_goBack 6 = .ok (.iconst 0, 1) := by decide +kernel
theorem dX4_goBack_7 : decode cX4_goBack 7 = .ok (.iconst 1, 1) := by decide +kernel
theorem dX4_goBack_8 : decode cX4_goBack 8 = .ok (.invokestatic 42, 3) := by decide +kernel
theorem dX4_goBack_11 : decode cX4_goBack 11 = .ok (.ifCond .ne 9, 3) := by decide +kernel
theorem dX4_goBack_14 : decode cX4_goBack 14 = .ok (.aload_n 0, 1) := by decide +kernel
theorem dX4_goBack_15 : decode cX4_goBack 15 = .ok (.iconst 1, 1) := by decide +kernel
theorem dX4_goBack_16 : decode cX4_goBack 16 = .ok (.invokevirtual 134, 3) := by decide +kernel
theorem dX4_goBack_19 : decode cX4_goBack 19 = .ok (.ireturn, 1) := by decide +kernel
theorem dX4_goBack_20 : decode cX4_goBack 20 = .ok (.aload_n 0, 1) := by decide +kernel
theorem dX4_goBack_21 : decode cX4_goBack 21 = .ok (.getfield 19, 3) := by decide +kernel
theorem dX4_goBack_24 : decode cX4_goBack 24 = .ok (.iload_n 1, 1) := by decide +kernel
theorem dX4_goBack_25 : decode cX4_goBack 25 = .ok (.baload, 1) := by decide +kernel
theorem dX4_goBack_26 : decode cX4_goBack 26 = .ok (.ifCond .ne 9, 3) := by decide +kernel
theorem dX4_goBack_29 : decode cX4_goBack 29 = .ok (.aload_n 0, 1) := by decide +kernel
theorem dX4_goBack_30 : decode cX4_goBack 30 = .ok (.iconst 2, 1) := by decide +kernel
theorem dX4_goBack_31 : decode cX4_goBack 31 = .ok (.invokevirtual 134, 3) := by decide +kernel
theorem dX4_goBack_34 : decode cX4_goBack 34 = .ok (.ireturn, 1) := by decide +kernel
theorem dX4_goBack_35 : decode cX4_goBack 35 = .ok (.aload_n 0, 1) := by decide +kernel
theorem dX4_goBack_36 : decode cX4_goBack 36 = .ok (.invokevirtual 137, 3) := by decide +kernel
theorem dX4_goBack_39 : decode cX4_goBack 39 = .ok (.iconst 0, 1) := by decide +kernel
theorem dX4_goBack_40 : decode cX4_goBack 40 = .ok (.istore_n 2, 1) := by decide +kernel
theorem dX4_goBack_41 : decode cX4_goBack 41 = .ok (.iload_n 2, 1) := by decide +kernel
theorem dX4_goBack_42 : decode cX4_goBack 42 = .ok (.sipush 182, 3) := by decide +kernel
theorem dX4_goBack_45 : decode cX4_goBack 45 = .ok (.if_icmp .ge 27, 3) := by decide +kernel
theorem dX4_goBack_48 : decode cX4_goBack 48 = .ok (.aload_n 0, 1) := by decide +kernel
theorem dX4_goBack_49 : decode cX4_goBack 49 = .ok (.getfield 7, 3) := by decide +kernel
theorem dX4_goBack_52 : decode cX4_goBack 52 = .ok (.iload_n 2, 1) := by decide +kernel
theorem dX4_goBack_53 : decode cX4_goBack 53 = .ok (.aload_n 0, 1) := by decide +kernel
theorem dX4_goBack_54 : decode cX4_goBack 54 = .ok (.getfield 16, 3) := by decide +kernel
theorem dX4_goBack_57 : decode cX4_goBack 57 = .ok (.sipush 182, 3) := by decide +kernel
theorem dX4_goBack_60 : decode cX4_goBack 60 = .ok (.iload_n 1, 1) := by decide +kernel
theorem dX4_goBack_61 : decode cX4_goBack 61 = .ok (.imul, 1) := by decide +kernel
theorem dX4_goBack_62 : decode cX4_goBack 62 = .ok (.iload_n 2, 1) := by decide +kernel
theorem dX4_goBack_63 : decode cX4_goBack 63 = .ok (.iadd, 1) := by decide +kernel
theorem dX4_goBack_64 : decode cX4_goBack 64 = .ok (.iaload, 1) := by decide +kernel
theorem dX4_goBack_65 : decode cX4_goBack 65 = .ok (.iastore, 1) := by decide +kernel
theorem dX4_goBack_66 : decode cX4_goBack 66 = .ok (.iinc 2 1, 3) := by decide +kernel
theorem dX4_goBack_69 : decode cX4_goBack 69 = .ok (.goto (-28), 3) := by decide +kernel
theorem dX4_goBack_72 : decode cX4_goBack 72 = .ok (.aload_n 0, 1) := by decide +kernel
theorem dX4_goBack_73 : decode cX4_goBack 73 = .ok (.invokevirtual 202, 3) := by decide +kernel
theorem dX4_goBack_76 : decode cX4_goBack 76 = .ok (.ireturn, 1) := by decide +kernel
theorem dX4_undo_0 : decode cX4_undo 0 = .ok (.aload_n 0, 1) := by decide +kernel
theorem dX4_undo_1 : decode cX4_undo 1 = .ok (.iconst 0, 1) := by decide +kernel
theorem dX4_undo_2 : decode cX4_undo 2 = .ok (.putfield 38, 3) := by decide +kernel
theorem dX4_undo_5 : decode cX4_undo 5 = .ok (.aload_n 0, 1) := by decide +kernel
theorem dX4_undo_6 : decode cX4_undo 6 = .ok (.getfield 50, 3) := by decide +kernel
theorem dX4_undo_9 : decode cX4_undo 9 = .ok (.ifCond .ne 9, 3) := by decide +kernel
theorem dX4_undo_12 : decode cX4_undo 12 = .ok (.aload_n 0, 1) := by decide +kernel
theorem dX4_undo_13 : decode cX4_undo 13 = .ok (.iconst 1, 1) := by decide +kernel
theorem dX4_undo_14 : decode cX4_undo 14 = .ok (.invokevirtual 134, 3) := by decide +kernel
theorem dX4_undo_17 : decode cX4_undo 17 = .ok (.ireturn, 1) := by decide +kernel
theorem dX4_undo_18 : decode cX4_undo 18 = .ok (.aload_n 0, 1) := by decide +kernel
theorem dX4_undo_19 : decode cX4_undo 19 = .ok (.dup, 1) := by decide +kernel
theorem dX4_undo_20 : decode cX4_undo 20 = .ok (.getfield 50, 3) := by decide +kernel
theorem dX4_undo_23 : decode cX4_undo 23 = .ok (.iconst 1, 1) := by decide +kernel
theorem dX4_undo_24 : decode cX4_undo 24 = .ok (.isub, 1) := by decide +kernel
theorem dX4_undo_25 : decode cX4_undo 25 = .ok (.putfield 50, 3) := by decide +kernel
theorem dX4_undo_28 : decode cX4_undo 28 = .ok (.iconst 0, 1) := by decide +kernel
theorem dX4_undo_29 : decode cX4_undo 29 = .ok (.istore_n 1, 1) := by decide +kernel
theorem dX4_undo_30 : decode cX4_undo 30 = .ok (.iload_n 1, 1) := by decide +kernel
theorem dX4_undo_31 : decode cX4_undo 31 = .ok (.sipush 182, 3) := by decide +kernel
theorem dX4_undo_34 : decode cX4_undo 34 = .ok (.if_icmp .ge 30, 3) := by decide +kernel
theorem dX4_undo_37 : decode cX4_undo 37 = .ok (.aload_n 0, 1) := by decide +kernel
theorem dX4_undo_38 : decode cX4_undo 38 = .ok (.getfield 7, 3) := by decide +kernel
theorem dX4_undo_41 : decode cX4_undo 41 = .ok (.iload_n 1, 1) := by decide +kernel
theorem dX4_undo_42 : decode cX4_undo 42 = .ok (.aload_n 0, 1) := by decide +kernel
theorem dX4_undo_43 : decode cX4_undo 43 = .ok (.getfield 13, 3) := by decide +kernel
theorem dX4_undo_46 : decode cX4_undo 46 = .ok (.sipush 182, 3) := by decide +kernel
theorem dX4_undo_49 : decode cX4_undo 49 = .ok (.aload_n 0, 1) := by decide +kernel
theorem dX4_undo_50 : decode cX4_undo 50 = .ok (.getfield 50, 3) := by decide +kernel
theorem dX4_undo_53 : decode cX4_undo 53 = .ok (.imul, 1) := by decide +kernel
theorem dX4_undo_54 : decode cX4_undo 54 = .ok (.iload_n 1, 1) := by decide +kernel
theorem dX4_undo_55 : decode cX4_undo 55 = .ok (.iadd, 1) := by decide +kernel
theorem dX4_undo_56 : decode cX4_undo 56 = .ok (.iaload, 1) := by decide +kernel
theorem dX4_undo_57 : decode cX4_undo 57 = .ok (.iastore, 1) := by decide +kernel
theorem dX4_undo_58 : decode cX4_undo 58 = .ok (.iinc 1 1, 3) := by decide +kernel
theorem dX4_undo_61 : decode cX4_undo 61 = .ok (.goto (-31), 3) := by decide +kernel
theorem dX4_undo_64 : decode cX4_undo 64 = .ok (.aload_n 0, 1) := by decide +kernel
theorem dX4_undo_65 : decode cX4_undo 65 = .ok (.getfield 50, 3) := by decide +kernel
theorem dX4_undo_68 : decode cX4_undo 68 = .ok (.ireturn, 1) := by decide +kernel
theorem dX4_wordProperty_0 : decode cX4_wordProperty 0 = .ok (.aload_n 0, 1) := by decide +kernel
theorem dX4_wordProperty_1 : decode cX4_wordProperty 1 = .ok (.iload_n 1, 1) := by decide +kernel
theorem dX4_wordProperty_2 : decode cX4_wordProperty 2 = .ok (.invokevirtual 57, 3) := by decide +kernel
theorem dX4_wordProperty_5 : decode cX4_wordProperty 5 = .ok (.istore_n 3, 1) := by decide +kernel
theorem dX4_wordProperty_6 : decode cX4_wordProperty 6 = .ok (.iload_n 2, 1) := by decide +kernel
theorem dX4_wordProperty_7 : decode cX4_wordProperty 7 = .ok (.tableswitch 84 0 5 #[37, 42, 47, 52, 65, 78], 37) := by decide +kernel
theorem dX4_wordProperty_44 : decode cX4_wordProperty 44 = .ok (.iload_n 1, 1) := by decide +kernel
theorem dX4_wordProperty_45 : decode cX4_wordProperty 45 = .ok (.invokestatic 74, 3) := by decide +kernel
theorem dX4_wordProperty_48 : decode cX4_wordProperty 48 = .ok (.ireturn, 1) := by decide +kernel
theorem dX4_wordProperty_49 : decode cX4_wordProperty 49 = .ok (.iload_n 1, 1) := by decide +kernel
theorem dX4_wordProperty_50 : decode cX4_wordProperty 50 = .ok (.invokestatic 91, 3) := by decide +kernel
theorem dX4_wordProperty_53 : decode cX4_wordProperty 53 = .ok (.ireturn, 1) := by decide +kernel
theorem dX4_wordProperty_54 : decode cX4_wordProperty 54 = .ok (.iload_n 1, 1) := by decide +kernel
theorem dX4_wordProperty_55 : decode cX4_wordProperty 55 = .ok (.invokestatic 71, 3) := by decide +kernel
theorem dX4_wordProperty_58 : decode cX4_wordProperty 58 = .ok (.ireturn, 1) := by decide +kernel
theorem dX4_wordProperty_59 : decode cX4_wordProperty 59 = .ok (.iload_n 3, 1) := by decide +kernel
theorem dX4_wordProperty_60 : decode cX4_wordProperty 60 = .ok (.iconst (-1), 1) := by decide +kernel
theorem dX4_wordProperty_61 : decode cX4_wordProperty 61 = .ok (.if_icmp .ne 7, 3) := by decide +kernel
theorem dX4_wordProperty_64 : decode cX4_wordProperty 64 = .ok (.iconst (-1), 1) := by decide +kernel
theorem dX4_wordProperty_65 : decode cX4_wordProperty 65 = .ok (.goto 6, 3) := by decide +kernel
theorem dX4_wordProperty_68 : decode cX4_wordProperty 68 = .ok (.iload_n 3, 1) := by decide +kernel
theorem dX4_wordProperty_69 : decode cX4_wordProperty 69 = .ok (.iconst 4, 1) := by decide +kernel
theorem dX4_wordProperty_70 : decode cX4_wordProperty 70 = .ok (.idiv, 1) := by decide +kernel
theorem dX4_wordProperty_71 : decode cX4_wordProperty 71 = .ok (.ireturn, 1) := by decide +kernel
theorem dX4_wordProperty_72 : decode cX4_wordProperty 72 = .ok (.iload_n 3, 1) := by decide +kernel
theorem dX4_wordProperty_73 : decode cX4_wordProperty 73 = .ok (.iconst (-1), 1) := by decide +kernel
theorem dX4_wordProperty_74 : decode cX4_wordProperty 74 = .ok (.if_icmp .ne 7, 3) := by decide +kernel
theorem dX4_wordProperty_77 : decode cX4_wordProperty 77 = .ok (.iconst (-1), 1) := by decide +kernel
theorem dX4_wordProperty_78 : decode cX4_wordProperty 78 = .ok (.goto 6, 3) := by decide +kernel
theorem dX4_wordProperty_81 : decode cX4_wordProperty 81 = .ok (.iload_n 3, 1) := by decide +kernel
theorem dX4_wordProperty_82 : decode cX4_wordProperty 82 = .ok (.iconst 4, 1) := by decide +kernel
theorem dX4_wordProperty_83 : decode cX4_wordProperty 83 = .ok (.irem, 1) := by decide +kernel
theorem dX4_wordProperty_84 : decode cX4_wordProperty 84 = .ok (.ireturn, 1) := by decide +kernel
theorem dX4_wordProperty_85 : decode cX4_wordProperty 85 = .ok (.aload_n 0, 1) := by decide +kernel
theorem dX4_wordProperty_86 : decode cX4_wordProperty 86 = .ok (.iload_n 1, 1) := by decide +kernel
theorem dX4_wordProperty_87 : decode cX4_wordProperty 87 = .ok (.invokevirtual 122, 3) := by decide +kernel
theorem dX4_wordProperty_90 : decode cX4_wordProperty 90 = .ok (.ireturn, 1) := by decide +kernel
theorem dX4_wordProperty_91 : decode cX4_wordProperty 91 = .ok (.aload_n 0, 1) := by decide +kernel
theorem dX4_wordProperty_92 : decode cX4_wordProperty 92 = .ok (.getfield 7, 3) := by decide +kernel
theorem dX4_wordProperty_95 : decode cX4_wordProperty 95 = .ok (.sipush 136, 3) := by decide +kernel
theorem dX4_wordProperty_98 : decode cX4_wordProperty 98 = .ok (.iload_n 1, 1) := by decide +kernel
theorem dX4_wordProperty_99 : decode cX4_wordProperty 99 = .ok (.iadd, 1) := by decide +kernel
theorem dX4_wordProperty_100 : decode cX4_wordProperty 100 = .ok (.iaload, 1) := by decide +kernel
theorem dX4_wordProperty_101 : decode cX4_wordProperty 101 = .ok (.ireturn, 1) := by decide +kernel
theorem dX4_wordOf_0 : decode cX4_wordOf 0 = .ok (.aload_n 0, 1) := by decide +kernel
theorem dX4_wordOf_1 : decode cX4_wordOf 1 = .ok (.iconst 0, 1) := by decide +kernel
theorem dX4_wordOf_2 : decode cX4_wordOf 2 = .ok (.putfield 38, 3) := by decide +kernel
theorem dX4_wordOf_5 : decode cX4_wordOf 5 = .ok (.iload_n 1, 1) := by decide +kernel
theorem dX4_wordOf_6 : decode cX4_wordOf 6 = .ok (.invokestatic 128, 3) := by decide +kernel
theorem dX4_wordOf_9 : decode cX4_wordOf 9 = .ok (.ifCond .ne 9, 3) := by decide +kernel
theorem dX4_wordOf_12 : decode cX4_wordOf 12 = .ok (.aload_n 0, 1) := by decide +kernel
theorem dX4_wordOf_13 : decode cX4_wordOf 13 = .ok (.iconst 1, 1) := by decide +kernel
theorem dX4_wordOf_14 : decode cX4_wordOf 14 = .ok (.invokevirtual 134, 3) := by decide +kernel
theorem dX4_wordOf_17 : decode cX4_wordOf 17 = .ok (.ireturn, 1) := by decide +kernel
theorem dX4_wordOf_18 : decode cX4_wordOf 18 = .ok (.iload_n 2, 1) := by decide +kernel
theorem dX4_wordOf_19 : decode cX4_wordOf 19 = .ok (.iconst 0, 1) := by decide +kernel
theorem dX4_wordOf_20 : decode cX4_wordOf 20 = .ok (.bipush 6, 2) := by decide +kernel
theorem dX4_wordOf_22 : decode cX4_wordOf 22 = .ok (.invokestatic 42, 3) := by decide +kernel
theorem dX4_wordOf_25 : decode cX4_wordOf 25 = .ok (.ifCond .eq 12, 3) := by decide +kernel
theorem dX4_wordOf_28 : decode cX4_wordOf 28 = .ok (.aload_n 0, 1) := by decide +kernel
theorem dX4_wordOf_29 : decode cX4_wordOf 29 = .ok (.iload_n 1, 1) := by decide +kernel
theorem dX4_wordOf_30 : decode cX4_wordOf 30 = .ok (.iload_n 2, 1) := by decide +kernel
theorem dX4_wordOf_31 : decode cX4_wordOf 31 = .ok (.invokevirtual 205, 3) := by decide +kernel
theorem dX4_wordOf_34 : decode cX4_wordOf 34 = .ok (.goto 8, 3) := by decide +kernel
theorem dX4_wordOf_37 : decode cX4_wordOf 37 = .ok (.aload_n 0, 1) := by decide +kernel
theorem dX4_wordOf_38 : decode cX4_wordOf 38 = .ok (.iconst 2, 1) := by decide +kernel
theorem dX4_wordOf_39 : decode cX4_wordOf 39 = .ok (.invokevirtual 134, 3) := by decide +kernel
theorem dX4_wordOf_42 : decode cX4_wordOf 42 = .ok (.ireturn, 1) := by decide +kernel
theorem dX4_wordOrNone_0 : decode cX4_wordOrNone 0 = .ok (.iload_n 2, 1) := by decide +kernel
theorem dX4_wordOrNone_1 : decode cX4_wordOrNone 1 = .ok (.aload_n 0, 1) := by decide +kernel
theorem dX4_wordOrNone_2 : decode cX4_wordOrNone 2 = .ok (.getfield 7, 3) := by decide +kernel
theorem dX4_wordOrNone_5 : decode cX4_wordOrNone 5 = .ok (.iconst 0, 1) := by decide +kernel
theorem dX4_wordOrNone_6 : decode cX4_wordOrNone 6 = .ok (.iload_n 1, 1) := by decide +kernel
theorem dX4_wordOrNone_7 : decode cX4_wordOrNone 7 = .ok (.iadd, 1) := by decide +kernel
theorem dX4_wordOrNone_8 : decode cX4_wordOrNone 8 = .ok (.iaload, 1) := by decide +kernel
theorem dX4_wordOrNone_9 : decode cX4_wordOrNone 9 = .ok (.if_icmp .ge 12, 3) := by decide +kernel
theorem dX4_wordOrNone_12 : decode cX4_wordOrNone 12 = .ok (.aload_n 0, 1) := by decide +kernel
theorem dX4_wordOrNone_13 : decode cX4_wordOrNone 13 = .ok (.iload_n 1, 1) := by decide +kernel
theorem dX4_wordOrNone_14 : decode cX4_wordOrNone 14 = .ok (.iload_n 2, 1) := by decide +kernel
theorem dX4_wordOrNone_15 : decode cX4_wordOrNone 15 = .ok (.invokevirtual 53, 3) := by decide +kernel
theorem dX4_wordOrNone_18 : decode cX4_wordOrNone 18 = .ok (.goto 4, 3) := by decide +kernel
theorem dX4_wordOrNone_21 : decode cX4_wordOrNone 21 = .ok (.iconst (-1), 1) := by decide +kernel
theorem dX4_wordOrNone_22 : decode cX4_wordOrNone 22 = .ok (.ireturn, 1) := by decide +kernel
theorem dX4_at_0 : decode cX4_at 0 = .ok (.aload_n 0, 1) := by decide +kernel
theorem dX4_at_1 : decode cX4_at 1 = .ok (.iconst 0, 1) := by decide +kernel
theorem dX4_at_2 : decode cX4_at 2 = .ok (.putfield 38, 3) := by decide +kernel
theorem dX4_at_5 : decode cX4_at 5 = .ok (.iload_n 1, 1) := by decide +kernel
theorem dX4_at_6 : decode cX4_at 6 = .ok (.iload_n 2, 1) := by decide +kernel
theorem dX4_at_7 : decode cX4_at 7 = .ok (.invokestatic 131, 3) := by decide +kernel
theorem dX4_at_10 : decode cX4_at 10 = .ok (.ifCond .eq 25, 3) := by decide +kernel
theorem dX4_at_13 : decode cX4_at 13 = .ok (.iload_n 3, 1) := by decide +kernel
theorem dX4_at_14 : decode cX4_at 14 = .ok (.iconst 0, 1) := by decide +kernel
theorem dX4_at_15 : decode cX4_at 15 = .ok (.iconst 5, 1) := by decide +kernel
theorem dX4_at_16 : decode cX4_at 16 = .ok (.invokestatic 42, 3) := by decide +kernel
theorem dX4_at_19 : decode cX4_at 19 = .ok (.ifCond .eq 16, 3) := by decide +kernel
theorem dX4_at_22 : decode cX4_at 22 = .ok (.aload_n 0, 1) := by decide +kernel
theorem dX4_at_23 : decode cX4_at 23 = .ok (.iconst 4, 1) := by decide +kernel
theorem dX4_at_24 : decode cX4_at 24 = .ok (.iload_n 1, 1) := by decide +kernel
theorem dX4_at_25 : decode cX4_at 25 = .ok (.imul, 1) := by decide +kernel
theorem dX4_at_26 : decode cX4_at 26 = .ok (.iload_n 2, 1) := by decide +kernel
theorem dX4_at_27 : decode cX4_at 27 = .ok (.iadd, 1) := by decide +kernel
theorem dX4_at_28 : decode cX4_at 28 = .ok (.iload_n 3, 1) := by decide +kernel
theorem dX4_at_29 : decode cX4_at 29 = .ok (.invokevirtual 208, 3) := by decide +kernel
theorem dX4_at_32 : decode cX4_at 32 = .ok (.goto 8, 3) := by decide +kernel
theorem dX4_at_35 : decode cX4_at 35 = .ok (.aload_n 0, 1) := by decide +kernel
theorem dX4_at_36 : decode cX4_at 36 = .ok (.iconst 1, 1) := by decide +kernel
theorem dX4_at_37 : decode cX4_at 37 = .ok (.invokevirtual 134, 3) := by decide +kernel
theorem dX4_at_40 : decode cX4_at 40 = .ok (.ireturn, 1) := by decide +kernel
theorem dX4_told_0 : decode cX4_told 0 = .ok (.iload_n 0, 1) := by decide +kernel
theorem dX4_told_1 : decode cX4_told 1 = .ok (.iconst (-1), 1) := by decide +kernel
theorem dX4_told_2 : decode cX4_told 2 = .ok (.if_icmp .ne 7, 3) := by decide +kernel
theorem dX4_told_5 : decode cX4_told 5 = .ok (.iconst (-1), 1) := by decide +kernel
theorem dX4_told_6 : decode cX4_told 6 = .ok (.goto 13, 3) := by decide +kernel
theorem dX4_told_9 : decode cX4_told 9 = .ok (.bipush 10, 2) := by decide +kernel
theorem dX4_told_11 : decode cX4_told 11 = .ok (.iload_n 0, 1) := by decide +kernel
theorem dX4_told_12 : decode cX4_told 12 = .ok (.iconst 4, 1) := by decide +kernel
theorem dX4_told_13 : decode cX4_told 13 = .ok (.idiv, 1) := by decide +kernel
theorem dX4_told_14 : decode cX4_told 14 = .ok (.imul, 1) := by decide +kernel
theorem dX4_told_15 : decode cX4_told 15 = .ok (.iload_n 0, 1) := by decide +kernel
theorem dX4_told_16 : decode cX4_told 16 = .ok (.iconst 4, 1) := by decide +kernel
theorem dX4_told_17 : decode cX4_told 17 = .ok (.irem, 1) := by decide +kernel
theorem dX4_told_18 : decode cX4_told 18 = .ok (.iadd, 1) := by decide +kernel
theorem dX4_told_19 : decode cX4_told 19 = .ok (.ireturn, 1) := by decide +kernel
theorem dX4_isMixed_0 : decode cX4_isMixed 0 = .ok (.iconst 1, 1) := by decide +kernel
theorem dX4_isMixed_1 : decode cX4_isMixed 1 = .ok (.istore_n 2, 1) := by decide +kernel
theorem dX4_isMixed_2 : decode cX4_isMixed 2 = .ok (.iconst 0, 1) := by decide +kernel
theorem dX4_isMixed_3 : decode cX4_isMixed 3 = .ok (.istore_n 3, 1) := by decide +kernel
theorem dX4_isMixed_4 : decode cX4_isMixed 4 = .ok (.iload_n 3, 1) := by decide +kernel
theorem dX4_isMixed_5 : decode cX4_isMixed 5 = .ok (.iconst 1, 1) := by decide +kernel
theorem dX4_isMixed_6 : decode cX4_isMixed 6 = .ok (.iadd, 1) := by decide +kernel
theorem dX4_isMixed_7 : decode cX4_isMixed 7 = .ok (.aload_n 0, 1) := by decide +kernel
theorem dX4_isMixed_8 : decode cX4_isMixed 8 = .ok (.getfield 7, 3) := by decide +kernel
theorem dX4_isMixed_11 : decode cX4_isMixed 11 = .ok (.iconst 0, 1) := by decide +kernel
theorem dX4_isMixed_12 : decode cX4_isMixed 12 = .ok (.iload_n 1, 1) := by decide +kernel
theorem dX4_isMixed_13 : decode cX4_isMixed 13 = .ok (.iadd, 1) := by decide +kernel
theorem dX4_isMixed_14 : decode cX4_isMixed 14 = .ok (.iaload, 1) := by decide +kernel
theorem dX4_isMixed_15 : decode cX4_isMixed 15 = .ok (.if_icmp .ge 39, 3) := by decide +kernel
theorem dX4_isMixed_18 : decode cX4_isMixed 18 = .ok (.iload_n 2, 1) := by decide +kernel
theorem dX4_isMixed_19 : decode cX4_isMixed 19 = .ok (.ifCond .eq 27, 3) := by decide +kernel
theorem dX4_isMixed_22 : decode cX4_isMixed 22 = .ok (.aload_n 0, 1) := by decide +kernel
theorem dX4_isMixed_23 : decode cX4_isMixed 23 = .ok (.iload_n 1, 1) := by decide +kernel
theorem dX4_isMixed_24 : decode cX4_isMixed 24 = .ok (.iload_n 3, 1) := by decide +kernel
theorem dX4_isMixed_25 : decode cX4_isMixed 25 = .ok (.invokevirtual 53, 3) := by decide +kernel
theorem dX4_isMixed_28 : decode cX4_isMixed 28 = .ok (.aload_n 0, 1) := by decide +kernel
theorem dX4_isMixed_29 : decode cX4_isMixed 29 = .ok (.iload_n 1, 1) := by decide +kernel
theorem dX4_isMixed_30 : decode cX4_isMixed 30 = .ok (.iload_n 3, 1) := by decide +kernel
theorem dX4_isMixed_31 : decode cX4_isMixed 31 = .ok (.iconst 1, 1) := by decide +kernel
theorem dX4_isMixed_32 : decode cX4_isMixed 32 = .ok (.iadd, 1) := by decide +kernel
theorem dX4_isMixed_33 : decode cX4_isMixed 33 = .ok (.invokevirtual 53, 3) := by decide +kernel
theorem dX4_isMixed_36 : decode cX4_isMixed 36 = .ok (.invokestatic 84, 3) := by decide +kernel
theorem dX4_isMixed_39 : decode cX4_isMixed 39 = .ok (.ifCond .ne 7, 3) := by decide +kernel
theorem dX4_isMixed_42 : decode cX4_isMixed 42 = .ok (.iconst 1, 1) := by decide +kernel
theorem dX4_isMixed_43 : decode cX4_isMixed 43 = .ok (.goto 4, 3) := by decide +kernel
theorem dX4_isMixed_46 : decode cX4_isMixed 46 = .ok (.iconst 0, 1) := by decide +kernel
theorem dX4_isMixed_47 : decode cX4_isMixed 47 = .ok (.istore_n 2, 1) := by decide +kernel
theorem dX4_isMixed_48 : decode cX4_isMixed 48 = .ok (.iinc 3 1, 3) := by decide +kernel
theorem dX4_isMixed_51 : decode cX4_isMixed 51 = .ok (.goto (-47), 3) := by decide +kernel
theorem dX4_isMixed_54 : decode cX4_isMixed 54 = .ok (.iload_n 2, 1) := by decide +kernel
theorem dX4_isMixed_55 : decode cX4_isMixed 55 = .ok (.ireturn, 1) := by decide +kernel
theorem dX4_lineProperty_0 : decode cX4_lineProperty 0 = .ok (.iload_n 2, 1) := by decide +kernel
theorem dX4_lineProperty_1 : decode cX4_lineProperty 1 = .ok (.tableswitch 100 0 6 #[43, 52, 58, 64, 70, 85, 94], 43) := by decide +kernel
theorem dX4_lineProperty_44 : decode cX4_lineProperty 44 = .ok (.aload_n 0, 1) := by decide +kernel
theorem dX4_lineProperty_45 : decode cX4_lineProperty 45 = .ok (.getfield 7, 3) := by decide +kernel
theorem dX4_lineProperty_48 : decode cX4_lineProperty 48 = .ok (.iconst 0, 1) := by decide +kernel
theorem dX4_lineProperty_49 : decode cX4_lineProperty 49 = .ok (.iload_n 1, 1) := by decide +kernel
theorem dX4_lineProperty_50 : decode cX4_lineProperty 50 = .ok (.iadd, 1) := by decide +kernel
theorem dX4_lineProperty_51 : decode cX4_lineProperty 51 = .ok (.iaload, 1) := by decide +kernel
theorem dX4_lineProperty_52 : decode cX4_lineProperty 52 = .ok (.ireturn, 1) := by decide +kernel
theorem dX4_lineProperty_53 : decode cX4_lineProperty 53 = .ok (.aload_n 0, 1) := by decide +kernel
theorem dX4_lineProperty_54 : decode cX4_lineProperty 54 = .ok (.iload_n 1, 1) := by decide +kernel
theorem dX4_lineProperty_55 : decode cX4_lineProperty 55 = .ok (.invokevirtual 77, 3) := by decide +kernel
theorem dX4_lineProperty_58 : decode cX4_lineProperty 58 = .ok (.ireturn, 1) := by decide +kernel
theorem dX4_lineProperty_59 : decode cX4_lineProperty 59 = .ok (.aload_n 0, 1) := by decide +kernel
theorem dX4_lineProperty_60 : decode cX4_lineProperty 60 = .ok (.iload_n 1, 1) := by decide +kernel
theorem dX4_lineProperty_61 : decode cX4_lineProperty 61 = .ok (.invokevirtual 103, 3) := by decide +kernel
theorem dX4_lineProperty_64 : decode cX4_lineProperty 64 = .ok (.ireturn, 1) := by decide +kernel
theorem dX4_lineProperty_65 : decode cX4_lineProperty 65 = .ok (.aload_n 0, 1) := by decide +kernel
theorem dX4_lineProperty_66 : decode cX4_lineProperty 66 = .ok (.iload_n 1, 1) := by decide +kernel
theorem dX4_lineProperty_67 : decode cX4_lineProperty 67 = .ok (.invokevirtual 94, 3) := by decide +kernel
theorem dX4_lineProperty_70 : decode cX4_lineProperty 70 = .ok (.ireturn, 1) := by decide +kernel
theorem dX4_lineProperty_71 : decode cX4_lineProperty 71 = .ok (.aload_n 0, 1) := by decide +kernel
theorem dX4_lineProperty_72 : decode cX4_lineProperty 72 = .ok (.getfield 7, 3) := by decide +kernel
theorem dX4_lineProperty_75 : decode cX4_lineProperty 75 = .ok (.bipush 112, 2) := by decide +kernel
theorem dX4_lineProperty_77 : decode cX4_lineProperty 77 = .ok (.iload_n 1, 1) := by decide +kernel
theorem dX4_lineProperty_78 : decode cX4_lineProperty 78 = .ok (.iadd, 1) := by decide +kernel
theorem dX4_lineProperty_79 : decode cX4_lineProperty 79 = .ok (.iaload, 1) := by decide +kernel
theorem dX4_lineProperty_80 : decode cX4_lineProperty 80 = .ok (.iconst 1, 1) := by decide +kernel
theorem dX4_lineProperty_81 : decode cX4_lineProperty 81 = .ok (.isub, 1) := by decide +kernel
theorem dX4_lineProperty_82 : decode cX4_lineProperty 82 = .ok (.invokestatic 211, 3) := by decide +kernel
theorem dX4_lineProperty_85 : decode cX4_lineProperty 85 = .ok (.ireturn, 1) := by decide +kernel
theorem dX4_lineProperty_86 : decode cX4_lineProperty 86 = .ok (.aload_n 0, 1) := by decide +kernel
theorem dX4_lineProperty_87 : decode cX4_lineProperty 87 = .ok (.iload_n 1, 1) := by decide +kernel
theorem dX4_lineProperty_88 : decode cX4_lineProperty 88 = .ok (.invokevirtual 151, 3) := by decide +kernel
theorem dX4_lineProperty_91 : decode cX4_lineProperty 91 = .ok (.invokestatic 211, 3) := by decide +kernel
theorem dX4_lineProperty_94 : decode cX4_lineProperty 94 = .ok (.ireturn, 1) := by decide +kernel
theorem dX4_lineProperty_95 : decode cX4_lineProperty 95 = .ok (.aload_n 0, 1) := by decide +kernel
theorem dX4_lineProperty_96 : decode cX4_lineProperty 96 = .ok (.iload_n 1, 1) := by decide +kernel
theorem dX4_lineProperty_97 : decode cX4_lineProperty 97 = .ok (.invokevirtual 97, 3) := by decide +kernel
theorem dX4_lineProperty_100 : decode cX4_lineProperty 100 = .ok (.ireturn, 1) := by decide +kernel
theorem dX4_lineProperty_101 : decode cX4_lineProperty 101 = .ok (.aload_n 0, 1) := by decide +kernel
theorem dX4_lineProperty_102 : decode cX4_lineProperty 102 = .ok (.iload_n 1, 1) := by decide +kernel
theorem dX4_lineProperty_103 : decode cX4_lineProperty 103 = .ok (.invokevirtual 214, 3) := by decide +kernel
theorem dX4_lineProperty_106 : decode cX4_lineProperty 106 = .ok (.ifCond .eq 7, 3) := by decide +kernel
theorem dX4_lineProperty_109 : decode cX4_lineProperty 109 = .ok (.iconst 1, 1) := by decide +kernel
theorem dX4_lineProperty_110 : decode cX4_lineProperty 110 = .ok (.goto 4, 3) := by decide +kernel
theorem dX4_lineProperty_113 : decode cX4_lineProperty 113 = .ok (.iconst 0, 1) := by decide +kernel
theorem dX4_lineProperty_114 : decode cX4_lineProperty 114 = .ok (.ireturn, 1) := by decide +kernel
theorem dX4_lineOf_0 : decode cX4_lineOf 0 = .ok (.aload_n 0, 1) := by decide +kernel
theorem dX4_lineOf_1 : decode cX4_lineOf 1 = .ok (.iconst 0, 1) := by decide +kernel
theorem dX4_lineOf_2 : decode cX4_lineOf 2 = .ok (.putfield 38, 3) := by decide +kernel
theorem dX4_lineOf_5 : decode cX4_lineOf 5 = .ok (.iload_n 1, 1) := by decide +kernel
theorem dX4_lineOf_6 : decode cX4_lineOf 6 = .ok (.iload_n 2, 1) := by decide +kernel
theorem dX4_lineOf_7 : decode cX4_lineOf 7 = .ok (.invokestatic 131, 3) := by decide +kernel
theorem dX4_lineOf_10 : decode cX4_lineOf 10 = .ok (.ifCond .ne 9, 3) := by decide +kernel
theorem dX4_lineOf_13 : decode cX4_lineOf 13 = .ok (.aload_n 0, 1) := by decide +kernel
theorem dX4_lineOf_14 : decode cX4_lineOf 14 = .ok (.iconst 1, 1) := by decide +kernel
theorem dX4_lineOf_15 : decode cX4_lineOf 15 = .ok (.invokevirtual 134, 3) := by decide +kernel
theorem dX4_lineOf_18 : decode cX4_lineOf 18 = .ok (.ireturn, 1) := by decide +kernel
theorem dX4_lineOf_19 : decode cX4_lineOf 19 = .ok (.iload_n 3, 1) := by decide +kernel
theorem dX4_lineOf_20 : decode cX4_lineOf 20 = .ok (.iconst 0, 1) := by decide +kernel
theorem dX4_lineOf_21 : decode cX4_lineOf 21 = .ok (.bipush 7, 2) := by decide +kernel
theorem dX4_lineOf_23 : decode cX4_lineOf 23 = .ok (.invokestatic 42, 3) := by decide +kernel
theorem dX4_lineOf_26 : decode cX4_lineOf 26 = .ok (.ifCond .eq 16, 3) := by decide +kernel
theorem dX4_lineOf_29 : decode cX4_lineOf 29 = .ok (.aload_n 0, 1) := by decide +kernel
theorem dX4_lineOf_30 : decode cX4_lineOf 30 = .ok (.iconst 4, 1) := by decide +kernel
theorem dX4_lineOf_31 : decode cX4_lineOf 31 = .ok (.iload_n 1, 1) := by decide +kernel
theorem dX4_lineOf_32 : decode cX4_lineOf 32 = .ok (.imul, 1) := by decide +kernel
theorem dX4_lineOf_33 : decode cX4_lineOf 33 = .ok (.iload_n 2, 1) := by decide +kernel
theorem dX4_lineOf_34 : decode cX4_lineOf 34 = .ok (.iadd, 1) := by decide +kernel
theorem dX4_lineOf_35 : decode cX4_lineOf 35 = .ok (.iload_n 3, 1) := by decide +kernel
theorem dX4_lineOf_36 : decode cX4_lineOf 36 = .ok (.invokevirtual 217, 3) := by decide +kernel
theorem dX4_lineOf_39 : decode cX4_lineOf 39 = .ok (.goto 8, 3) := by decide +kernel
theorem dX4_lineOf_42 : decode cX4_lineOf 42 = .ok (.aload_n 0, 1) := by decide +kernel
theorem dX4_lineOf_43 : decode cX4_lineOf 43 = .ok (.iconst 2, 1) := by decide +kernel
theorem dX4_lineOf_44 : decode cX4_lineOf 44 = .ok (.invokevirtual 134, 3) := by decide +kernel
theorem dX4_lineOf_47 : decode cX4_lineOf 47 = .ok (.ireturn, 1) := by decide +kernel
theorem dX4_doorProperty_0 : decode cX4_doorProperty 0 = .ok (.iload_n 2, 1) := by decide +kernel
theorem dX4_doorProperty_1 : decode cX4_doorProperty 1 = .ok (.tableswitch 60 0 3 #[31, 37, 43, 49], 31) := by decide +kernel
theorem dX4_doorProperty_32 : decode cX4_doorProperty 32 = .ok (.aload_n 0, 1) := by decide +kernel
theorem dX4_doorProperty_33 : decode cX4_doorProperty 33 = .ok (.iload_n 1, 1) := by decide +kernel
theorem dX4_doorProperty_34 : decode cX4_doorProperty 34 = .ok (.invokevirtual 109, 3) := by decide +kernel
theorem dX4_doorProperty_37 : decode cX4_doorProperty 37 = .ok (.ireturn, 1) := by decide +kernel
theorem dX4_doorProperty_38 : decode cX4_doorProperty 38 = .ok (.aload_n 0, 1) := by decide +kernel
theorem dX4_doorProperty_39 : decode cX4_doorProperty 39 = .ok (.iload_n 1, 1) := by decide +kernel
theorem dX4_doorProperty_40 : decode cX4_doorProperty 40 = .ok (.invokevirtual 106, 3) := by decide +kernel
theorem dX4_doorProperty_43 : decode cX4_doorProperty 43 = .ok (.ireturn, 1) := by decide +kernel
theorem dX4_doorProperty_44 : decode cX4_doorProperty 44 = .ok (.aload_n 0, 1) := by decide +kernel
theorem dX4_doorProperty_45 : decode cX4_doorProperty 45 = .ok (.iload_n 1, 1) := by decide +kernel
theorem dX4_doorProperty_46 : decode cX4_doorProperty 46 = .ok (.invokevirtual 100, 3) := by decide +kernel
theorem dX4_doorProperty_49 : decode cX4_doorProperty 49 = .ok (.ireturn, 1) := by decide +kernel
theorem dX4_doorProperty_50 : decode cX4_doorProperty 50 = .ok (.aload_n 0, 1) := by decide +kernel
theorem dX4_doorProperty_51 : decode cX4_doorProperty 51 = .ok (.getfield 7, 3) := by decide +kernel
theorem dX4_doorProperty_54 : decode cX4_doorProperty 54 = .ok (.sipush 128, 3) := by decide +kernel
theorem dX4_doorProperty_57 : decode cX4_doorProperty 57 = .ok (.iload_n 1, 1) := by decide +kernel
theorem dX4_doorProperty_58 : decode cX4_doorProperty 58 = .ok (.iadd, 1) := by decide +kernel
theorem dX4_doorProperty_59 : decode cX4_doorProperty 59 = .ok (.iaload, 1) := by decide +kernel
theorem dX4_doorProperty_60 : decode cX4_doorProperty 60 = .ok (.ireturn, 1) := by decide +kernel
theorem dX4_doorProperty_61 : decode cX4_doorProperty 61 = .ok (.aload_n 0, 1) := by decide +kernel
theorem dX4_doorProperty_62 : decode cX4_doorProperty 62 = .ok (.getfield 7, 3) := by decide +kernel
theorem dX4_doorProperty_65 : decode cX4_doorProperty 65 = .ok (.sipush 132, 3) := by decide +kernel
theorem dX4_doorProperty_68 : decode cX4_doorProperty 68 = .ok (.iload_n 1, 1) := by decide +kernel
theorem dX4_doorProperty_69 : decode cX4_doorProperty 69 = .ok (.iadd, 1) := by decide +kernel
theorem dX4_doorProperty_70 : decode cX4_doorProperty 70 = .ok (.iaload, 1) := by decide +kernel
theorem dX4_doorProperty_71 : decode cX4_doorProperty 71 = .ok (.ireturn, 1) := by decide +kernel
theorem dX4_doorOf_0 : decode cX4_doorOf 0 = .ok (.aload_n 0, 1) := by decide +kernel
theorem dX4_doorOf_1 : decode cX4_doorOf 1 = .ok (.iconst 0, 1) := by decide +kernel
theorem dX4_doorOf_2 : decode cX4_doorOf 2 = .ok (.putfield 38, 3) := by decide +kernel
theorem dX4_doorOf_5 : decode cX4_doorOf 5 = .ok (.iload_n 1, 1) := by decide +kernel
theorem dX4_doorOf_6 : decode cX4_doorOf 6 = .ok (.invokestatic 46, 3) := by decide +kernel
theorem dX4_doorOf_9 : decode cX4_doorOf 9 = .ok (.ifCond .ne 9, 3) := by decide +kernel
theorem dX4_doorOf_12 : decode cX4_doorOf 12 = .ok (.aload_n 0, 1) := by decide +kernel
theorem dX4_doorOf_13 : decode cX4_doorOf 13 = .ok (.iconst 1, 1) := by decide +kernel
theorem dX4_doorOf_14 : decode cX4_doorOf 14 = .ok (.invokevirtual 134, 3) := by decide +kernel
theorem dX4_doorOf_17 : decode cX4_doorOf 17 = .ok (.ireturn, 1) := by decide +kernel
theorem dX4_doorOf_18 : decode cX4_doorOf 18 = .ok (.iload_n 2, 1) := by decide +kernel
theorem dX4_doorOf_19 : decode cX4_doorOf 19 = .ok (.iconst 0, 1) := by decide +kernel
theorem dX4_doorOf_20 : decode cX4_doorOf 20 = .ok (.iconst 4, 1) := by decide +kernel
theorem dX4_doorOf_21 : decode cX4_doorOf 21 = .ok (.invokestatic 42, 3) := by decide +kernel
theorem dX4_doorOf_24 : decode cX4_doorOf 24 = .ok (.ifCond .eq 12, 3) := by decide +kernel
theorem dX4_doorOf_27 : decode cX4_doorOf 27 = .ok (.aload_n 0, 1) := by decide +kernel
theorem dX4_doorOf_28 : decode cX4_doorOf 28 = .ok (.iload_n 1, 1) := by decide +kernel
theorem dX4_doorOf_29 : decode cX4_doorOf 29 = .ok (.iload_n 2, 1) := by decide +kernel
theorem dX4_doorOf_30 : decode cX4_doorOf 30 = .ok (.invokevirtual 220, 3) := by decide +kernel
theorem dX4_doorOf_33 : decode cX4_doorOf 33 = .ok (.goto 8, 3) := by decide +kernel
theorem dX4_doorOf_36 : decode cX4_doorOf 36 = .ok (.aload_n 0, 1) := by decide +kernel
theorem dX4_doorOf_37 : decode cX4_doorOf 37 = .ok (.iconst 2, 1) := by decide +kernel
theorem dX4_doorOf_38 : decode cX4_doorOf 38 = .ok (.invokevirtual 134, 3) := by decide +kernel
theorem dX4_doorOf_41 : decode cX4_doorOf 41 = .ok (.ireturn, 1) := by decide +kernel
theorem dX4_stolenInAll_0 : decode cX4_stolenInAll 0 = .ok (.iconst 0, 1) := by decide +kernel
theorem dX4_stolenInAll_1 : decode cX4_stolenInAll 1 = .ok (.istore_n 1, 1) := by decide +kernel
theorem dX4_stolenInAll_2 : decode cX4_stolenInAll 2 = .ok (.iconst 0, 1) := by decide +kernel
theorem dX4_stolenInAll_3 : decode cX4_stolenInAll 3 = .ok (.istore_n 2, 1) := by decide +kernel
theorem dX4_stolenInAll_4 : decode cX4_stolenInAll 4 = .ok (.iload_n 2, 1) := by decide +kernel
theorem dX4_stolenInAll_5 : decode cX4_stolenInAll 5 = .ok (.iconst 4, 1) := by decide +kernel
theorem dX4_stolenInAll_6 : decode cX4_stolenInAll 6 = .ok (.if_icmp .ge 22, 3) := by decide +kernel
theorem dX4_stolenInAll_9 : decode cX4_stolenInAll 9 = .ok (.iload_n 1, 1) := by decide +kernel
theorem dX4_stolenInAll_10 : decode cX4_stolenInAll 10 = .ok (.aload_n 0, 1) := by decide +kernel
theorem dX4_stolenInAll_11 : decode cX4_stolenInAll 11 = .ok (.getfield 7, 3) := by decide +kernel
theorem dX4_stolenInAll_14 : decode cX4_stolenInAll 14 = .ok (.sipush 132, 3) := by decide +kernel
theorem dX4_stolenInAll_17 : decode cX4_stolenInAll 17 = .ok (.iload_n 2, 1) := by decide +kernel
theorem dX4_stolenInAll_18 : decode cX4_stolenInAll 18 = .ok (.iadd, 1) := by decide +kernel
theorem dX4_stolenInAll_19 : decode cX4_stolenInAll 19 = .ok (.iaload, 1) := by decide +kernel
theorem dX4_stolenInAll_20 : decode cX4_stolenInAll 20 = .ok (.iadd, 1) := by decide +kernel
theorem dX4_stolenInAll_21 : decode cX4_stolenInAll 21 = .ok (.istore_n 1, 1) := by decide +kernel
theorem dX4_stolenInAll_22 : decode cX4_stolenInAll 22 = .ok (.iinc 2 1, 3) := by decide +kernel
theorem dX4_stolenInAll_25 : decode cX4_stolenInAll 25 = .ok (.goto (-21), 3) := by decide +kernel
theorem dX4_stolenInAll_28 : decode cX4_stolenInAll 28 = .ok (.iload_n 1, 1) := by decide +kernel
theorem dX4_stolenInAll_29 : decode cX4_stolenInAll 29 = .ok (.ireturn, 1) := by decide +kernel
theorem dX4_lentNow_0 : decode cX4_lentNow 0 = .ok (.iconst 0, 1) := by decide +kernel
theorem dX4_lentNow_1 : decode cX4_lentNow 1 = .ok (.istore_n 1, 1) := by decide +kernel
theorem dX4_lentNow_2 : decode cX4_lentNow 2 = .ok (.iconst 0, 1) := by decide +kernel
theorem dX4_lentNow_3 : decode cX4_lentNow 3 = .ok (.istore_n 2, 1) := by decide +kernel
theorem dX4_lentNow_4 : decode cX4_lentNow 4 = .ok (.iload_n 2, 1) := by decide +kernel
theorem dX4_lentNow_5 : decode cX4_lentNow 5 = .ok (.bipush 16, 2) := by decide +kernel
theorem dX4_lentNow_7 : decode cX4_lentNow 7 = .ok (.if_icmp .ge 29, 3) := by decide +kernel
theorem dX4_lentNow_10 : decode cX4_lentNow 10 = .ok (.iload_n 1, 1) := by decide +kernel
theorem dX4_lentNow_11 : decode cX4_lentNow 11 = .ok (.aload_n 0, 1) := by decide +kernel
theorem dX4_lentNow_12 : decode cX4_lentNow 12 = .ok (.getfield 7, 3) := by decide +kernel
theorem dX4_lentNow_15 : decode cX4_lentNow 15 = .ok (.bipush 112, 2) := by decide +kernel
theorem dX4_lentNow_17 : decode cX4_lentNow 17 = .ok (.iload_n 2, 1) := by decide +kernel
theorem dX4_lentNow_18 : decode cX4_lentNow 18 = .ok (.iadd, 1) := by decide +kernel
theorem dX4_lentNow_19 : decode cX4_lentNow 19 = .ok (.iaload, 1) := by decide +kernel
theorem dX4_lentNow_20 : decode cX4_lentNow 20 = .ok (.ifCond .le 7, 3) := by decide +kernel
theorem dX4_lentNow_23 : decode cX4_lentNow 23 = .ok (.iconst 1, 1) := by decide +kernel
theorem dX4_lentNow_24 : decode cX4_lentNow 24 = .ok (.goto 4, 3) := by decide +kernel
theorem dX4_lentNow_27 : decode cX4_lentNow 27 = .ok (.iconst 0, 1) := by decide +kernel
theorem dX4_lentNow_28 : decode cX4_lentNow 28 = .ok (.iadd, 1) := by decide +kernel
theorem dX4_lentNow_29 : decode cX4_lentNow 29 = .ok (.istore_n 1, 1) := by decide +kernel
theorem dX4_lentNow_30 : decode cX4_lentNow 30 = .ok (.iinc 2 1, 3) := by decide +kernel
theorem dX4_lentNow_33 : decode cX4_lentNow 33 = .ok (.goto (-29), 3) := by decide +kernel
theorem dX4_lentNow_36 : decode cX4_lentNow 36 = .ok (.iload_n 1, 1) := by decide +kernel
theorem dX4_lentNow_37 : decode cX4_lentNow 37 = .ok (.ireturn, 1) := by decide +kernel
theorem dX4_allWorth_0 : decode cX4_allWorth 0 = .ok (.iconst 0, 1) := by decide +kernel
theorem dX4_allWorth_1 : decode cX4_allWorth 1 = .ok (.istore_n 1, 1) := by decide +kernel
theorem dX4_allWorth_2 : decode cX4_allWorth 2 = .ok (.iconst 0, 1) := by decide +kernel
theorem dX4_allWorth_3 : decode cX4_allWorth 3 = .ok (.istore_n 2, 1) := by decide +kernel
theorem dX4_allWorth_4 : decode cX4_allWorth 4 = .ok (.iload_n 2, 1) := by decide +kernel
theorem dX4_allWorth_5 : decode cX4_allWorth 5 = .ok (.iconst 4, 1) := by decide +kernel
theorem dX4_allWorth_6 : decode cX4_allWorth 6 = .ok (.if_icmp .ge 17, 3) := by decide +kernel
theorem dX4_allWorth_9 : decode cX4_allWorth 9 = .ok (.iload_n 1, 1) := by decide +kernel
theorem dX4_allWorth_10 : decode cX4_allWorth 10 = .ok (.aload_n 0, 1) := by decide +kernel
theorem dX4_allWorth_11 : decode cX4_allWorth 11 = .ok (.iload_n 2, 1) := by decide +kernel
theorem dX4_allWorth_12 : decode cX4_allWorth 12 = .ok (.invokevirtual 109, 3) := by decide +kernel
theorem dX4_allWorth_15 : decode cX4_allWorth 15 = .ok (.iadd, 1) := by decide +kernel
theorem dX4_allWorth_16 : decode cX4_allWorth 16 = .ok (.istore_n 1, 1) := by decide +kernel
theorem dX4_allWorth_17 : decode cX4_allWorth 17 = .ok (.iinc 2 1, 3) := by decide +kernel
theorem dX4_allWorth_20 : decode cX4_allWorth 20 = .ok (.goto (-16), 3) := by decide +kernel
theorem dX4_allWorth_23 : decode cX4_allWorth 23 = .ok (.iload_n 1, 1) := by decide +kernel
theorem dX4_allWorth_24 : decode cX4_allWorth 24 = .ok (.ireturn, 1) := by decide +kernel
theorem dX4_number_0 : decode cX4_number 0 = .ok (.iload_n 1, 1) := by decide +kernel
theorem dX4_number_1 : decode cX4_number 1 = .ok (.tableswitch 94 0 7 #[47, 47, 52, 61, 66, 75, 84, 89], 47) := by decide +kernel
theorem dX4_number_48 : decode cX4_number 48 = .ok (.aload_n 0, 1) := by decide +kernel
theorem dX4_number_49 : decode cX4_number 49 = .ok (.invokevirtual 202, 3) := by decide +kernel
theorem dX4_number_52 : decode cX4_number 52 = .ok (.ireturn, 1) := by decide +kernel
theorem dX4_number_53 : decode cX4_number 53 = .ok (.aload_n 0, 1) := by decide +kernel
theorem dX4_number_54 : decode cX4_number 54 = .ok (.getfield 7, 3) := by decide +kernel
theorem dX4_number_57 : decode cX4_number 57 = .ok (.sipush 179, 3) := by decide +kernel
theorem dX4_number_60 : decode cX4_number 60 = .ok (.iaload, 1) := by decide +kernel
theorem dX4_number_61 : decode cX4_number 61 = .ok (.ireturn, 1) := by decide +kernel
theorem dX4_number_62 : decode cX4_number 62 = .ok (.aload_n 0, 1) := by decide +kernel
theorem dX4_number_63 : decode cX4_number 63 = .ok (.invokevirtual 223, 3) := by decide +kernel
theorem dX4_number_66 : decode cX4_number 66 = .ok (.ireturn, 1) := by decide +kernel
theorem dX4_number_67 : decode cX4_number 67 = .ok (.aload_n 0, 1) := by decide +kernel
theorem dX4_number_68 : decode cX4_number 68 = .ok (.getfield 7, 3) := by decide +kernel
theorem dX4_number_71 : decode cX4_number 71 = .ok (.sipush 180, 3) := by decide +kernel
theorem dX4_number_74 : decode cX4_number 74 = .ok (.iaload, 1) := by decide +kernel
theorem dX4_number_75 : decode cX4_number 75 = .ok (.ireturn, 1) := by decide +kernel
theorem dX4_number_76 : decode cX4_number 76 = .ok (.aload_n 0, 1) := by decide +kernel
theorem dX4_number_77 : decode cX4_number 77 = .ok (.getfield 7, 3) := by decide +kernel
theorem dX4_number_80 : decode cX4_number 80 = .ok (.sipush 181, 3) := by decide +kernel
theorem dX4_number_83 : decode cX4_number 83 = .ok (.iaload, 1) := by decide +kernel
theorem dX4_number_84 : decode cX4_number 84 = .ok (.ireturn, 1) := by decide +kernel
theorem dX4_number_85 : decode cX4_number 85 = .ok (.aload_n 0, 1) := by decide +kernel
theorem dX4_number_86 : decode cX4_number 86 = .ok (.invokevirtual 226, 3) := by decide +kernel
theorem dX4_number_89 : decode cX4_number 89 = .ok (.ireturn, 1) := by decide +kernel
theorem dX4_number_90 : decode cX4_number 90 = .ok (.aload_n 0, 1) := by decide +kernel
theorem dX4_number_91 : decode cX4_number 91 = .ok (.invokevirtual 229, 3) := by decide +kernel
theorem dX4_number_94 : decode cX4_number 94 = .ok (.ireturn, 1) := by decide +kernel
theorem dX4_number_95 : decode cX4_number 95 = .ok (.aload_n 0, 1) := by decide +kernel
theorem dX4_number_96 : decode cX4_number 96 = .ok (.getfield 50, 3) := by decide +kernel
theorem dX4_number_99 : decode cX4_number 99 = .ok (.ireturn, 1) := by decide +kernel
theorem dX4_count_0 : decode cX4_count 0 = .ok (.aload_n 0, 1) := by decide +kernel
theorem dX4_count_1 : decode cX4_count 1 = .ok (.iconst 0, 1) := by decide +kernel
theorem dX4_count_2 : decode cX4_count 2 = .ok (.putfield 38, 3) := by decide +kernel
theorem dX4_count_5 : decode cX4_count 5 = .ok (.iload_n 1, 1) := by decide +kernel
theorem dX4_count_6 : decode cX4_count 6 = .ok (.iconst 0, 1) := by decide +kernel
theorem dX4_count_7 : decode cX4_count 7 = .ok (.bipush 8, 2) := by decide +kernel
theorem dX4_count_9 : decode cX4_count 9 = .ok (.invokestatic 42, 3) := by decide +kernel
theorem dX4_count_12 : decode cX4_count 12 = .ok (.ifCond .eq 11, 3) := by decide +kernel
theorem dX4_count_15 : decode cX4_count 15 = .ok (.aload_n 0, 1) := by decide +kernel
theorem dX4_count_16 : decode cX4_count 16 = .ok (.iload_n 1, 1) := by decide +kernel
theorem dX4_count_17 : decode cX4_count 17 = .ok (.invokevirtual 232, 3) := by decide +kernel
theorem dX4_count_20 : decode cX4_count 20 = .ok (.goto 8, 3) := by decide +kernel
theorem dX4_count_23 : decode cX4_count 23 = .ok (.aload_n 0, 1) := by decide +kernel
theorem dX4_count_24 : decode cX4_count 24 = .ok (.iconst 1, 1) := by decide +kernel
theorem dX4_count_25 : decode cX4_count 25 = .ok (.invokevirtual 134, 3) := by decide +kernel
end
section
theorem dX4_count_28 : decode cX4_count 28 = .ok (.ireturn, 1) := by decide +kernel
theorem dX4_setting_0 : decode cX4_setting 0 = .ok (.aload_n 0, 1) := by decide +kernel
theorem dX4_setting_1 : decode cX4_setting 1 = .ok (.iconst 0, 1) := by decide +kernel
theorem dX4_setting_2 : decode cX4_setting 2 = .ok (.putfield 38, 3) := by decide +kernel
theorem dX4_setting_5 : decode cX4_setting 5 = .ok (.iload_n 1, 1) := by decide +kernel
theorem dX4_setting_6 : decode cX4_setting 6 = .ok (.iconst 0, 1) := by decide +kernel
theorem dX4_setting_7 : decode cX4_setting 7 = .ok (.iconst 2, 1) := by decide +kernel
theorem dX4_setting_8 : decode cX4_setting 8 = .ok (.invokestatic 42, 3) := by decide +kernel
theorem dX4_setting_11 : decode cX4_setting 11 = .ok (.ifCond .eq 16, 3) := by decide +kernel
theorem dX4_setting_14 : decode cX4_setting 14 = .ok (.aload_n 0, 1) := by decide +kernel
theorem dX4_setting_15 : decode cX4_setting 15 = .ok (.getfield 7, 3) := by decide +kernel
theorem dX4_setting_18 : decode cX4_setting 18 = .ok (.sipush 176, 3) := by decide +kernel
theorem dX4_setting_21 : decode cX4_setting 21 = .ok (.iload_n 1, 1) := by decide +kernel
theorem dX4_setting_22 : decode cX4_setting 22 = .ok (.iadd, 1) := by decide +kernel
theorem dX4_setting_23 : decode cX4_setting 23 = .ok (.iaload, 1) := by decide +kernel
theorem dX4_setting_24 : decode cX4_setting 24 = .ok (.goto 8, 3) := by decide +kernel
theorem dX4_setting_27 : decode cX4_setting 27 = .ok (.aload_n 0, 1) := by decide +kernel
theorem dX4_setting_28 : decode cX4_setting 28 = .ok (.iconst 1, 1) := by decide +kernel
theorem dX4_setting_29 : decode cX4_setting 29 = .ok (.invokevirtual 134, 3) := by decide +kernel
theorem dX4_setting_32 : decode cX4_setting 32 = .ok (.ireturn, 1) := by decide +kernel
theorem dX4_whyNot_0 : decode cX4_whyNot 0 = .ok (.aload_n 0, 1) := by decide +kernel
theorem dX4_whyNot_1 : decode cX4_whyNot 1 = .ok (.iconst 0, 1) := by decide +kernel
theorem dX4_whyNot_2 : decode cX4_whyNot 2 = .ok (.putfield 38, 3) := by decide +kernel
theorem dX4_whyNot_5 : decode cX4_whyNot 5 = .ok (.iload_n 1, 1) := by decide +kernel
theorem dX4_whyNot_6 : decode cX4_whyNot 6 = .ok (.invokestatic 128, 3) := by decide +kernel
theorem dX4_whyNot_9 : decode cX4_whyNot 9 = .ok (.ifCond .eq 32, 3) := by decide +kernel
theorem dX4_whyNot_12 : decode cX4_whyNot 12 = .ok (.iload_n 2, 1) := by decide +kernel
theorem dX4_whyNot_13 : decode cX4_whyNot 13 = .ok (.iload_n 3, 1) := by decide +kernel
theorem dX4_whyNot_14 : decode cX4_whyNot 14 = .ok (.invokestatic 131, 3) := by decide +kernel
theorem dX4_whyNot_17 : decode cX4_whyNot 17 = .ok (.ifCond .eq 24, 3) := by decide +kernel
theorem dX4_whyNot_20 : decode cX4_whyNot 20 = .ok (.iload 4, 2) := by decide +kernel
theorem dX4_whyNot_22 : decode cX4_whyNot 22 = .ok (.iconst 0, 1) := by decide +kernel
theorem dX4_whyNot_23 : decode cX4_whyNot 23 = .ok (.aload_n 0, 1) := by decide +kernel
theorem dX4_whyNot_24 : decode cX4_whyNot 24 = .ok (.getfield 7, 3) := by decide +kernel
theorem dX4_whyNot_27 : decode cX4_whyNot 27 = .ok (.iconst 0, 1) := by decide +kernel
theorem dX4_whyNot_28 : decode cX4_whyNot 28 = .ok (.iconst 4, 1) := by decide +kernel
theorem dX4_whyNot_29 : decode cX4_whyNot 29 = .ok (.iload_n 2, 1) := by decide +kernel
theorem dX4_whyNot_30 : decode cX4_whyNot 30 = .ok (.imul, 1) := by decide +kernel
theorem dX4_whyNot_31 : decode cX4_whyNot 31 = .ok (.iadd, 1) := by decide +kernel
theorem dX4_whyNot_32 : decode cX4_whyNot 32 = .ok (.iload_n 3, 1) := by decide +kernel
theorem dX4_whyNot_33 : decode cX4_whyNot 33 = .ok (.iadd, 1) := by decide +kernel
theorem dX4_whyNot_34 : decode cX4_whyNot 34 = .ok (.iaload, 1) := by decide +kernel
theorem dX4_whyNot_35 : decode cX4_whyNot 35 = .ok (.invokestatic 42, 3) := by decide +kernel
theorem dX4_whyNot_38 : decode cX4_whyNot 38 = .ok (.ifCond .ne 9, 3) := by decide +kernel
theorem dX4_whyNot_41 : decode cX4_whyNot 41 = .ok (.aload_n 0, 1) := by decide +kernel
theorem dX4_whyNot_42 : decode cX4_whyNot 42 = .ok (.iconst 1, 1) := by decide +kernel
theorem dX4_whyNot_43 : decode cX4_whyNot 43 = .ok (.invokevirtual 134, 3) := by decide +kernel
theorem dX4_whyNot_46 : decode cX4_whyNot 46 = .ok (.ireturn, 1) := by decide +kernel
theorem dX4_whyNot_47 : decode cX4_whyNot 47 = .ok (.aload_n 0, 1) := by decide +kernel
theorem dX4_whyNot_48 : decode cX4_whyNot 48 = .ok (.iload_n 1, 1) := by decide +kernel
theorem dX4_whyNot_49 : decode cX4_whyNot 49 = .ok (.invokevirtual 57, 3) := by decide +kernel
theorem dX4_whyNot_52 : decode cX4_whyNot 52 = .ok (.iconst 4, 1) := by decide +kernel
theorem dX4_whyNot_53 : decode cX4_whyNot 53 = .ok (.iload_n 2, 1) := by decide +kernel
theorem dX4_whyNot_54 : decode cX4_whyNot 54 = .ok (.imul, 1) := by decide +kernel
theorem dX4_whyNot_55 : decode cX4_whyNot 55 = .ok (.iload_n 3, 1) := by decide +kernel
theorem dX4_whyNot_56 : decode cX4_whyNot 56 = .ok (.iadd, 1) := by decide +kernel
theorem dX4_whyNot_57 : decode cX4_whyNot 57 = .ok (.if_icmp .ne 7, 3) := by decide +kernel
theorem dX4_whyNot_60 : decode cX4_whyNot 60 = .ok (.iconst (-1), 1) := by decide +kernel
theorem dX4_whyNot_61 : decode cX4_whyNot 61 = .ok (.goto 15, 3) := by decide +kernel
theorem dX4_whyNot_64 : decode cX4_whyNot 64 = .ok (.aload_n 0, 1) := by decide +kernel
theorem dX4_whyNot_65 : decode cX4_whyNot 65 = .ok (.iload_n 1, 1) := by decide +kernel
theorem dX4_whyNot_66 : decode cX4_whyNot 66 = .ok (.iconst 4, 1) := by decide +kernel
theorem dX4_whyNot_67 : decode cX4_whyNot 67 = .ok (.iload_n 2, 1) := by decide +kernel
theorem dX4_whyNot_68 : decode cX4_whyNot 68 = .ok (.imul, 1) := by decide +kernel
theorem dX4_whyNot_69 : decode cX4_whyNot 69 = .ok (.iload_n 3, 1) := by decide +kernel
theorem dX4_whyNot_70 : decode cX4_whyNot 70 = .ok (.iadd, 1) := by decide +kernel
theorem dX4_whyNot_71 : decode cX4_whyNot 71 = .ok (.iload 4, 2) := by decide +kernel
theorem dX4_whyNot_73 : decode cX4_whyNot 73 = .ok (.invokevirtual 140, 3) := by decide +kernel
theorem dX4_whyNot_76 : decode cX4_whyNot 76 = .ok (.ireturn, 1) := by decide +kernel
theorem dX4_worthWith_0 : decode cX4_worthWith 0 = .ok (.aload_n 0, 1) := by decide +kernel
theorem dX4_worthWith_1 : decode cX4_worthWith 1 = .ok (.invokevirtual 235, 3) := by decide +kernel
theorem dX4_worthWith_4 : decode cX4_worthWith 4 = .ok (.aload_n 0, 1) := by decide +kernel
theorem dX4_worthWith_5 : decode cX4_worthWith 5 = .ok (.iload_n 1, 1) := by decide +kernel
theorem dX4_worthWith_6 : decode cX4_worthWith 6 = .ok (.iload_n 2, 1) := by decide +kernel
theorem dX4_worthWith_7 : decode cX4_worthWith 7 = .ok (.aload_n 0, 1) := by decide +kernel
theorem dX4_worthWith_8 : decode cX4_worthWith 8 = .ok (.getfield 7, 3) := by decide +kernel
theorem dX4_worthWith_11 : decode cX4_worthWith 11 = .ok (.iconst 0, 1) := by decide +kernel
theorem dX4_worthWith_12 : decode cX4_worthWith 12 = .ok (.iload_n 2, 1) := by decide +kernel
theorem dX4_worthWith_13 : decode cX4_worthWith 13 = .ok (.iadd, 1) := by decide +kernel
theorem dX4_worthWith_14 : decode cX4_worthWith 14 = .ok (.iaload, 1) := by decide +kernel
theorem dX4_worthWith_15 : decode cX4_worthWith 15 = .ok (.invokevirtual 144, 3) := by decide +kernel
theorem dX4_worthWith_18 : decode cX4_worthWith 18 = .ok (.aload_n 0, 1) := by decide +kernel
theorem dX4_worthWith_19 : decode cX4_worthWith 19 = .ok (.iload_n 2, 1) := by decide +kernel
theorem dX4_worthWith_20 : decode cX4_worthWith 20 = .ok (.iconst 4, 1) := by decide +kernel
theorem dX4_worthWith_21 : decode cX4_worthWith 21 = .ok (.idiv, 1) := by decide +kernel
theorem dX4_worthWith_22 : decode cX4_worthWith 22 = .ok (.invokevirtual 109, 3) := by decide +kernel
theorem dX4_worthWith_25 : decode cX4_worthWith 25 = .ok (.istore_n 3, 1) := by decide +kernel
theorem dX4_worthWith_26 : decode cX4_worthWith 26 = .ok (.aload_n 0, 1) := by decide +kernel
theorem dX4_worthWith_27 : decode cX4_worthWith 27 = .ok (.invokevirtual 238, 3) := by decide +kernel
theorem dX4_worthWith_30 : decode cX4_worthWith 30 = .ok (.iload_n 3, 1) := by decide +kernel
theorem dX4_worthWith_31 : decode cX4_worthWith 31 = .ok (.ireturn, 1) := by decide +kernel
theorem dX4_bestFor_0 : decode cX4_bestFor 0 = .ok (.iconst (-1), 1) := by decide +kernel
theorem dX4_bestFor_1 : decode cX4_bestFor 1 = .ok (.istore_n 2, 1) := by decide +kernel
theorem dX4_bestFor_2 : decode cX4_bestFor 2 = .ok (.iconst (-1), 1) := by decide +kernel
theorem dX4_bestFor_3 : decode cX4_bestFor 3 = .ok (.istore_n 3, 1) := by decide +kernel
theorem dX4_bestFor_4 : decode cX4_bestFor 4 = .ok (.iconst 0, 1) := by decide +kernel
theorem dX4_bestFor_5 : decode cX4_bestFor 5 = .ok (.istore 4, 2) := by decide +kernel
theorem dX4_bestFor_7 : decode cX4_bestFor 7 = .ok (.iload 4, 2) := by decide +kernel
theorem dX4_bestFor_9 : decode cX4_bestFor 9 = .ok (.bipush 40, 2) := by decide +kernel
theorem dX4_bestFor_11 : decode cX4_bestFor 11 = .ok (.if_icmp .ge 72, 3) := by decide +kernel
theorem dX4_bestFor_14 : decode cX4_bestFor 14 = .ok (.aload_n 0, 1) := by decide +kernel
theorem dX4_bestFor_15 : decode cX4_bestFor 15 = .ok (.iload 4, 2) := by decide +kernel
theorem dX4_bestFor_17 : decode cX4_bestFor 17 = .ok (.invokevirtual 57, 3) := by decide +kernel
theorem dX4_bestFor_20 : decode cX4_bestFor 20 = .ok (.iconst (-1), 1) := by decide +kernel
theorem dX4_bestFor_21 : decode cX4_bestFor 21 = .ok (.if_icmp .ne 56, 3) := by decide +kernel
theorem dX4_bestFor_24 : decode cX4_bestFor 24 = .ok (.aload_n 0, 1) := by decide +kernel
theorem dX4_bestFor_25 : decode cX4_bestFor 25 = .ok (.iload 4, 2) := by decide +kernel
theorem dX4_bestFor_27 : decode cX4_bestFor 27 = .ok (.iload_n 1, 1) := by decide +kernel
theorem dX4_bestFor_28 : decode cX4_bestFor 28 = .ok (.aload_n 0, 1) := by decide +kernel
theorem dX4_bestFor_29 : decode cX4_bestFor 29 = .ok (.getfield 7, 3) := by decide +kernel
theorem dX4_bestFor_32 : decode cX4_bestFor 32 = .ok (.iconst 0, 1) := by decide +kernel
theorem dX4_bestFor_33 : decode cX4_bestFor 33 = .ok (.iload_n 1, 1) := by decide +kernel
theorem dX4_bestFor_34 : decode cX4_bestFor 34 = .ok (.iadd, 1) := by decide +kernel
theorem dX4_bestFor_35 : decode cX4_bestFor 35 = .ok (.iaload, 1) := by decide +kernel
theorem dX4_bestFor_36 : decode cX4_bestFor 36 = .ok (.invokevirtual 140, 3) := by decide +kernel
theorem dX4_bestFor_39 : decode cX4_bestFor 39 = .ok (.ifCond .ne 38, 3) := by decide +kernel
theorem dX4_bestFor_42 : decode cX4_bestFor 42 = .ok (.aload_n 0, 1) := by decide +kernel
theorem dX4_bestFor_43 : decode cX4_bestFor 43 = .ok (.iload 4, 2) := by decide +kernel
theorem dX4_bestFor_45 : decode cX4_bestFor 45 = .ok (.iload_n 1, 1) := by decide +kernel
theorem dX4_bestFor_46 : decode cX4_bestFor 46 = .ok (.invokevirtual 241, 3) := by decide +kernel
theorem dX4_bestFor_49 : decode cX4_bestFor 49 = .ok (.istore 5, 2) := by decide +kernel
theorem dX4_bestFor_51 : decode cX4_bestFor 51 = .ok (.iload 5, 2) := by decide +kernel
theorem dX4_bestFor_53 : decode cX4_bestFor 53 = .ok (.iload_n 3, 1) := by decide +kernel
theorem dX4_bestFor_54 : decode cX4_bestFor 54 = .ok (.if_icmp .le 8, 3) := by decide +kernel
theorem dX4_bestFor_57 : decode cX4_bestFor 57 = .ok (.iload 4, 2) := by decide +kernel
theorem dX4_bestFor_59 : decode cX4_bestFor 59 = .ok (.goto 4, 3) := by decide +kernel
theorem dX4_bestFor_62 : decode cX4_bestFor 62 = .ok (.iload_n 2, 1) := by decide +kernel
theorem dX4_bestFor_63 : decode cX4_bestFor 63 = .ok (.istore_n 2, 1) := by decide +kernel
theorem dX4_bestFor_64 : decode cX4_bestFor 64 = .ok (.iload 5, 2) := by decide +kernel
theorem dX4_bestFor_66 : decode cX4_bestFor 66 = .ok (.iload_n 3, 1) := by decide +kernel
theorem dX4_bestFor_67 : decode cX4_bestFor 67 = .ok (.if_icmp .le 8, 3) := by decide +kernel
theorem dX4_bestFor_70 : decode cX4_bestFor 70 = .ok (.iload 5, 2) := by decide +kernel
theorem dX4_bestFor_72 : decode cX4_bestFor 72 = .ok (.goto 4, 3) := by decide +kernel
theorem dX4_bestFor_75 : decode cX4_bestFor 75 = .ok (.iload_n 3, 1) := by decide +kernel
theorem dX4_bestFor_76 : decode cX4_bestFor 76 = .ok (.istore_n 3, 1) := by decide +kernel
theorem dX4_bestFor_77 : decode cX4_bestFor 77 = .ok (.iinc 4 1, 3) := by decide +kernel
theorem dX4_bestFor_80 : decode cX4_bestFor 80 = .ok (.goto (-73), 3) := by decide +kernel
theorem dX4_bestFor_83 : decode cX4_bestFor 83 = .ok (.iload_n 2, 1) := by decide +kernel
theorem dX4_bestFor_84 : decode cX4_bestFor 84 = .ok (.ireturn, 1) := by decide +kernel
theorem dX4_bestWord_0 : decode cX4_bestWord 0 = .ok (.aload_n 0, 1) := by decide +kernel
theorem dX4_bestWord_1 : decode cX4_bestWord 1 = .ok (.iconst 0, 1) := by decide +kernel
theorem dX4_bestWord_2 : decode cX4_bestWord 2 = .ok (.putfield 38, 3) := by decide +kernel
theorem dX4_bestWord_5 : decode cX4_bestWord 5 = .ok (.iload_n 1, 1) := by decide +kernel
theorem dX4_bestWord_6 : decode cX4_bestWord 6 = .ok (.iload_n 2, 1) := by decide +kernel
theorem dX4_bestWord_7 : decode cX4_bestWord 7 = .ok (.invokestatic 131, 3) := by decide +kernel
theorem dX4_bestWord_10 : decode cX4_bestWord 10 = .ok (.ifCond .eq 15, 3) := by decide +kernel
theorem dX4_bestWord_13 : decode cX4_bestWord 13 = .ok (.aload_n 0, 1) := by decide +kernel
theorem dX4_bestWord_14 : decode cX4_bestWord 14 = .ok (.iconst 4, 1) := by decide +kernel
theorem dX4_bestWord_15 : decode cX4_bestWord 15 = .ok (.iload_n 1, 1) := by decide +kernel
theorem dX4_bestWord_16 : decode cX4_bestWord 16 = .ok (.imul, 1) := by decide +kernel
theorem dX4_bestWord_17 : decode cX4_bestWord 17 = .ok (.iload_n 2, 1) := by decide +kernel
theorem dX4_bestWord_18 : decode cX4_bestWord 18 = .ok (.iadd, 1) := by decide +kernel
theorem dX4_bestWord_19 : decode cX4_bestWord 19 = .ok (.invokevirtual 244, 3) := by decide +kernel
theorem dX4_bestWord_22 : decode cX4_bestWord 22 = .ok (.goto 8, 3) := by decide +kernel
theorem dX4_bestWord_25 : decode cX4_bestWord 25 = .ok (.aload_n 0, 1) := by decide +kernel
theorem dX4_bestWord_26 : decode cX4_bestWord 26 = .ok (.iconst 1, 1) := by decide +kernel
theorem dX4_bestWord_27 : decode cX4_bestWord 27 = .ok (.invokevirtual 134, 3) := by decide +kernel
theorem dX4_bestWord_30 : decode cX4_bestWord 30 = .ok (.ireturn, 1) := by decide +kernel
theorem dX4_prey_0 : decode cX4_prey 0 = .ok (.aload_n 0, 1) := by decide +kernel
theorem dX4_prey_1 : decode cX4_prey 1 = .ok (.iconst 0, 1) := by decide +kernel
theorem dX4_prey_2 : decode cX4_prey 2 = .ok (.putfield 38, 3) := by decide +kernel
theorem dX4_prey_5 : decode cX4_prey 5 = .ok (.aload_n 0, 1) := by decide +kernel
theorem dX4_prey_6 : decode cX4_prey 6 = .ok (.invokevirtual 119, 3) := by decide +kernel
theorem dX4_prey_9 : decode cX4_prey 9 = .ok (.ireturn, 1) := by decide +kernel
theorem dX4_worthBehind_0 : decode cX4_worthBehind 0 = .ok (.aload_n 0, 1) := by decide +kernel
theorem dX4_worthBehind_1 : decode cX4_worthBehind 1 = .ok (.invokevirtual 235, 3) := by decide +kernel
theorem dX4_worthBehind_4 : decode cX4_worthBehind 4 = .ok (.aload_n 0, 1) := by decide +kernel
theorem dX4_worthBehind_5 : decode cX4_worthBehind 5 = .ok (.iload_n 1, 1) := by decide +kernel
theorem dX4_worthBehind_6 : decode cX4_worthBehind 6 = .ok (.invokevirtual 157, 3) := by decide +kernel
theorem dX4_worthBehind_9 : decode cX4_worthBehind 9 = .ok (.istore_n 3, 1) := by decide +kernel
theorem dX4_worthBehind_10 : decode cX4_worthBehind 10 = .ok (.aload_n 0, 1) := by decide +kernel
theorem dX4_worthBehind_11 : decode cX4_worthBehind 11 = .ok (.iload_n 2, 1) := by decide +kernel
theorem dX4_worthBehind_12 : decode cX4_worthBehind 12 = .ok (.invokevirtual 109, 3) := by decide +kernel
theorem dX4_worthBehind_15 : decode cX4_worthBehind 15 = .ok (.istore 4, 2) := by decide +kernel
theorem dX4_worthBehind_17 : decode cX4_worthBehind 17 = .ok (.aload_n 0, 1) := by decide +kernel
theorem dX4_worthBehind_18 : decode cX4_worthBehind 18 = .ok (.invokevirtual 238, 3) := by decide +kernel
theorem dX4_worthBehind_21 : decode cX4_worthBehind 21 = .ok (.iload 4, 2) := by decide +kernel
theorem dX4_worthBehind_23 : decode cX4_worthBehind 23 = .ok (.ireturn, 1) := by decide +kernel
theorem dX4_ifSlept_0 : decode cX4_ifSlept 0 = .ok (.aload_n 0, 1) := by decide +kernel
theorem dX4_ifSlept_1 : decode cX4_ifSlept 1 = .ok (.iconst 0, 1) := by decide +kernel
theorem dX4_ifSlept_2 : decode cX4_ifSlept 2 = .ok (.putfield 38, 3) := by decide +kernel
theorem dX4_ifSlept_5 : decode cX4_ifSlept 5 = .ok (.iload_n 2, 1) := by decide +kernel
theorem dX4_ifSlept_6 : decode cX4_ifSlept 6 = .ok (.invokestatic 46, 3) := by decide +kernel
theorem dX4_ifSlept_9 : decode cX4_ifSlept 9 = .ok (.ifCond .ne 9, 3) := by decide +kernel
theorem dX4_ifSlept_12 : decode cX4_ifSlept 12 = .ok (.aload_n 0, 1) := by decide +kernel
theorem dX4_ifSlept_13 : decode cX4_ifSlept 13 = .ok (.iconst 1, 1) := by decide +kernel
theorem dX4_ifSlept_14 : decode cX4_ifSlept 14 = .ok (.invokevirtual 134, 3) := by decide +kernel
theorem dX4_ifSlept_17 : decode cX4_ifSlept 17 = .ok (.ireturn, 1) := by decide +kernel
theorem dX4_ifSlept_18 : decode cX4_ifSlept 18 = .ok (.iload_n 1, 1) := by decide +kernel
theorem dX4_ifSlept_19 : decode cX4_ifSlept 19 = .ok (.iconst 1, 1) := by decide +kernel
theorem dX4_ifSlept_20 : decode cX4_ifSlept 20 = .ok (.bipush 20, 2) := by decide +kernel
theorem dX4_ifSlept_22 : decode cX4_ifSlept 22 = .ok (.invokestatic 42, 3) := by decide +kernel
theorem dX4_ifSlept_25 : decode cX4_ifSlept 25 = .ok (.ifCond .eq 12, 3) := by decide +kernel
theorem dX4_ifSlept_28 : decode cX4_ifSlept 28 = .ok (.aload_n 0, 1) := by decide +kernel
theorem dX4_ifSlept_29 : decode cX4_ifSlept 29 = .ok (.iload_n 1, 1) := by decide +kernel
theorem dX4_ifSlept_30 : decode cX4_ifSlept 30 = .ok (.iload_n 2, 1) := by decide +kernel
theorem dX4_ifSlept_31 : decode cX4_ifSlept 31 = .ok (.invokevirtual 247, 3) := by decide +kernel
theorem dX4_ifSlept_34 : decode cX4_ifSlept 34 = .ok (.goto 8, 3) := by decide +kernel
theorem dX4_ifSlept_37 : decode cX4_ifSlept 37 = .ok (.aload_n 0, 1) := by decide +kernel
theorem dX4_ifSlept_38 : decode cX4_ifSlept 38 = .ok (.iconst 2, 1) := by decide +kernel
theorem dX4_ifSlept_39 : decode cX4_ifSlept 39 = .ok (.invokevirtual 134, 3) := by decide +kernel
theorem dX4_ifSlept_42 : decode cX4_ifSlept 42 = .ok (.ireturn, 1) := by decide +kernel
theorem dX4_share_0 : decode cX4_share 0 = .ok (.bipush 40, 2) := by decide +kernel
theorem dX4_share_2 : decode cX4_share 2 = .ok (.aload_n 0, 1) := by decide +kernel
theorem dX4_share_3 : decode cX4_share 3 = .ok (.invokevirtual 202, 3) := by decide +kernel
theorem dX4_share_6 : decode cX4_share 6 = .ok (.isub, 1) := by decide +kernel
theorem dX4_share_7 : decode cX4_share 7 = .ok (.i2d, 1) := by decide +kernel
theorem dX4_share_8 : decode cX4_share 8 = .ok (.ldc2_w 250, 3) := by decide +kernel
theorem dX4_share_11 : decode cX4_share 11 = .ok (.ddiv, 1) := by decide +kernel
theorem dX4_share_12 : decode cX4_share 12 = .ok (.dreturn, 1) := by decide +kernel
theorem dX4_shownShare_0 : decode cX4_shownShare 0 = .ok (.aload_n 0, 1) := by decide +kernel
theorem dX4_shownShare_1 : decode cX4_shownShare 1 = .ok (.iconst 0, 1) := by decide +kernel
theorem dX4_shownShare_2 : decode cX4_shownShare 2 = .ok (.putfield 38, 3) := by decide +kernel
theorem dX4_shownShare_5 : decode cX4_shownShare 5 = .ok (.aload_n 0, 1) := by decide +kernel
theorem dX4_shownShare_6 : decode cX4_shownShare 6 = .ok (.invokevirtual 252, 3) := by decide +kernel
theorem dX4_shownShare_9 : decode cX4_shownShare 9 = .ok (.dreturn, 1) := by decide +kernel
theorem dX4_mix_0 : decode cX4_mix 0 = .ok (.aload_n 0, 1) := by decide +kernel
theorem dX4_mix_1 : decode cX4_mix 1 = .ok (.ldc2_w 256, 3) := by decide +kernel
theorem dX4_mix_4 : decode cX4_mix 4 = .ok (.aload_n 0, 1) := by decide +kernel
theorem dX4_mix_5 : decode cX4_mix 5 = .ok (.getfield 258, 3) := by decide +kernel
theorem dX4_mix_8 : decode cX4_mix 8 = .ok (.lmul, 1) := by decide +kernel
theorem dX4_mix_9 : decode cX4_mix 9 = .ok (.lload_n 1, 1) := by decide +kernel
theorem dX4_mix_10 : decode cX4_mix 10 = .ok (.ladd, 1) := by decide +kernel
theorem dX4_mix_11 : decode cX4_mix 11 = .ok (.putfield 258, 3) := by decide +kernel
theorem dX4_mix_14 : decode cX4_mix 14 = .ok (.return_, 1) := by decide +kernel
theorem dX4_mixLine_0 : decode cX4_mixLine 0 = .ok (.iconst 0, 1) := by decide +kernel
theorem dX4_mixLine_1 : decode cX4_mixLine 1 = .ok (.istore_n 2, 1) := by decide +kernel
theorem dX4_mixLine_2 : decode cX4_mixLine 2 = .ok (.iload_n 2, 1) := by decide +kernel
theorem dX4_mixLine_3 : decode cX4_mixLine 3 = .ok (.bipush 6, 2) := by decide +kernel
theorem dX4_mixLine_5 : decode cX4_mixLine 5 = .ok (.if_icmp .ge 20, 3) := by decide +kernel
theorem dX4_mixLine_8 : decode cX4_mixLine 8 = .ok (.aload_n 0, 1) := by decide +kernel
theorem dX4_mixLine_9 : decode cX4_mixLine 9 = .ok (.aload_n 0, 1) := by decide +kernel
theorem dX4_mixLine_10 : decode cX4_mixLine 10 = .ok (.iload_n 1, 1) := by decide +kernel
theorem dX4_mixLine_11 : decode cX4_mixLine 11 = .ok (.iload_n 2, 1) := by decide +kernel
theorem dX4_mixLine_12 : decode cX4_mixLine 12 = .ok (.invokevirtual 208, 3) := by decide +kernel
theorem dX4_mixLine_15 : decode cX4_mixLine 15 = .ok (.i2l, 1) := by decide +kernel
theorem dX4_mixLine_16 : decode cX4_mixLine 16 = .ok (.invokevirtual 261, 3) := by decide +kernel
theorem dX4_mixLine_19 : decode cX4_mixLine 19 = .ok (.iinc 2 1, 3) := by decide +kernel
theorem dX4_mixLine_22 : decode cX4_mixLine 22 = .ok (.goto (-20), 3) := by decide +kernel
theorem dX4_mixLine_25 : decode cX4_mixLine 25 = .ok (.iconst 0, 1) := by decide +kernel
theorem dX4_mixLine_26 : decode cX4_mixLine 26 = .ok (.istore_n 2, 1) := by decide +kernel
theorem dX4_mixLine_27 : decode cX4_mixLine 27 = .ok (.iload_n 2, 1) := by decide +kernel
theorem dX4_mixLine_28 : decode cX4_mixLine 28 = .ok (.bipush 8, 2) := by decide +kernel
theorem dX4_mixLine_30 : decode cX4_mixLine 30 = .ok (.if_icmp .ge 20, 3) := by decide +kernel
theorem dX4_mixLine_33 : decode cX4_mixLine 33 = .ok (.aload_n 0, 1) := by decide +kernel
theorem dX4_mixLine_34 : decode cX4_mixLine 34 = .ok (.aload_n 0, 1) := by decide +kernel
theorem dX4_mixLine_35 : decode cX4_mixLine 35 = .ok (.iload_n 1, 1) := by decide +kernel
theorem dX4_mixLine_36 : decode cX4_mixLine 36 = .ok (.iload_n 2, 1) := by decide +kernel
theorem dX4_mixLine_37 : decode cX4_mixLine 37 = .ok (.invokevirtual 217, 3) := by decide +kernel
theorem dX4_mixLine_40 : decode cX4_mixLine 40 = .ok (.i2l, 1) := by decide +kernel
theorem dX4_mixLine_41 : decode cX4_mixLine 41 = .ok (.invokevirtual 261, 3) := by decide +kernel
theorem dX4_mixLine_44 : decode cX4_mixLine 44 = .ok (.iinc 2 1, 3) := by decide +kernel
theorem dX4_mixLine_47 : decode cX4_mixLine 47 = .ok (.goto (-20), 3) := by decide +kernel
theorem dX4_mixLine_50 : decode cX4_mixLine 50 = .ok (.aload_n 0, 1) := by decide +kernel
theorem dX4_mixLine_51 : decode cX4_mixLine 51 = .ok (.aload_n 0, 1) := by decide +kernel
theorem dX4_mixLine_52 : decode cX4_mixLine 52 = .ok (.iload_n 1, 1) := by decide +kernel
theorem dX4_mixLine_53 : decode cX4_mixLine 53 = .ok (.invokevirtual 244, 3) := by decide +kernel
theorem dX4_mixLine_56 : decode cX4_mixLine 56 = .ok (.i2l, 1) := by decide +kernel
theorem dX4_mixLine_57 : decode cX4_mixLine 57 = .ok (.invokevirtual 261, 3) := by decide +kernel
theorem dX4_mixLine_60 : decode cX4_mixLine 60 = .ok (.return_, 1) := by decide +kernel
theorem dX4_mixDoor_0 : decode cX4_mixDoor 0 = .ok (.iconst 0, 1) := by decide +kernel
theorem dX4_mixDoor_1 : decode cX4_mixDoor 1 = .ok (.istore_n 2, 1) := by decide +kernel
theorem dX4_mixDoor_2 : decode cX4_mixDoor 2 = .ok (.iload_n 2, 1) := by decide +kernel
theorem dX4_mixDoor_3 : decode cX4_mixDoor 3 = .ok (.iconst 5, 1) := by decide +kernel
theorem dX4_mixDoor_4 : decode cX4_mixDoor 4 = .ok (.if_icmp .ge 20, 3) := by decide +kernel
theorem dX4_mixDoor_7 : decode cX4_mixDoor 7 = .ok (.aload_n 0, 1) := by decide +kernel
theorem dX4_mixDoor_8 : decode cX4_mixDoor 8 = .ok (.aload_n 0, 1) := by decide +kernel
theorem dX4_mixDoor_9 : decode cX4_mixDoor 9 = .ok (.iload_n 1, 1) := by decide +kernel
theorem dX4_mixDoor_10 : decode cX4_mixDoor 10 = .ok (.iload_n 2, 1) := by decide +kernel
theorem dX4_mixDoor_11 : decode cX4_mixDoor 11 = .ok (.invokevirtual 220, 3) := by decide +kernel
theorem dX4_mixDoor_14 : decode cX4_mixDoor 14 = .ok (.i2l, 1) := by decide +kernel
theorem dX4_mixDoor_15 : decode cX4_mixDoor 15 = .ok (.invokevirtual 261, 3) := by decide +kernel
theorem dX4_mixDoor_18 : decode cX4_mixDoor 18 = .ok (.iinc 2 1, 3) := by decide +kernel
theorem dX4_mixDoor_21 : decode cX4_mixDoor 21 = .ok (.goto (-19), 3) := by decide +kernel
theorem dX4_mixDoor_24 : decode cX4_mixDoor 24 = .ok (.iconst 4, 1) := by decide +kernel
theorem dX4_mixDoor_25 : decode cX4_mixDoor 25 = .ok (.iload_n 1, 1) := by decide +kernel
theorem dX4_mixDoor_26 : decode cX4_mixDoor 26 = .ok (.imul, 1) := by decide +kernel
theorem dX4_mixDoor_27 : decode cX4_mixDoor 27 = .ok (.istore_n 2, 1) := by decide +kernel
theorem dX4_mixDoor_28 : decode cX4_mixDoor 28 = .ok (.iload_n 2, 1) := by decide +kernel
theorem dX4_mixDoor_29 : decode cX4_mixDoor 29 = .ok (.iconst 4, 1) := by decide +kernel
theorem dX4_mixDoor_30 : decode cX4_mixDoor 30 = .ok (.iload_n 1, 1) := by decide +kernel
theorem dX4_mixDoor_31 : decode cX4_mixDoor 31 = .ok (.imul, 1) := by decide +kernel
theorem dX4_mixDoor_32 : decode cX4_mixDoor 32 = .ok (.iconst 4, 1) := by decide +kernel
theorem dX4_mixDoor_33 : decode cX4_mixDoor 33 = .ok (.iadd, 1) := by decide +kernel
theorem dX4_mixDoor_34 : decode cX4_mixDoor 34 = .ok (.if_icmp .ge 14, 3) := by decide +kernel
theorem dX4_mixDoor_37 : decode cX4_mixDoor 37 = .ok (.aload_n 0, 1) := by decide +kernel
theorem dX4_mixDoor_38 : decode cX4_mixDoor 38 = .ok (.iload_n 2, 1) := by decide +kernel
theorem dX4_mixDoor_39 : decode cX4_mixDoor 39 = .ok (.invokevirtual 265, 3) := by decide +kernel
theorem dX4_mixDoor_42 : decode cX4_mixDoor 42 = .ok (.iinc 2 1, 3) := by decide +kernel
theorem dX4_mixDoor_45 : decode cX4_mixDoor 45 = .ok (.goto (-17), 3) := by decide +kernel
theorem dX4_mixDoor_48 : decode cX4_mixDoor 48 = .ok (.aload_n 0, 1) := by decide +kernel
theorem dX4_mixDoor_49 : decode cX4_mixDoor 49 = .ok (.aload_n 0, 1) := by decide +kernel
theorem dX4_mixDoor_50 : decode cX4_mixDoor 50 = .ok (.iconst 3, 1) := by decide +kernel
theorem dX4_mixDoor_51 : decode cX4_mixDoor 51 = .ok (.iload_n 1, 1) := by decide +kernel
theorem dX4_mixDoor_52 : decode cX4_mixDoor 52 = .ok (.invokevirtual 247, 3) := by decide +kernel
theorem dX4_mixDoor_55 : decode cX4_mixDoor 55 = .ok (.i2l, 1) := by decide +kernel
theorem dX4_mixDoor_56 : decode cX4_mixDoor 56 = .ok (.invokevirtual 261, 3) := by decide +kernel
theorem dX4_mixDoor_59 : decode cX4_mixDoor 59 = .ok (.return_, 1) := by decide +kernel
theorem dX4_digest_0 : decode cX4_digest 0 = .ok (.aload_n 0, 1) := by decide +kernel
theorem dX4_digest_1 : decode cX4_digest 1 = .ok (.iconst 0, 1) := by decide +kernel
theorem dX4_digest_2 : decode cX4_digest 2 = .ok (.putfield 38, 3) := by decide +kernel
theorem dX4_digest_5 : decode cX4_digest 5 = .ok (.aload_n 0, 1) := by decide +kernel
theorem dX4_digest_6 : decode cX4_digest 6 = .ok (.ldc2_w 268, 3) := by decide +kernel
theorem dX4_digest_9 : decode cX4_digest 9 = .ok (.putfield 258, 3) := by decide +kernel
theorem dX4_digest_12 : decode cX4_digest 12 = .ok (.iconst 0, 1) := by decide +kernel
theorem dX4_digest_13 : decode cX4_digest 13 = .ok (.istore_n 1, 1) := by decide +kernel
theorem dX4_digest_14 : decode cX4_digest 14 = .ok (.iload_n 1, 1) := by decide +kernel
theorem dX4_digest_15 : decode cX4_digest 15 = .ok (.bipush 9, 2) := by decide +kernel
theorem dX4_digest_17 : decode cX4_digest 17 = .ok (.if_icmp .ge 19, 3) := by decide +kernel
theorem dX4_digest_20 : decode cX4_digest 20 = .ok (.aload_n 0, 1) := by decide +kernel
theorem dX4_digest_21 : decode cX4_digest 21 = .ok (.aload_n 0, 1) := by decide +kernel
theorem dX4_digest_22 : decode cX4_digest 22 = .ok (.iload_n 1, 1) := by decide +kernel
theorem dX4_digest_23 : decode cX4_digest 23 = .ok (.invokevirtual 232, 3) := by decide +kernel
theorem dX4_digest_26 : decode cX4_digest 26 = .ok (.i2l, 1) := by decide +kernel
theorem dX4_digest_27 : decode cX4_digest 27 = .ok (.invokevirtual 261, 3) := by decide +kernel
theorem dX4_digest_30 : decode cX4_digest 30 = .ok (.iinc 1 1, 3) := by decide +kernel
theorem dX4_digest_33 : decode cX4_digest 33 = .ok (.goto (-19), 3) := by decide +kernel
theorem dX4_digest_36 : decode cX4_digest 36 = .ok (.iconst 0, 1) := by decide +kernel
theorem dX4_digest_37 : decode cX4_digest 37 = .ok (.istore_n 1, 1) := by decide +kernel
theorem dX4_digest_38 : decode cX4_digest 38 = .ok (.iload_n 1, 1) := by decide +kernel
theorem dX4_digest_39 : decode cX4_digest 39 = .ok (.iconst 3, 1) := by decide +kernel
theorem dX4_digest_40 : decode cX4_digest 40 = .ok (.if_icmp .ge 24, 3) := by decide +kernel
theorem dX4_digest_43 : decode cX4_digest 43 = .ok (.aload_n 0, 1) := by decide +kernel
theorem dX4_digest_44 : decode cX4_digest 44 = .ok (.aload_n 0, 1) := by decide +kernel
theorem dX4_digest_45 : decode cX4_digest 45 = .ok (.getfield 7, 3) := by decide +kernel
theorem dX4_digest_48 : decode cX4_digest 48 = .ok (.sipush 176, 3) := by decide +kernel
theorem dX4_digest_51 : decode cX4_digest 51 = .ok (.iload_n 1, 1) := by decide +kernel
theorem dX4_digest_52 : decode cX4_digest 52 = .ok (.iadd, 1) := by decide +kernel
theorem dX4_digest_53 : decode cX4_digest 53 = .ok (.iaload, 1) := by decide +kernel
theorem dX4_digest_54 : decode cX4_digest 54 = .ok (.i2l, 1) := by decide +kernel
theorem dX4_digest_55 : decode cX4_digest 55 = .ok (.invokevirtual 261, 3) := by decide +kernel
theorem dX4_digest_58 : decode cX4_digest 58 = .ok (.iinc 1 1, 3) := by decide +kernel
theorem dX4_digest_61 : decode cX4_digest 61 = .ok (.goto (-23), 3) := by decide +kernel
theorem dX4_digest_64 : decode cX4_digest 64 = .ok (.iconst 0, 1) := by decide +kernel
theorem dX4_digest_65 : decode cX4_digest 65 = .ok (.istore_n 1, 1) := by decide +kernel
theorem dX4_digest_66 : decode cX4_digest 66 = .ok (.iload_n 1, 1) := by decide +kernel
theorem dX4_digest_67 : decode cX4_digest 67 = .ok (.bipush 40, 2) := by decide +kernel
theorem dX4_digest_69 : decode cX4_digest 69 = .ok (.if_icmp .ge 34, 3) := by decide +kernel
theorem dX4_digest_72 : decode cX4_digest 72 = .ok (.iconst 3, 1) := by decide +kernel
theorem dX4_digest_73 : decode cX4_digest 73 = .ok (.istore_n 2, 1) := by decide +kernel
theorem dX4_digest_74 : decode cX4_digest 74 = .ok (.iload_n 2, 1) := by decide +kernel
theorem dX4_digest_75 : decode cX4_digest 75 = .ok (.bipush 7, 2) := by decide +kernel
theorem dX4_digest_77 : decode cX4_digest 77 = .ok (.if_icmp .ge 20, 3) := by decide +kernel
theorem dX4_digest_80 : decode cX4_digest 80 = .ok (.aload_n 0, 1) := by decide +kernel
theorem dX4_digest_81 : decode cX4_digest 81 = .ok (.aload_n 0, 1) := by decide +kernel
theorem dX4_digest_82 : decode cX4_digest 82 = .ok (.iload_n 1, 1) := by decide +kernel
theorem dX4_digest_83 : decode cX4_digest 83 = .ok (.iload_n 2, 1) := by decide +kernel
theorem dX4_digest_84 : decode cX4_digest 84 = .ok (.invokevirtual 205, 3) := by decide +kernel
theorem dX4_digest_87 : decode cX4_digest 87 = .ok (.i2l, 1) := by decide +kernel
theorem dX4_digest_88 : decode cX4_digest 88 = .ok (.invokevirtual 261, 3) := by decide +kernel
theorem dX4_digest_91 : decode cX4_digest 91 = .ok (.iinc 2 1, 3) := by decide +kernel
theorem dX4_digest_94 : decode cX4_digest 94 = .ok (.goto (-20), 3) := by decide +kernel
theorem dX4_digest_97 : decode cX4_digest 97 = .ok (.iinc 1 1, 3) := by decide +kernel
theorem dX4_digest_100 : decode cX4_digest 100 = .ok (.goto (-34), 3) := by decide +kernel
theorem dX4_digest_103 : decode cX4_digest 103 = .ok (.iconst 0, 1) := by decide +kernel
theorem dX4_digest_104 : decode cX4_digest 104 = .ok (.istore_n 1, 1) := by decide +kernel
theorem dX4_digest_105 : decode cX4_digest 105 = .ok (.iload_n 1, 1) := by decide +kernel
theorem dX4_digest_106 : decode cX4_digest 106 = .ok (.iconst 4, 1) := by decide +kernel
theorem dX4_digest_107 : decode cX4_digest 107 = .ok (.if_icmp .ge 14, 3) := by decide +kernel
theorem dX4_digest_110 : decode cX4_digest 110 = .ok (.aload_n 0, 1) := by decide +kernel
theorem dX4_digest_111 : decode cX4_digest 111 = .ok (.iload_n 1, 1) := by decide +kernel
theorem dX4_digest_112 : decode cX4_digest 112 = .ok (.invokevirtual 270, 3) := by decide +kernel
theorem dX4_digest_115 : decode cX4_digest 115 = .ok (.iinc 1 1, 3) := by decide +kernel
theorem dX4_digest_118 : decode cX4_digest 118 = .ok (.goto (-13), 3) := by decide +kernel
theorem dX4_digest_121 : decode cX4_digest 121 = .ok (.aload_n 0, 1) := by decide +kernel
theorem dX4_digest_122 : decode cX4_digest 122 = .ok (.aload_n 0, 1) := by decide +kernel
theorem dX4_digest_123 : decode cX4_digest 123 = .ok (.invokevirtual 119, 3) := by decide +kernel
theorem dX4_digest_126 : decode cX4_digest 126 = .ok (.i2l, 1) := by decide +kernel
theorem dX4_digest_127 : decode cX4_digest 127 = .ok (.invokevirtual 261, 3) := by decide +kernel
theorem dX4_digest_130 : decode cX4_digest 130 = .ok (.aload_n 0, 1) := by decide +kernel
theorem dX4_digest_131 : decode cX4_digest 131 = .ok (.aload_n 0, 1) := by decide +kernel
theorem dX4_digest_132 : decode cX4_digest 132 = .ok (.invokevirtual 252, 3) := by decide +kernel
theorem dX4_digest_135 : decode cX4_digest 135 = .ok (.invokestatic 273, 3) := by decide +kernel
theorem dX4_digest_138 : decode cX4_digest 138 = .ok (.invokevirtual 261, 3) := by decide +kernel
theorem dX4_digest_141 : decode cX4_digest 141 = .ok (.iconst 0, 1) := by decide +kernel
theorem dX4_digest_142 : decode cX4_digest 142 = .ok (.istore_n 1, 1) := by decide +kernel
theorem dX4_digest_143 : decode cX4_digest 143 = .ok (.iload_n 1, 1) := by decide +kernel
theorem dX4_digest_144 : decode cX4_digest 144 = .ok (.iconst 2, 1) := by decide +kernel
theorem dX4_digest_145 : decode cX4_digest 145 = .ok (.if_icmp .ge 27, 3) := by decide +kernel
theorem dX4_digest_148 : decode cX4_digest 148 = .ok (.aload_n 0, 1) := by decide +kernel
theorem dX4_digest_149 : decode cX4_digest 149 = .ok (.aload_n 0, 1) := by decide +kernel
theorem dX4_digest_150 : decode cX4_digest 150 = .ok (.getfield 19, 3) := by decide +kernel
theorem dX4_digest_153 : decode cX4_digest 153 = .ok (.iload_n 1, 1) := by decide +kernel
theorem dX4_digest_154 : decode cX4_digest 154 = .ok (.baload, 1) := by decide +kernel
theorem dX4_digest_155 : decode cX4_digest 155 = .ok (.ifCond .eq 7, 3) := by decide +kernel
theorem dX4_digest_158 : decode cX4_digest 158 = .ok (.lconst 1, 1) := by decide +kernel
theorem dX4_digest_159 : decode cX4_digest 159 = .ok (.goto 4, 3) := by decide +kernel
theorem dX4_digest_162 : decode cX4_digest 162 = .ok (.lconst 0, 1) := by decide +kernel
theorem dX4_digest_163 : decode cX4_digest 163 = .ok (.invokevirtual 261, 3) := by decide +kernel
theorem dX4_digest_166 : decode cX4_digest 166 = .ok (.iinc 1 1, 3) := by decide +kernel
theorem dX4_digest_169 : decode cX4_digest 169 = .ok (.goto (-26), 3) := by decide +kernel
theorem dX4_digest_172 : decode cX4_digest 172 = .ok (.aload_n 0, 1) := by decide +kernel
theorem dX4_digest_173 : decode cX4_digest 173 = .ok (.aload_n 0, 1) := by decide +kernel
theorem dX4_digest_174 : decode cX4_digest 174 = .ok (.getfield 163, 3) := by decide +kernel
theorem dX4_digest_177 : decode cX4_digest 177 = .ok (.i2l, 1) := by decide +kernel
theorem dX4_digest_178 : decode cX4_digest 178 = .ok (.invokevirtual 261, 3) := by decide +kernel
theorem dX4_digest_181 : decode cX4_digest 181 = .ok (.iconst 0, 1) := by decide +kernel
theorem dX4_digest_182 : decode cX4_digest 182 = .ok (.istore_n 1, 1) := by decide +kernel
theorem dX4_digest_183 : decode cX4_digest 183 = .ok (.iload_n 1, 1) := by decide +kernel
theorem dX4_digest_184 : decode cX4_digest 184 = .ok (.aload_n 0, 1) := by decide +kernel
theorem dX4_digest_185 : decode cX4_digest 185 = .ok (.getfield 163, 3) := by decide +kernel
theorem dX4_digest_188 : decode cX4_digest 188 = .ok (.if_icmp .ge 20, 3) := by decide +kernel
theorem dX4_digest_191 : decode cX4_digest 191 = .ok (.aload_n 0, 1) := by decide +kernel
theorem dX4_digest_192 : decode cX4_digest 192 = .ok (.aload_n 0, 1) := by decide +kernel
theorem dX4_digest_193 : decode cX4_digest 193 = .ok (.getfield 26, 3) := by decide +kernel
theorem dX4_digest_196 : decode cX4_digest 196 = .ok (.iload_n 1, 1) := by decide +kernel
theorem dX4_digest_197 : decode cX4_digest 197 = .ok (.iaload, 1) := by decide +kernel
theorem dX4_digest_198 : decode cX4_digest 198 = .ok (.i2l, 1) := by decide +kernel
theorem dX4_digest_199 : decode cX4_digest 199 = .ok (.invokevirtual 261, 3) := by decide +kernel
theorem dX4_digest_202 : decode cX4_digest 202 = .ok (.iinc 1 1, 3) := by decide +kernel
theorem dX4_digest_205 : decode cX4_digest 205 = .ok (.goto (-22), 3) := by decide +kernel
theorem dX4_digest_208 : decode cX4_digest 208 = .ok (.aload_n 0, 1) := by decide +kernel
theorem dX4_digest_209 : decode cX4_digest 209 = .ok (.getfield 258, 3) := by decide +kernel
theorem dX4_digest_212 : decode cX4_digest 212 = .ok (.lreturn, 1) := by decide +kernel
theorem dJxe99ae_isNaN_b9ae7_0 : decode cJxe99ae_isNaN_b9ae7 0 = .ok (.dload_n 0, 1) := by decide +kernel
theorem dJxe99ae_isNaN_b9ae7_1 : decode cJxe99ae_isNaN_b9ae7 1 = .ok (.dload_n 0, 1) := by decide +kernel
theorem dJxe99ae_isNaN_b9ae7_2 : decode cJxe99ae_isNaN_b9ae7 2 = .ok (.dcmp .l, 1) := by decide +kernel
theorem dJxe99ae_isNaN_b9ae7_3 : decode cJxe99ae_isNaN_b9ae7 3 = .ok (.ifCond .eq 7, 3) := by decide +kernel
theorem dJxe99ae_isNaN_b9ae7_6 : decode cJxe99ae_isNaN_b9ae7 6 = .ok (.iconst 1, 1) := by decide +kernel
theorem dJxe99ae_isNaN_b9ae7_7 : decode cJxe99ae_isNaN_b9ae7 7 = .ok (.goto 4, 3) := by decide +kernel
theorem dJxe99ae_isNaN_b9ae7_10 : decode cJxe99ae_isNaN_b9ae7 10 = .ok (.iconst 0, 1) := by decide +kernel
theorem dJxe99ae_isNaN_b9ae7_11 : decode cJxe99ae_isNaN_b9ae7 11 = .ok (.ireturn, 1) := by decide +kernel
theorem dJxe99ae_doubleToLongBits_ccdee_0 : decode cJxe99ae_doubleToLongBits_ccdee 0 = .ok (.dload_n 0, 1) := by decide +kernel
theorem dJxe99ae_doubleToLongBits_ccdee_1 : decode cJxe99ae_doubleToLongBits_ccdee 1 = .ok (.invokestatic 122, 3) := by decide +kernel
theorem dJxe99ae_doubleToLongBits_ccdee_4 : decode cJxe99ae_doubleToLongBits_ccdee 4 = .ok (.ifCond .ne 8, 3) := by decide +kernel
theorem dJxe99ae_doubleToLongBits_ccdee_7 : decode cJxe99ae_doubleToLongBits_ccdee 7 = .ok (.dload_n 0, 1) := by decide +kernel
theorem dJxe99ae_doubleToLongBits_ccdee_8 : decode cJxe99ae_doubleToLongBits_ccdee 8 = .ok (.invokestatic 134, 3) := by decide +kernel
theorem dJxe99ae_doubleToLongBits_ccdee_11 : decode cJxe99ae_doubleToLongBits_ccdee 11 = .ok (.lreturn, 1) := by decide +kernel
theorem dJxe99ae_doubleToLongBits_ccdee_12 : decode cJxe99ae_doubleToLongBits_ccdee 12 = .ok (.ldc2_w 137, 3) := by decide +kernel
theorem dJxe99ae_doubleToLongBits_ccdee_15 : decode cJxe99ae_doubleToLongBits_ccdee 15 = .ok (.lreturn, 1) := by decide +kernel
theorem dL_put_0 : decode cL_put 0 = .ok (.aload 5, 2) := by decide +kernel
theorem dL_put_2 : decode cL_put 2 = .ok (.iconst 0, 1) := by decide +kernel
theorem dL_put_3 : decode cL_put 3 = .ok (.aload_n 0, 1) := by decide +kernel
theorem dL_put_4 : decode cL_put 4 = .ok (.iload_n 1, 1) := by decide +kernel
theorem dL_put_5 : decode cL_put 5 = .ok (.iload_n 2, 1) := by decide +kernel
theorem dL_put_6 : decode cL_put 6 = .ok (.iload_n 3, 1) := by decide +kernel
theorem dL_put_7 : decode cL_put 7 = .ok (.iload 4, 2) := by decide +kernel
theorem dL_put_9 : decode cL_put 9 = .ok (.invokevirtual 7, 3) := by decide +kernel
theorem dL_put_12 : decode cL_put 12 = .ok (.i2l, 1) := by decide +kernel
theorem dL_put_13 : decode cL_put 13 = .ok (.lastore, 1) := by decide +kernel
theorem dL_put_14 : decode cL_put 14 = .ok (.goto 11, 3) := by decide +kernel
theorem dL_put_17 : decode cL_put 17 = .ok (.astore 6, 2) := by decide +kernel
theorem dL_put_19 : decode cL_put 19 = .ok (.iconst 1, 1) := by decide +kernel
theorem dL_put_20 : decode cL_put 20 = .ok (.ireturn, 1) := by decide +kernel
theorem dL_put_21 : decode cL_put 21 = .ok (.astore 6, 2) := by decide +kernel
theorem dL_put_23 : decode cL_put 23 = .ok (.iconst 2, 1) := by decide +kernel
theorem dL_put_24 : decode cL_put 24 = .ok (.ireturn, 1) := by decide +kernel
theorem dL_put_25 : decode cL_put 25 = .ok (.iconst 0, 1) := by decide +kernel
theorem dL_put_26 : decode cL_put 26 = .ok (.ireturn, 1) := by decide +kernel
theorem dL_takeOff_0 : decode cL_takeOff 0 = .ok (.aload_n 2, 1) := by decide +kernel
theorem dL_takeOff_1 : decode cL_takeOff 1 = .ok (.iconst 0, 1) := by decide +kernel
theorem dL_takeOff_2 : decode cL_takeOff 2 = .ok (.aload_n 0, 1) := by decide +kernel
theorem dL_takeOff_3 : decode cL_takeOff 3 = .ok (.iload_n 1, 1) := by decide +kernel
theorem dL_takeOff_4 : decode cL_takeOff 4 = .ok (.invokevirtual 17, 3) := by decide +kernel
theorem dL_takeOff_7 : decode cL_takeOff 7 = .ok (.i2l, 1) := by decide +kernel
theorem dL_takeOff_8 : decode cL_takeOff 8 = .ok (.lastore, 1) := by decide +kernel
theorem dL_takeOff_9 : decode cL_takeOff 9 = .ok (.goto 9, 3) := by decide +kernel
theorem dL_takeOff_12 : decode cL_takeOff 12 = .ok (.astore_n 3, 1) := by decide +kernel
theorem dL_takeOff_13 : decode cL_takeOff 13 = .ok (.iconst 1, 1) := by decide +kernel
theorem dL_takeOff_14 : decode cL_takeOff 14 = .ok (.ireturn, 1) := by decide +kernel
theorem dL_takeOff_15 : decode cL_takeOff 15 = .ok (.astore_n 3, 1) := by decide +kernel
theorem dL_takeOff_16 : decode cL_takeOff 16 = .ok (.iconst 2, 1) := by decide +kernel
theorem dL_takeOff_17 : decode cL_takeOff 17 = .ok (.ireturn, 1) := by decide +kernel
theorem dL_takeOff_18 : decode cL_takeOff 18 = .ok (.iconst 0, 1) := by decide +kernel
theorem dL_takeOff_19 : decode cL_takeOff 19 = .ok (.ireturn, 1) := by decide +kernel
theorem dL_move_0 : decode cL_move 0 = .ok (.aload 4, 2) := by decide +kernel
theorem dL_move_2 : decode cL_move 2 = .ok (.iconst 0, 1) := by decide +kernel
theorem dL_move_3 : decode cL_move 3 = .ok (.aload_n 0, 1) := by decide +kernel
theorem dL_move_4 : decode cL_move 4 = .ok (.iload_n 1, 1) := by decide +kernel
theorem dL_move_5 : decode cL_move 5 = .ok (.iload_n 2, 1) := by decide +kernel
theorem dL_move_6 : decode cL_move 6 = .ok (.iload_n 3, 1) := by decide +kernel
theorem dL_move_7 : decode cL_move 7 = .ok (.invokevirtual 21, 3) := by decide +kernel
theorem dL_move_10 : decode cL_move 10 = .ok (.i2l, 1) := by decide +kernel
theorem dL_move_11 : decode cL_move 11 = .ok (.lastore, 1) := by decide +kernel
theorem dL_move_12 : decode cL_move 12 = .ok (.goto 11, 3) := by decide +kernel
theorem dL_move_15 : decode cL_move 15 = .ok (.astore 5, 2) := by decide +kernel
theorem dL_move_17 : decode cL_move 17 = .ok (.iconst 1, 1) := by decide +kernel
theorem dL_move_18 : decode cL_move 18 = .ok (.ireturn, 1) := by decide +kernel
theorem dL_move_19 : decode cL_move 19 = .ok (.astore 5, 2) := by decide +kernel
theorem dL_move_21 : decode cL_move 21 = .ok (.iconst 2, 1) := by decide +kernel
theorem dL_move_22 : decode cL_move 22 = .ok (.ireturn, 1) := by decide +kernel
theorem dL_move_23 : decode cL_move 23 = .ok (.iconst 0, 1) := by decide +kernel
theorem dL_move_24 : decode cL_move 24 = .ok (.ireturn, 1) := by decide +kernel
theorem dL_clearDoor_0 : decode cL_clearDoor 0 = .ok (.aload_n 2, 1) := by decide +kernel
theorem dL_clearDoor_1 : decode cL_clearDoor 1 = .ok (.iconst 0, 1) := by decide +kernel
theorem dL_clearDoor_2 : decode cL_clearDoor 2 = .ok (.aload_n 0, 1) := by decide +kernel
theorem dL_clearDoor_3 : decode cL_clearDoor 3 = .ok (.iload_n 1, 1) := by decide +kernel
theorem dL_clearDoor_4 : decode cL_clearDoor 4 = .ok (.invokevirtual 25, 3) := by decide +kernel
theorem dL_clearDoor_7 : decode cL_clearDoor 7 = .ok (.i2l, 1) := by decide +kernel
theorem dL_clearDoor_8 : decode cL_clearDoor 8 = .ok (.lastore, 1) := by decide +kernel
theorem dL_clearDoor_9 : decode cL_clearDoor 9 = .ok (.goto 6, 3) := by decide +kernel
theorem dL_clearDoor_12 : decode cL_clearDoor 12 = .ok (.astore_n 3, 1) := by decide +kernel
theorem dL_clearDoor_13 : decode cL_clearDoor 13 = .ok (.iconst 1, 1) := by decide +kernel
theorem dL_clearDoor_14 : decode cL_clearDoor 14 = .ok (.ireturn, 1) := by decide +kernel
theorem dL_clearDoor_15 : decode cL_clearDoor 15 = .ok (.iconst 0, 1) := by decide +kernel
theorem dL_clearDoor_16 : decode cL_clearDoor 16 = .ok (.ireturn, 1) := by decide +kernel
theorem dL_borrow_0 : decode cL_borrow 0 = .ok (.aload 5, 2) := by decide +kernel
theorem dL_borrow_2 : decode cL_borrow 2 = .ok (.iconst 0, 1) := by decide +kernel
theorem dL_borrow_3 : decode cL_borrow 3 = .ok (.aload_n 0, 1) := by decide +kernel
theorem dL_borrow_4 : decode cL_borrow 4 = .ok (.iload_n 1, 1) := by decide +kernel
theorem dL_borrow_5 : decode cL_borrow 5 = .ok (.iload_n 2, 1) := by decide +kernel
theorem dL_borrow_6 : decode cL_borrow 6 = .ok (.iload_n 3, 1) := by decide +kernel
theorem dL_borrow_7 : decode cL_borrow 7 = .ok (.iload 4, 2) := by decide +kernel
theorem dL_borrow_9 : decode cL_borrow 9 = .ok (.invokevirtual 28, 3) := by decide +kernel
theorem dL_borrow_12 : decode cL_borrow 12 = .ok (.i2l, 1) := by decide +kernel
theorem dL_borrow_13 : decode cL_borrow 13 = .ok (.lastore, 1) := by decide +kernel
theorem dL_borrow_14 : decode cL_borrow 14 = .ok (.goto 15, 3) := by decide +kernel
theorem dL_borrow_17 : decode cL_borrow 17 = .ok (.astore 6, 2) := by decide +kernel
theorem dL_borrow_19 : decode cL_borrow 19 = .ok (.iconst 1, 1) := by decide +kernel
theorem dL_borrow_20 : decode cL_borrow 20 = .ok (.ireturn, 1) := by decide +kernel
theorem dL_borrow_21 : decode cL_borrow 21 = .ok (.astore 6, 2) := by decide +kernel
theorem dL_borrow_23 : decode cL_borrow 23 = .ok (.iconst 2, 1) := by decide +kernel
theorem dL_borrow_24 : decode cL_borrow 24 = .ok (.ireturn, 1) := by decide +kernel
theorem dL_borrow_25 : decode cL_borrow 25 = .ok (.astore 6, 2) := by decide +kernel
theorem dL_borrow_27 : decode cL_borrow 27 = .ok (.iconst 3, 1) := by decide +kernel
theorem dL_borrow_28 : decode cL_borrow 28 = .ok (.ireturn, 1) := by decide +kernel
theorem dL_borrow_29 : decode cL_borrow 29 = .ok (.iconst 0, 1) := by decide +kernel
theorem dL_borrow_30 : decode cL_borrow 30 = .ok (.ireturn, 1) := by decide +kernel
theorem dL_bringBack_0 : decode cL_bringBack 0 = .ok (.aload_n 3, 1) := by decide +kernel
theorem dL_bringBack_1 : decode cL_bringBack 1 = .ok (.iconst 0, 1) := by decide +kernel
theorem dL_bringBack_2 : decode cL_bringBack 2 = .ok (.aload_n 0, 1) := by decide +kernel
theorem dL_bringBack_3 : decode cL_bringBack 3 = .ok (.iload_n 1, 1) := by decide +kernel
theorem dL_bringBack_4 : decode cL_bringBack 4 = .ok (.iload_n 2, 1) := by decide +kernel
theorem dL_bringBack_5 : decode cL_bringBack 5 = .ok (.invokevirtual 33, 3) := by decide +kernel
theorem dL_bringBack_8 : decode cL_bringBack 8 = .ok (.i2l, 1) := by decide +kernel
theorem dL_bringBack_9 : decode cL_bringBack 9 = .ok (.lastore, 1) := by decide +kernel
theorem dL_bringBack_10 : decode cL_bringBack 10 = .ok (.goto 11, 3) := by decide +kernel
theorem dL_bringBack_13 : decode cL_bringBack 13 = .ok (.astore 4, 2) := by decide +kernel
theorem dL_bringBack_15 : decode cL_bringBack 15 = .ok (.iconst 1, 1) := by decide +kernel
theorem dL_bringBack_16 : decode cL_bringBack 16 = .ok (.ireturn, 1) := by decide +kernel
theorem dL_bringBack_17 : decode cL_bringBack 17 = .ok (.astore 4, 2) := by decide +kernel
theorem dL_bringBack_19 : decode cL_bringBack 19 = .ok (.iconst 2, 1) := by decide +kernel
theorem dL_bringBack_20 : decode cL_bringBack 20 = .ok (.ireturn, 1) := by decide +kernel
theorem dL_bringBack_21 : decode cL_bringBack 21 = .ok (.iconst 0, 1) := by decide +kernel
theorem dL_bringBack_22 : decode cL_bringBack 22 = .ok (.ireturn, 1) := by decide +kernel
theorem dL_sleep_0 : decode cL_sleep 0 = .ok (.aload_n 2, 1) := by decide +kernel
theorem dL_sleep_1 : decode cL_sleep 1 = .ok (.iconst 0, 1) := by decide +kernel
theorem dL_sleep_2 : decode cL_sleep 2 = .ok (.aload_n 0, 1) := by decide +kernel
theorem dL_sleep_3 : decode cL_sleep 3 = .ok (.iload_n 1, 1) := by decide +kernel
theorem dL_sleep_4 : decode cL_sleep 4 = .ok (.invokevirtual 37, 3) := by decide +kernel
theorem dL_sleep_7 : decode cL_sleep 7 = .ok (.i2l, 1) := by decide +kernel
theorem dL_sleep_8 : decode cL_sleep 8 = .ok (.lastore, 1) := by decide +kernel
theorem dL_sleep_9 : decode cL_sleep 9 = .ok (.goto 9, 3) := by decide +kernel
theorem dL_sleep_12 : decode cL_sleep 12 = .ok (.astore_n 3, 1) := by decide +kernel
theorem dL_sleep_13 : decode cL_sleep 13 = .ok (.iconst 1, 1) := by decide +kernel
theorem dL_sleep_14 : decode cL_sleep 14 = .ok (.ireturn, 1) := by decide +kernel
theorem dL_sleep_15 : decode cL_sleep 15 = .ok (.astore_n 3, 1) := by decide +kernel
theorem dL_sleep_16 : decode cL_sleep 16 = .ok (.iconst 2, 1) := by decide +kernel
theorem dL_sleep_17 : decode cL_sleep 17 = .ok (.ireturn, 1) := by decide +kernel
theorem dL_sleep_18 : decode cL_sleep 18 = .ok (.iconst 0, 1) := by decide +kernel
theorem dL_sleep_19 : decode cL_sleep 19 = .ok (.ireturn, 1) := by decide +kernel
theorem dL_set_0 : decode cL_set 0 = .ok (.aload_n 3, 1) := by decide +kernel
theorem dL_set_1 : decode cL_set 1 = .ok (.iconst 0, 1) := by decide +kernel
theorem dL_set_2 : decode cL_set 2 = .ok (.aload_n 0, 1) := by decide +kernel
theorem dL_set_3 : decode cL_set 3 = .ok (.iload_n 1, 1) := by decide +kernel
theorem dL_set_4 : decode cL_set 4 = .ok (.iload_n 2, 1) := by decide +kernel
theorem dL_set_5 : decode cL_set 5 = .ok (.invokevirtual 40, 3) := by decide +kernel
theorem dL_set_8 : decode cL_set 8 = .ok (.i2l, 1) := by decide +kernel
theorem dL_set_9 : decode cL_set 9 = .ok (.lastore, 1) := by decide +kernel
theorem dL_set_10 : decode cL_set 10 = .ok (.goto 11, 3) := by decide +kernel
theorem dL_set_13 : decode cL_set 13 = .ok (.astore 4, 2) := by decide +kernel
theorem dL_set_15 : decode cL_set 15 = .ok (.iconst 1, 1) := by decide +kernel
theorem dL_set_16 : decode cL_set 16 = .ok (.ireturn, 1) := by decide +kernel
theorem dL_set_17 : decode cL_set 17 = .ok (.astore 4, 2) := by decide +kernel
theorem dL_set_19 : decode cL_set 19 = .ok (.iconst 2, 1) := by decide +kernel
theorem dL_set_20 : decode cL_set 20 = .ok (.ireturn, 1) := by decide +kernel
theorem dL_set_21 : decode cL_set 21 = .ok (.iconst 0, 1) := by decide +kernel
theorem dL_set_22 : decode cL_set 22 = .ok (.ireturn, 1) := by decide +kernel
theorem dL_append_0 : decode cL_append 0 = .ok (.aload_n 2, 1) := by decide +kernel
theorem dL_append_1 : decode cL_append 1 = .ok (.iconst 0, 1) := by decide +kernel
theorem dL_append_2 : decode cL_append 2 = .ok (.aload_n 0, 1) := by decide +kernel
theorem dL_append_3 : decode cL_append 3 = .ok (.iload_n 1, 1) := by decide +kernel
theorem dL_append_4 : decode cL_append 4 = .ok (.invokevirtual 43, 3) := by decide +kernel
theorem dL_append_7 : decode cL_append 7 = .ok (.i2l, 1) := by decide +kernel
theorem dL_append_8 : decode cL_append 8 = .ok (.lastore, 1) := by decide +kernel
theorem dL_append_9 : decode cL_append 9 = .ok (.goto 9, 3) := by decide +kernel
theorem dL_append_12 : decode cL_append 12 = .ok (.astore_n 3, 1) := by decide +kernel
theorem dL_append_13 : decode cL_append 13 = .ok (.iconst 1, 1) := by decide +kernel
theorem dL_append_14 : decode cL_append 14 = .ok (.ireturn, 1) := by decide +kernel
theorem dL_append_15 : decode cL_append 15 = .ok (.astore_n 3, 1) := by decide +kernel
theorem dL_append_16 : decode cL_append 16 = .ok (.iconst 2, 1) := by decide +kernel
theorem dL_append_17 : decode cL_append 17 = .ok (.ireturn, 1) := by decide +kernel
theorem dL_append_18 : decode cL_append 18 = .ok (.iconst 0, 1) := by decide +kernel
theorem dL_append_19 : decode cL_append 19 = .ok (.ireturn, 1) := by decide +kernel
theorem dL_load_0 : decode cL_load 0 = .ok (.aload_n 2, 1) := by decide +kernel
theorem dL_load_1 : decode cL_load 1 = .ok (.iconst 0, 1) := by decide +kernel
theorem dL_load_2 : decode cL_load 2 = .ok (.aload_n 0, 1) := by decide +kernel
theorem dL_load_3 : decode cL_load 3 = .ok (.iload_n 1, 1) := by decide +kernel
theorem dL_load_4 : decode cL_load 4 = .ok (.invokevirtual 46, 3) := by decide +kernel
theorem dL_load_7 : decode cL_load 7 = .ok (.i2l, 1) := by decide +kernel
theorem dL_load_8 : decode cL_load 8 = .ok (.lastore, 1) := by decide +kernel
theorem dL_load_9 : decode cL_load 9 = .ok (.goto 9, 3) := by decide +kernel
theorem dL_load_12 : decode cL_load 12 = .ok (.astore_n 3, 1) := by decide +kernel
theorem dL_load_13 : decode cL_load 13 = .ok (.iconst 1, 1) := by decide +kernel
theorem dL_load_14 : decode cL_load 14 = .ok (.ireturn, 1) := by decide +kernel
theorem dL_load_15 : decode cL_load 15 = .ok (.astore_n 3, 1) := by decide +kernel
theorem dL_load_16 : decode cL_load 16 = .ok (.iconst 2, 1) := by decide +kernel
theorem dL_load_17 : decode cL_load 17 = .ok (.ireturn, 1) := by decide +kernel
theorem dL_load_18 : decode cL_load 18 = .ok (.iconst 0, 1) := by decide +kernel
theorem dL_load_19 : decode cL_load 19 = .ok (.ireturn, 1) := by decide +kernel
theorem dL_write_0 : decode cL_write 0 = .ok (.aload_n 2, 1) := by decide +kernel
theorem dL_write_1 : decode cL_write 1 = .ok (.iconst 0, 1) := by decide +kernel
theorem dL_write_2 : decode cL_write 2 = .ok (.aload_n 0, 1) := by decide +kernel
theorem dL_write_3 : decode cL_write 3 = .ok (.iload_n 1, 1) := by decide +kernel
theorem dL_write_4 : decode cL_write 4 = .ok (.invokevirtual 49, 3) := by decide +kernel
theorem dL_write_7 : decode cL_write 7 = .ok (.i2l, 1) := by decide +kernel
theorem dL_write_8 : decode cL_write 8 = .ok (.lastore, 1) := by decide +kernel
theorem dL_write_9 : decode cL_write 9 = .ok (.goto 6, 3) := by decide +kernel
theorem dL_write_12 : decode cL_write 12 = .ok (.astore_n 3, 1) := by decide +kernel
theorem dL_write_13 : decode cL_write 13 = .ok (.iconst 1, 1) := by decide +kernel
theorem dL_write_14 : decode cL_write 14 = .ok (.ireturn, 1) := by decide +kernel
theorem dL_write_15 : decode cL_write 15 = .ok (.iconst 0, 1) := by decide +kernel
theorem dL_write_16 : decode cL_write 16 = .ok (.ireturn, 1) := by decide +kernel
theorem dL_keep_0 : decode cL_keep 0 = .ok (.aload_n 2, 1) := by decide +kernel
theorem dL_keep_1 : decode cL_keep 1 = .ok (.iconst 0, 1) := by decide +kernel
theorem dL_keep_2 : decode cL_keep 2 = .ok (.aload_n 0, 1) := by decide +kernel
theorem dL_keep_3 : decode cL_keep 3 = .ok (.iload_n 1, 1) := by decide +kernel
theorem dL_keep_4 : decode cL_keep 4 = .ok (.invokevirtual 52, 3) := by decide +kernel
theorem dL_keep_7 : decode cL_keep 7 = .ok (.i2l, 1) := by decide +kernel
theorem dL_keep_8 : decode cL_keep 8 = .ok (.lastore, 1) := by decide +kernel
theorem dL_keep_9 : decode cL_keep 9 = .ok (.goto 6, 3) := by decide +kernel
theorem dL_keep_12 : decode cL_keep 12 = .ok (.astore_n 3, 1) := by decide +kernel
theorem dL_keep_13 : decode cL_keep 13 = .ok (.iconst 1, 1) := by decide +kernel
theorem dL_keep_14 : decode cL_keep 14 = .ok (.ireturn, 1) := by decide +kernel
theorem dL_keep_15 : decode cL_keep 15 = .ok (.iconst 0, 1) := by decide +kernel
theorem dL_keep_16 : decode cL_keep 16 = .ok (.ireturn, 1) := by decide +kernel
theorem dL_goBack_0 : decode cL_goBack 0 = .ok (.aload_n 2, 1) := by decide +kernel
theorem dL_goBack_1 : decode cL_goBack 1 = .ok (.iconst 0, 1) := by decide +kernel
theorem dL_goBack_2 : decode cL_goBack 2 = .ok (.aload_n 0, 1) := by decide +kernel
theorem dL_goBack_3 : decode cL_goBack 3 = .ok (.iload_n 1, 1) := by decide +kernel
theorem dL_goBack_4 : decode cL_goBack 4 = .ok (.invokevirtual 55, 3) := by decide +kernel
theorem dL_goBack_7 : decode cL_goBack 7 = .ok (.i2l, 1) := by decide +kernel
theorem dL_goBack_8 : decode cL_goBack 8 = .ok (.lastore, 1) := by decide +kernel
theorem dL_goBack_9 : decode cL_goBack 9 = .ok (.goto 9, 3) := by decide +kernel
theorem dL_goBack_12 : decode cL_goBack 12 = .ok (.astore_n 3, 1) := by decide +kernel
theorem dL_goBack_13 : decode cL_goBack 13 = .ok (.iconst 1, 1) := by decide +kernel
theorem dL_goBack_14 : decode cL_goBack 14 = .ok (.ireturn, 1) := by decide +kernel
theorem dL_goBack_15 : decode cL_goBack 15 = .ok (.astore_n 3, 1) := by decide +kernel
theorem dL_goBack_16 : decode cL_goBack 16 = .ok (.iconst 2, 1) := by decide +kernel
theorem dL_goBack_17 : decode cL_goBack 17 = .ok (.ireturn, 1) := by decide +kernel
theorem dL_goBack_18 : decode cL_goBack 18 = .ok (.iconst 0, 1) := by decide +kernel
theorem dL_goBack_19 : decode cL_goBack 19 = .ok (.ireturn, 1) := by decide +kernel
theorem dL_undo_0 : decode cL_undo 0 = .ok (.aload_n 1, 1) := by decide +kernel
theorem dL_undo_1 : decode cL_undo 1 = .ok (.iconst 0, 1) := by decide +kernel
theorem dL_undo_2 : decode cL_undo 2 = .ok (.aload_n 0, 1) := by decide +kernel
theorem dL_undo_3 : decode cL_undo 3 = .ok (.invokevirtual 58, 3) := by decide +kernel
theorem dL_undo_6 : decode cL_undo 6 = .ok (.i2l, 1) := by decide +kernel
theorem dL_undo_7 : decode cL_undo 7 = .ok (.lastore, 1) := by decide +kernel
theorem dL_undo_8 : decode cL_undo 8 = .ok (.goto 6, 3) := by decide +kernel
theorem dL_undo_11 : decode cL_undo 11 = .ok (.astore_n 2, 1) := by decide +kernel
theorem dL_undo_12 : decode cL_undo 12 = .ok (.iconst 1, 1) := by decide +kernel
theorem dL_undo_13 : decode cL_undo 13 = .ok (.ireturn, 1) := by decide +kernel
theorem dL_undo_14 : decode cL_undo 14 = .ok (.iconst 0, 1) := by decide +kernel
theorem dL_undo_15 : decode cL_undo 15 = .ok (.ireturn, 1) := by decide +kernel
theorem dL_wordOf_0 : decode cL_wordOf 0 = .ok (.aload_n 3, 1) := by decide +kernel
theorem dL_wordOf_1 : decode cL_wordOf 1 = .ok (.iconst 0, 1) := by decide +kernel
theorem dL_wordOf_2 : decode cL_wordOf 2 = .ok (.aload_n 0, 1) := by decide +kernel
theorem dL_wordOf_3 : decode cL_wordOf 3 = .ok (.iload_n 1, 1) := by decide +kernel
theorem dL_wordOf_4 : decode cL_wordOf 4 = .ok (.iload_n 2, 1) := by decide +kernel
theorem dL_wordOf_5 : decode cL_wordOf 5 = .ok (.invokevirtual 62, 3) := by decide +kernel
theorem dL_wordOf_8 : decode cL_wordOf 8 = .ok (.i2l, 1) := by decide +kernel
theorem dL_wordOf_9 : decode cL_wordOf 9 = .ok (.lastore, 1) := by decide +kernel
theorem dL_wordOf_10 : decode cL_wordOf 10 = .ok (.goto 11, 3) := by decide +kernel
theorem dL_wordOf_13 : decode cL_wordOf 13 = .ok (.astore 4, 2) := by decide +kernel
theorem dL_wordOf_15 : decode cL_wordOf 15 = .ok (.iconst 1, 1) := by decide +kernel
theorem dL_wordOf_16 : decode cL_wordOf 16 = .ok (.ireturn, 1) := by decide +kernel
theorem dL_wordOf_17 : decode cL_wordOf 17 = .ok (.astore 4, 2) := by decide +kernel
theorem dL_wordOf_19 : decode cL_wordOf 19 = .ok (.iconst 2, 1) := by decide +kernel
theorem dL_wordOf_20 : decode cL_wordOf 20 = .ok (.ireturn, 1) := by decide +kernel
theorem dL_wordOf_21 : decode cL_wordOf 21 = .ok (.iconst 0, 1) := by decide +kernel
theorem dL_wordOf_22 : decode cL_wordOf 22 = .ok (.ireturn, 1) := by decide +kernel
theorem dL_at_0 : decode cL_at 0 = .ok (.aload 4, 2) := by decide +kernel
theorem dL_at_2 : decode cL_at 2 = .ok (.iconst 0, 1) := by decide +kernel
theorem dL_at_3 : decode cL_at 3 = .ok (.aload_n 0, 1) := by decide +kernel
theorem dL_at_4 : decode cL_at 4 = .ok (.iload_n 1, 1) := by decide +kernel
theorem dL_at_5 : decode cL_at 5 = .ok (.iload_n 2, 1) := by decide +kernel
theorem dL_at_6 : decode cL_at 6 = .ok (.iload_n 3, 1) := by decide +kernel
theorem dL_at_7 : decode cL_at 7 = .ok (.invokevirtual 65, 3) := by decide +kernel
theorem dL_at_10 : decode cL_at 10 = .ok (.i2l, 1) := by decide +kernel
theorem dL_at_11 : decode cL_at 11 = .ok (.lastore, 1) := by decide +kernel
theorem dL_at_12 : decode cL_at 12 = .ok (.goto 7, 3) := by decide +kernel
theorem dL_at_15 : decode cL_at 15 = .ok (.astore 5, 2) := by decide +kernel
theorem dL_at_17 : decode cL_at 17 = .ok (.iconst 1, 1) := by decide +kernel
theorem dL_at_18 : decode cL_at 18 = .ok (.ireturn, 1) := by decide +kernel
theorem dL_at_19 : decode cL_at 19 = .ok (.iconst 0, 1) := by decide +kernel
theorem dL_at_20 : decode cL_at 20 = .ok (.ireturn, 1) := by decide +kernel
theorem dL_lineOf_0 : decode cL_lineOf 0 = .ok (.aload 4, 2) := by decide +kernel
theorem dL_lineOf_2 : decode cL_lineOf 2 = .ok (.iconst 0, 1) := by decide +kernel
theorem dL_lineOf_3 : decode cL_lineOf 3 = .ok (.aload_n 0, 1) := by decide +kernel
theorem dL_lineOf_4 : decode cL_lineOf 4 = .ok (.iload_n 1, 1) := by decide +kernel
theorem dL_lineOf_5 : decode cL_lineOf 5 = .ok (.iload_n 2, 1) := by decide +kernel
theorem dL_lineOf_6 : decode cL_lineOf 6 = .ok (.iload_n 3, 1) := by decide +kernel
theorem dL_lineOf_7 : decode cL_lineOf 7 = .ok (.invokevirtual 68, 3) := by decide +kernel
theorem dL_lineOf_10 : decode cL_lineOf 10 = .ok (.i2l, 1) := by decide +kernel
theorem dL_lineOf_11 : decode cL_lineOf 11 = .ok (.lastore, 1) := by decide +kernel
theorem dL_lineOf_12 : decode cL_lineOf 12 = .ok (.goto 11, 3) := by decide +kernel
theorem dL_lineOf_15 : decode cL_lineOf 15 = .ok (.astore 5, 2) := by decide +kernel
theorem dL_lineOf_17 : decode cL_lineOf 17 = .ok (.iconst 1, 1) := by decide +kernel
theorem dL_lineOf_18 : decode cL_lineOf 18 = .ok (.ireturn, 1) := by decide +kernel
theorem dL_lineOf_19 : decode cL_lineOf 19 = .ok (.astore 5, 2) := by decide +kernel
theorem dL_lineOf_21 : decode cL_lineOf 21 = .ok (.iconst 2, 1) := by decide +kernel
theorem dL_lineOf_22 : decode cL_lineOf 22 = .ok (.ireturn, 1) := by decide +kernel
theorem dL_lineOf_23 : decode cL_lineOf 23 = .ok (.iconst 0, 1) := by decide +kernel
theorem dL_lineOf_24 : decode cL_lineOf 24 = .ok (.ireturn, 1) := by decide +kernel
theorem dL_doorOf_0 : decode cL_doorOf 0 = .ok (.aload_n 3, 1) := by decide +kernel
theorem dL_doorOf_1 : decode cL_doorOf 1 = .ok (.iconst 0, 1) := by decide +kernel
theorem dL_doorOf_2 : decode cL_doorOf 2 = .ok (.aload_n 0, 1) := by decide +kernel
theorem dL_doorOf_3 : decode cL_doorOf 3 = .ok (.iload_n 1, 1) := by decide +kernel
theorem dL_doorOf_4 : decode cL_doorOf 4 = .ok (.iload_n 2, 1) := by decide +kernel
theorem dL_doorOf_5 : decode cL_doorOf 5 = .ok (.invokevirtual 71, 3) := by decide +kernel
theorem dL_doorOf_8 : decode cL_doorOf 8 = .ok (.i2l, 1) := by decide +kernel
theorem dL_doorOf_9 : decode cL_doorOf 9 = .ok (.lastore, 1) := by decide +kernel
theorem dL_doorOf_10 : decode cL_doorOf 10 = .ok (.goto 11, 3) := by decide +kernel
theorem dL_doorOf_13 : decode cL_doorOf 13 = .ok (.astore 4, 2) := by decide +kernel
theorem dL_doorOf_15 : decode cL_doorOf 15 = .ok (.iconst 1, 1) := by decide +kernel
theorem dL_doorOf_16 : decode cL_doorOf 16 = .ok (.ireturn, 1) := by decide +kernel
theorem dL_doorOf_17 : decode cL_doorOf 17 = .ok (.astore 4, 2) := by decide +kernel
theorem dL_doorOf_19 : decode cL_doorOf 19 = .ok (.iconst 2, 1) := by decide +kernel
theorem dL_doorOf_20 : decode cL_doorOf 20 = .ok (.ireturn, 1) := by decide +kernel
theorem dL_doorOf_21 : decode cL_doorOf 21 = .ok (.iconst 0, 1) := by decide +kernel
theorem dL_doorOf_22 : decode cL_doorOf 22 = .ok (.ireturn, 1) := by decide +kernel
theorem dL_count_0 : decode cL_count 0 = .ok (.aload_n 2, 1) := by decide +kernel
theorem dL_count_1 : decode cL_count 1 = .ok (.iconst 0, 1) := by decide +kernel
theorem dL_count_2 : decode cL_count 2 = .ok (.aload_n 0, 1) := by decide +kernel
theorem dL_count_3 : decode cL_count 3 = .ok (.iload_n 1, 1) := by decide +kernel
theorem dL_count_4 : decode cL_count 4 = .ok (.invokevirtual 74, 3) := by decide +kernel
theorem dL_count_7 : decode cL_count 7 = .ok (.i2l, 1) := by decide +kernel
theorem dL_count_8 : decode cL_count 8 = .ok (.lastore, 1) := by decide +kernel
theorem dL_count_9 : decode cL_count 9 = .ok (.goto 6, 3) := by decide +kernel
theorem dL_count_12 : decode cL_count 12 = .ok (.astore_n 3, 1) := by decide +kernel
theorem dL_count_13 : decode cL_count 13 = .ok (.iconst 1, 1) := by decide +kernel
theorem dL_count_14 : decode cL_count 14 = .ok (.ireturn, 1) := by decide +kernel
theorem dL_count_15 : decode cL_count 15 = .ok (.iconst 0, 1) := by decide +kernel
theorem dL_count_16 : decode cL_count 16 = .ok (.ireturn, 1) := by decide +kernel
theorem dL_setting_0 : decode cL_setting 0 = .ok (.aload_n 2, 1) := by decide +kernel
theorem dL_setting_1 : decode cL_setting 1 = .ok (.iconst 0, 1) := by decide +kernel
theorem dL_setting_2 : decode cL_setting 2 = .ok (.aload_n 0, 1) := by decide +kernel
theorem dL_setting_3 : decode cL_setting 3 = .ok (.iload_n 1, 1) := by decide +kernel
theorem dL_setting_4 : decode cL_setting 4 = .ok (.invokevirtual 77, 3) := by decide +kernel
theorem dL_setting_7 : decode cL_setting 7 = .ok (.i2l, 1) := by decide +kernel
theorem dL_setting_8 : decode cL_setting 8 = .ok (.lastore, 1) := by decide +kernel
theorem dL_setting_9 : decode cL_setting 9 = .ok (.goto 6, 3) := by decide +kernel
theorem dL_setting_12 : decode cL_setting 12 = .ok (.astore_n 3, 1) := by decide +kernel
theorem dL_setting_13 : decode cL_setting 13 = .ok (.iconst 1, 1) := by decide +kernel
theorem dL_setting_14 : decode cL_setting 14 = .ok (.ireturn, 1) := by decide +kernel
theorem dL_setting_15 : decode cL_setting 15 = .ok (.iconst 0, 1) := by decide +kernel
theorem dL_setting_16 : decode cL_setting 16 = .ok (.ireturn, 1) := by decide +kernel
theorem dL_whyNot_0 : decode cL_whyNot 0 = .ok (.aload 5, 2) := by decide +kernel
theorem dL_whyNot_2 : decode cL_whyNot 2 = .ok (.iconst 0, 1) := by decide +kernel
theorem dL_whyNot_3 : decode cL_whyNot 3 = .ok (.aload_n 0, 1) := by decide +kernel
theorem dL_whyNot_4 : decode cL_whyNot 4 = .ok (.iload_n 1, 1) := by decide +kernel
theorem dL_whyNot_5 : decode cL_whyNot 5 = .ok (.iload_n 2, 1) := by decide +kernel
theorem dL_whyNot_6 : decode cL_whyNot 6 = .ok (.iload_n 3, 1) := by decide +kernel
theorem dL_whyNot_7 : decode cL_whyNot 7 = .ok (.iload 4, 2) := by decide +kernel
theorem dL_whyNot_9 : decode cL_whyNot 9 = .ok (.invokevirtual 80, 3) := by decide +kernel
theorem dL_whyNot_12 : decode cL_whyNot 12 = .ok (.i2l, 1) := by decide +kernel
theorem dL_whyNot_13 : decode cL_whyNot 13 = .ok (.lastore, 1) := by decide +kernel
theorem dL_whyNot_14 : decode cL_whyNot 14 = .ok (.goto 7, 3) := by decide +kernel
theorem dL_whyNot_17 : decode cL_whyNot 17 = .ok (.astore 6, 2) := by decide +kernel
theorem dL_whyNot_19 : decode cL_whyNot 19 = .ok (.iconst 1, 1) := by decide +kernel
theorem dL_whyNot_20 : decode cL_whyNot 20 = .ok (.ireturn, 1) := by decide +kernel
theorem dL_whyNot_21 : decode cL_whyNot 21 = .ok (.iconst 0, 1) := by decide +kernel
theorem dL_whyNot_22 : decode cL_whyNot 22 = .ok (.ireturn, 1) := by decide +kernel
theorem dL_bestWord_0 : decode cL_bestWord 0 = .ok (.aload_n 3, 1) := by decide +kernel
theorem dL_bestWord_1 : decode cL_bestWord 1 = .ok (.iconst 0, 1) := by decide +kernel
theorem dL_bestWord_2 : decode cL_bestWord 2 = .ok (.aload_n 0, 1) := by decide +kernel
theorem dL_bestWord_3 : decode cL_bestWord 3 = .ok (.iload_n 1, 1) := by decide +kernel
theorem dL_bestWord_4 : decode cL_bestWord 4 = .ok (.iload_n 2, 1) := by decide +kernel
theorem dL_bestWord_5 : decode cL_bestWord 5 = .ok (.invokevirtual 83, 3) := by decide +kernel
theorem dL_bestWord_8 : decode cL_bestWord 8 = .ok (.i2l, 1) := by decide +kernel
theorem dL_bestWord_9 : decode cL_bestWord 9 = .ok (.lastore, 1) := by decide +kernel
theorem dL_bestWord_10 : decode cL_bestWord 10 = .ok (.goto 7, 3) := by decide +kernel
theorem dL_bestWord_13 : decode cL_bestWord 13 = .ok (.astore 4, 2) := by decide +kernel
theorem dL_bestWord_15 : decode cL_bestWord 15 = .ok (.iconst 1, 1) := by decide +kernel
theorem dL_bestWord_16 : decode cL_bestWord 16 = .ok (.ireturn, 1) := by decide +kernel
theorem dL_bestWord_17 : decode cL_bestWord 17 = .ok (.iconst 0, 1) := by decide +kernel
theorem dL_bestWord_18 : decode cL_bestWord 18 = .ok (.ireturn, 1) := by decide +kernel
theorem dL_ifSlept_0 : decode cL_ifSlept 0 = .ok (.aload_n 3, 1) := by decide +kernel
theorem dL_ifSlept_1 : decode cL_ifSlept 1 = .ok (.iconst 0, 1) := by decide +kernel
theorem dL_ifSlept_2 : decode cL_ifSlept 2 = .ok (.aload_n 0, 1) := by decide +kernel
theorem dL_ifSlept_3 : decode cL_ifSlept 3 = .ok (.iload_n 1, 1) := by decide +kernel
theorem dL_ifSlept_4 : decode cL_ifSlept 4 = .ok (.iload_n 2, 1) := by decide +kernel
theorem dL_ifSlept_5 : decode cL_ifSlept 5 = .ok (.invokevirtual 86, 3) := by decide +kernel
theorem dL_ifSlept_8 : decode cL_ifSlept 8 = .ok (.i2l, 1) := by decide +kernel
theorem dL_ifSlept_9 : decode cL_ifSlept 9 = .ok (.lastore, 1) := by decide +kernel
theorem dL_ifSlept_10 : decode cL_ifSlept 10 = .ok (.goto 11, 3) := by decide +kernel
theorem dL_ifSlept_13 : decode cL_ifSlept 13 = .ok (.astore 4, 2) := by decide +kernel
theorem dL_ifSlept_15 : decode cL_ifSlept 15 = .ok (.iconst 1, 1) := by decide +kernel
theorem dL_ifSlept_16 : decode cL_ifSlept 16 = .ok (.ireturn, 1) := by decide +kernel
theorem dL_ifSlept_17 : decode cL_ifSlept 17 = .ok (.astore 4, 2) := by decide +kernel
theorem dL_ifSlept_19 : decode cL_ifSlept 19 = .ok (.iconst 2, 1) := by decide +kernel
theorem dL_ifSlept_20 : decode cL_ifSlept 20 = .ok (.ireturn, 1) := by decide +kernel
theorem dL_ifSlept_21 : decode cL_ifSlept 21 = .ok (.iconst 0, 1) := by decide +kernel
theorem dL_ifSlept_22 : decode cL_ifSlept 22 = .ok (.ireturn, 1) := by decide +kernel
theorem dL_law_0 : decode cL_law 0 = .ok (.new 8, 3) := by decide +kernel
theorem dL_law_3 : decode cL_law 3 = .ok (.dup, 1) := by decide +kernel
theorem dL_law_4 : decode cL_law 4 = .ok (.invokespecial 89, 3) := by decide +kernel
theorem dL_law_7 : decode cL_law 7 = .ok (.astore_n 1, 1) := by decide +kernel
theorem dL_law_8 : decode cL_law 8 = .ok (.new 90, 3) := by decide +kernel
theorem dL_law_11 : decode cL_law 11 = .ok (.dup, 1) := by decide +kernel
theorem dL_law_12 : decode cL_law 12 = .ok (.invokespecial 92, 3) := by decide +kernel
theorem dL_law_15 : decode cL_law 15 = .ok (.astore_n 2, 1) := by decide +kernel
theorem dL_law_16 : decode cL_law 16 = .ok (.iconst 1, 1) := by decide +kernel
theorem dL_law_17 : decode cL_law 17 = .ok (.newarray .long, 2) := by decide +kernel
theorem dL_law_19 : decode cL_law 19 = .ok (.astore_n 3, 1) := by decide +kernel
theorem dL_law_20 : decode cL_law 20 = .ok (.iconst 0, 1) := by decide +kernel
theorem dL_law_21 : decode cL_law 21 = .ok (.istore 4, 2) := by decide +kernel
theorem dL_law_23 : decode cL_law 23 = .ok (.iload 4, 2) := by decide +kernel
theorem dL_law_25 : decode cL_law 25 = .ok (.aload_n 0, 1) := by decide +kernel
theorem dL_law_26 : decode cL_law 26 = .ok (.arraylength, 1) := by decide +kernel
theorem dL_law_27 : decode cL_law 27 = .ok (.iconst 5, 1) := by decide +kernel
theorem dL_law_28 : decode cL_law 28 = .ok (.isub, 1) := by decide +kernel
theorem dL_law_29 : decode cL_law 29 = .ok (.if_icmp .gt 1763, 3) := by decide +kernel
theorem dL_law_32 : decode cL_law 32 = .ok (.aload_n 0, 1) := by decide +kernel
theorem dL_law_33 : decode cL_law 33 = .ok (.iload 4, 2) := by decide +kernel
theorem dL_law_35 : decode cL_law 35 = .ok (.iaload, 1) := by decide +kernel
theorem dL_law_36 : decode cL_law 36 = .ok (.bipush 31, 2) := by decide +kernel
theorem dL_law_38 : decode cL_law 38 = .ok (.iand, 1) := by decide +kernel
theorem dL_law_39 : decode cL_law 39 = .ok (.tableswitch 1747 0 27 #[125, 217, 273, 353, 409, 501, 569, 625, 693, 749, 762, 775, 831, 887, 943, 999, 1043, 1111, 1191, 1271, 1339, 1395, 1451, 1543, 1611, 1624, 1692, 1733], 125) := by decide +kernel
theorem dL_law_164 : decode cL_law 164 = .ok (.aload_n 1, 1) := by decide +kernel
theorem dL_law_165 : decode cL_law 165 = .ok (.aload_n 0, 1) := by decide +kernel
theorem dL_law_166 : decode cL_law 166 = .ok (.iload 4, 2) := by decide +kernel
theorem dL_law_168 : decode cL_law 168 = .ok (.iconst 1, 1) := by decide +kernel
theorem dL_law_169 : decode cL_law 169 = .ok (.iadd, 1) := by decide +kernel
theorem dL_law_170 : decode cL_law 170 = .ok (.iaload, 1) := by decide +kernel
theorem dL_law_171 : decode cL_law 171 = .ok (.aload_n 0, 1) := by decide +kernel
theorem dL_law_172 : decode cL_law 172 = .ok (.iload 4, 2) := by decide +kernel
theorem dL_law_174 : decode cL_law 174 = .ok (.iconst 2, 1) := by decide +kernel
theorem dL_law_175 : decode cL_law 175 = .ok (.iadd, 1) := by decide +kernel
theorem dL_law_176 : decode cL_law 176 = .ok (.iaload, 1) := by decide +kernel
theorem dL_law_177 : decode cL_law 177 = .ok (.aload_n 0, 1) := by decide +kernel
theorem dL_law_178 : decode cL_law 178 = .ok (.iload 4, 2) := by decide +kernel
theorem dL_law_180 : decode cL_law 180 = .ok (.iconst 3, 1) := by decide +kernel
theorem dL_law_181 : decode cL_law 181 = .ok (.iadd, 1) := by decide +kernel
theorem dL_law_182 : decode cL_law 182 = .ok (.iaload, 1) := by decide +kernel
theorem dL_law_183 : decode cL_law 183 = .ok (.aload_n 0, 1) := by decide +kernel
theorem dL_law_184 : decode cL_law 184 = .ok (.iload 4, 2) := by decide +kernel
theorem dL_law_186 : decode cL_law 186 = .ok (.iconst 4, 1) := by decide +kernel
theorem dL_law_187 : decode cL_law 187 = .ok (.iadd, 1) := by decide +kernel
theorem dL_law_188 : decode cL_law 188 = .ok (.iaload, 1) := by decide +kernel
theorem dL_law_189 : decode cL_law 189 = .ok (.aload_n 3, 1) := by decide +kernel
theorem dL_law_190 : decode cL_law 190 = .ok (.invokestatic 93, 3) := by decide +kernel
theorem dL_law_193 : decode cL_law 193 = .ok (.istore 5, 2) := by decide +kernel
theorem dL_law_195 : decode cL_law 195 = .ok (.aload_n 2, 1) := by decide +kernel
theorem dL_law_196 : decode cL_law 196 = .ok (.aload_n 0, 1) := by decide +kernel
theorem dL_law_197 : decode cL_law 197 = .ok (.iload 4, 2) := by decide +kernel
theorem dL_law_199 : decode cL_law 199 = .ok (.iconst 1, 1) := by decide +kernel
theorem dL_law_200 : decode cL_law 200 = .ok (.iadd, 1) := by decide +kernel
theorem dL_law_201 : decode cL_law 201 = .ok (.iaload, 1) := by decide +kernel
theorem dL_law_202 : decode cL_law 202 = .ok (.aload_n 0, 1) := by decide +kernel
theorem dL_law_203 : decode cL_law 203 = .ok (.iload 4, 2) := by decide +kernel
theorem dL_law_205 : decode cL_law 205 = .ok (.iconst 2, 1) := by decide +kernel
theorem dL_law_206 : decode cL_law 206 = .ok (.iadd, 1) := by decide +kernel
theorem dL_law_207 : decode cL_law 207 = .ok (.iaload, 1) := by decide +kernel
theorem dL_law_208 : decode cL_law 208 = .ok (.aload_n 0, 1) := by decide +kernel
theorem dL_law_209 : decode cL_law 209 = .ok (.iload 4, 2) := by decide +kernel
theorem dL_law_211 : decode cL_law 211 = .ok (.iconst 3, 1) := by decide +kernel
theorem dL_law_212 : decode cL_law 212 = .ok (.iadd, 1) := by decide +kernel
theorem dL_law_213 : decode cL_law 213 = .ok (.iaload, 1) := by decide +kernel
theorem dL_law_214 : decode cL_law 214 = .ok (.aload_n 0, 1) := by decide +kernel
theorem dL_law_215 : decode cL_law 215 = .ok (.iload 4, 2) := by decide +kernel
theorem dL_law_217 : decode cL_law 217 = .ok (.iconst 4, 1) := by decide +kernel
theorem dL_law_218 : decode cL_law 218 = .ok (.iadd, 1) := by decide +kernel
theorem dL_law_219 : decode cL_law 219 = .ok (.iaload, 1) := by decide +kernel
theorem dL_law_220 : decode cL_law 220 = .ok (.invokevirtual 98, 3) := by decide +kernel
theorem dL_law_223 : decode cL_law 223 = .ok (.istore 6, 2) := by decide +kernel
theorem dL_law_225 : decode cL_law 225 = .ok (.aload_n 2, 1) := by decide +kernel
theorem dL_law_226 : decode cL_law 226 = .ok (.invokevirtual 99, 3) := by decide +kernel
theorem dL_law_229 : decode cL_law 229 = .ok (.iload 5, 2) := by decide +kernel
theorem dL_law_231 : decode cL_law 231 = .ok (.if_icmp .eq 5, 3) := by decide +kernel
theorem dL_law_234 : decode cL_law 234 = .ok (.iconst 0, 1) := by decide +kernel
theorem dL_law_235 : decode cL_law 235 = .ok (.ireturn, 1) := by decide +kernel
theorem dL_law_236 : decode cL_law 236 = .ok (.iload 5, 2) := by decide +kernel
theorem dL_law_238 : decode cL_law 238 = .ok (.ifCond .ne 15, 3) := by decide +kernel
theorem dL_law_241 : decode cL_law 241 = .ok (.aload_n 3, 1) := by decide +kernel
theorem dL_law_242 : decode cL_law 242 = .ok (.iconst 0, 1) := by decide +kernel
theorem dL_law_243 : decode cL_law 243 = .ok (.laload, 1) := by decide +kernel
theorem dL_law_244 : decode cL_law 244 = .ok (.iload 6, 2) := by decide +kernel
theorem dL_law_246 : decode cL_law 246 = .ok (.i2l, 1) := by decide +kernel
theorem dL_law_247 : decode cL_law 247 = .ok (.lcmp, 1) := by decide +kernel
theorem dL_law_248 : decode cL_law 248 = .ok (.ifCond .eq 5, 3) := by decide +kernel
theorem dL_law_251 : decode cL_law 251 = .ok (.iconst 0, 1) := by decide +kernel
theorem dL_law_252 : decode cL_law 252 = .ok (.ireturn, 1) := by decide +kernel
theorem dL_law_253 : decode cL_law 253 = .ok (.goto 1533, 3) := by decide +kernel
theorem dL_law_256 : decode cL_law 256 = .ok (.aload_n 1, 1) := by decide +kernel
theorem dL_law_257 : decode cL_law 257 = .ok (.aload_n 0, 1) := by decide +kernel
theorem dL_law_258 : decode cL_law 258 = .ok (.iload 4, 2) := by decide +kernel
theorem dL_law_260 : decode cL_law 260 = .ok (.iconst 1, 1) := by decide +kernel
theorem dL_law_261 : decode cL_law 261 = .ok (.iadd, 1) := by decide +kernel
theorem dL_law_262 : decode cL_law 262 = .ok (.iaload, 1) := by decide +kernel
theorem dL_law_263 : decode cL_law 263 = .ok (.aload_n 3, 1) := by decide +kernel
theorem dL_law_264 : decode cL_law 264 = .ok (.invokestatic 102, 3) := by decide +kernel
theorem dL_law_267 : decode cL_law 267 = .ok (.istore 5, 2) := by decide +kernel
theorem dL_law_269 : decode cL_law 269 = .ok (.aload_n 2, 1) := by decide +kernel
theorem dL_law_270 : decode cL_law 270 = .ok (.aload_n 0, 1) := by decide +kernel
theorem dL_law_271 : decode cL_law 271 = .ok (.iload 4, 2) := by decide +kernel
theorem dL_law_273 : decode cL_law 273 = .ok (.iconst 1, 1) := by decide +kernel
theorem dL_law_274 : decode cL_law 274 = .ok (.iadd, 1) := by decide +kernel
theorem dL_law_275 : decode cL_law 275 = .ok (.iaload, 1) := by decide +kernel
theorem dL_law_276 : decode cL_law 276 = .ok (.invokevirtual 105, 3) := by decide +kernel
theorem dL_law_279 : decode cL_law 279 = .ok (.istore 6, 2) := by decide +kernel
theorem dL_law_281 : decode cL_law 281 = .ok (.aload_n 2, 1) := by decide +kernel
theorem dL_law_282 : decode cL_law 282 = .ok (.invokevirtual 99, 3) := by decide +kernel
theorem dL_law_285 : decode cL_law 285 = .ok (.iload 5, 2) := by decide +kernel
theorem dL_law_287 : decode cL_law 287 = .ok (.if_icmp .eq 5, 3) := by decide +kernel
theorem dL_law_290 : decode cL_law 290 = .ok (.iconst 0, 1) := by decide +kernel
theorem dL_law_291 : decode cL_law 291 = .ok (.ireturn, 1) := by decide +kernel
theorem dL_law_292 : decode cL_law 292 = .ok (.iload 5, 2) := by decide +kernel
theorem dL_law_294 : decode cL_law 294 = .ok (.ifCond .ne 15, 3) := by decide +kernel
theorem dL_law_297 : decode cL_law 297 = .ok (.aload_n 3, 1) := by decide +kernel
theorem dL_law_298 : decode cL_law 298 = .ok (.iconst 0, 1) := by decide +kernel
theorem dL_law_299 : decode cL_law 299 = .ok (.laload, 1) := by decide +kernel
theorem dL_law_300 : decode cL_law 300 = .ok (.iload 6, 2) := by decide +kernel
theorem dL_law_302 : decode cL_law 302 = .ok (.i2l, 1) := by decide +kernel
theorem dL_law_303 : decode cL_law 303 = .ok (.lcmp, 1) := by decide +kernel
theorem dL_law_304 : decode cL_law 304 = .ok (.ifCond .eq 5, 3) := by decide +kernel
theorem dL_law_307 : decode cL_law 307 = .ok (.iconst 0, 1) := by decide +kernel
theorem dL_law_308 : decode cL_law 308 = .ok (.ireturn, 1) := by decide +kernel
theorem dL_law_309 : decode cL_law 309 = .ok (.goto 1477, 3) := by decide +kernel
theorem dL_law_312 : decode cL_law 312 = .ok (.aload_n 1, 1) := by decide +kernel
theorem dL_law_313 : decode cL_law 313 = .ok (.aload_n 0, 1) := by decide +kernel
theorem dL_law_314 : decode cL_law 314 = .ok (.iload 4, 2) := by decide +kernel
theorem dL_law_316 : decode cL_law 316 = .ok (.iconst 1, 1) := by decide +kernel
theorem dL_law_317 : decode cL_law 317 = .ok (.iadd, 1) := by decide +kernel
theorem dL_law_318 : decode cL_law 318 = .ok (.iaload, 1) := by decide +kernel
theorem dL_law_319 : decode cL_law 319 = .ok (.aload_n 0, 1) := by decide +kernel
theorem dL_law_320 : decode cL_law 320 = .ok (.iload 4, 2) := by decide +kernel
theorem dL_law_322 : decode cL_law 322 = .ok (.iconst 2, 1) := by decide +kernel
theorem dL_law_323 : decode cL_law 323 = .ok (.iadd, 1) := by decide +kernel
theorem dL_law_324 : decode cL_law 324 = .ok (.iaload, 1) := by decide +kernel
theorem dL_law_325 : decode cL_law 325 = .ok (.aload_n 0, 1) := by decide +kernel
theorem dL_law_326 : decode cL_law 326 = .ok (.iload 4, 2) := by decide +kernel
theorem dL_law_328 : decode cL_law 328 = .ok (.iconst 3, 1) := by decide +kernel
theorem dL_law_329 : decode cL_law 329 = .ok (.iadd, 1) := by decide +kernel
theorem dL_law_330 : decode cL_law 330 = .ok (.iaload, 1) := by decide +kernel
theorem dL_law_331 : decode cL_law 331 = .ok (.aload_n 3, 1) := by decide +kernel
theorem dL_law_332 : decode cL_law 332 = .ok (.invokestatic 106, 3) := by decide +kernel
theorem dL_law_335 : decode cL_law 335 = .ok (.istore 5, 2) := by decide +kernel
theorem dL_law_337 : decode cL_law 337 = .ok (.aload_n 2, 1) := by decide +kernel
theorem dL_law_338 : decode cL_law 338 = .ok (.aload_n 0, 1) := by decide +kernel
theorem dL_law_339 : decode cL_law 339 = .ok (.iload 4, 2) := by decide +kernel
theorem dL_law_341 : decode cL_law 341 = .ok (.iconst 1, 1) := by decide +kernel
theorem dL_law_342 : decode cL_law 342 = .ok (.iadd, 1) := by decide +kernel
theorem dL_law_343 : decode cL_law 343 = .ok (.iaload, 1) := by decide +kernel
theorem dL_law_344 : decode cL_law 344 = .ok (.aload_n 0, 1) := by decide +kernel
theorem dL_law_345 : decode cL_law 345 = .ok (.iload 4, 2) := by decide +kernel
theorem dL_law_347 : decode cL_law 347 = .ok (.iconst 2, 1) := by decide +kernel
theorem dL_law_348 : decode cL_law 348 = .ok (.iadd, 1) := by decide +kernel
theorem dL_law_349 : decode cL_law 349 = .ok (.iaload, 1) := by decide +kernel
theorem dL_law_350 : decode cL_law 350 = .ok (.aload_n 0, 1) := by decide +kernel
theorem dL_law_351 : decode cL_law 351 = .ok (.iload 4, 2) := by decide +kernel
theorem dL_law_353 : decode cL_law 353 = .ok (.iconst 3, 1) := by decide +kernel
theorem dL_law_354 : decode cL_law 354 = .ok (.iadd, 1) := by decide +kernel
theorem dL_law_355 : decode cL_law 355 = .ok (.iaload, 1) := by decide +kernel
theorem dL_law_356 : decode cL_law 356 = .ok (.invokevirtual 109, 3) := by decide +kernel
theorem dL_law_359 : decode cL_law 359 = .ok (.istore 6, 2) := by decide +kernel
theorem dL_law_361 : decode cL_law 361 = .ok (.aload_n 2, 1) := by decide +kernel
theorem dL_law_362 : decode cL_law 362 = .ok (.invokevirtual 99, 3) := by decide +kernel
theorem dL_law_365 : decode cL_law 365 = .ok (.iload 5, 2) := by decide +kernel
theorem dL_law_367 : decode cL_law 367 = .ok (.if_icmp .eq 5, 3) := by decide +kernel
theorem dL_law_370 : decode cL_law 370 = .ok (.iconst 0, 1) := by decide +kernel
theorem dL_law_371 : decode cL_law 371 = .ok (.ireturn, 1) := by decide +kernel
theorem dL_law_372 : decode cL_law 372 = .ok (.iload 5, 2) := by decide +kernel
theorem dL_law_374 : decode cL_law 374 = .ok (.ifCond .ne 15, 3) := by decide +kernel
theorem dL_law_377 : decode cL_law 377 = .ok (.aload_n 3, 1) := by decide +kernel
theorem dL_law_378 : decode cL_law 378 = .ok (.iconst 0, 1) := by decide +kernel
theorem dL_law_379 : decode cL_law 379 = .ok (.laload, 1) := by decide +kernel
theorem dL_law_380 : decode cL_law 380 = .ok (.iload 6, 2) := by decide +kernel
theorem dL_law_382 : decode cL_law 382 = .ok (.i2l, 1) := by decide +kernel
theorem dL_law_383 : decode cL_law 383 = .ok (.lcmp, 1) := by decide +kernel
theorem dL_law_384 : decode cL_law 384 = .ok (.ifCond .eq 5, 3) := by decide +kernel
theorem dL_law_387 : decode cL_law 387 = .ok (.iconst 0, 1) := by decide +kernel
theorem dL_law_388 : decode cL_law 388 = .ok (.ireturn, 1) := by decide +kernel
theorem dL_law_389 : decode cL_law 389 = .ok (.goto 1397, 3) := by decide +kernel
theorem dL_law_392 : decode cL_law 392 = .ok (.aload_n 1, 1) := by decide +kernel
theorem dL_law_393 : decode cL_law 393 = .ok (.aload_n 0, 1) := by decide +kernel
theorem dL_law_394 : decode cL_law 394 = .ok (.iload 4, 2) := by decide +kernel
theorem dL_law_396 : decode cL_law 396 = .ok (.iconst 1, 1) := by decide +kernel
theorem dL_law_397 : decode cL_law 397 = .ok (.iadd, 1) := by decide +kernel
theorem dL_law_398 : decode cL_law 398 = .ok (.iaload, 1) := by decide +kernel
theorem dL_law_399 : decode cL_law 399 = .ok (.aload_n 3, 1) := by decide +kernel
theorem dL_law_400 : decode cL_law 400 = .ok (.invokestatic 110, 3) := by decide +kernel
theorem dL_law_403 : decode cL_law 403 = .ok (.istore 5, 2) := by decide +kernel
theorem dL_law_405 : decode cL_law 405 = .ok (.aload_n 2, 1) := by decide +kernel
theorem dL_law_406 : decode cL_law 406 = .ok (.aload_n 0, 1) := by decide +kernel
theorem dL_law_407 : decode cL_law 407 = .ok (.iload 4, 2) := by decide +kernel
theorem dL_law_409 : decode cL_law 409 = .ok (.iconst 1, 1) := by decide +kernel
theorem dL_law_410 : decode cL_law 410 = .ok (.iadd, 1) := by decide +kernel
theorem dL_law_411 : decode cL_law 411 = .ok (.iaload, 1) := by decide +kernel
theorem dL_law_412 : decode cL_law 412 = .ok (.invokevirtual 112, 3) := by decide +kernel
theorem dL_law_415 : decode cL_law 415 = .ok (.istore 6, 2) := by decide +kernel
theorem dL_law_417 : decode cL_law 417 = .ok (.aload_n 2, 1) := by decide +kernel
theorem dL_law_418 : decode cL_law 418 = .ok (.invokevirtual 99, 3) := by decide +kernel
theorem dL_law_421 : decode cL_law 421 = .ok (.iload 5, 2) := by decide +kernel
theorem dL_law_423 : decode cL_law 423 = .ok (.if_icmp .eq 5, 3) := by decide +kernel
theorem dL_law_426 : decode cL_law 426 = .ok (.iconst 0, 1) := by decide +kernel
theorem dL_law_427 : decode cL_law 427 = .ok (.ireturn, 1) := by decide +kernel
theorem dL_law_428 : decode cL_law 428 = .ok (.iload 5, 2) := by decide +kernel
theorem dL_law_430 : decode cL_law 430 = .ok (.ifCond .ne 15, 3) := by decide +kernel
theorem dL_law_433 : decode cL_law 433 = .ok (.aload_n 3, 1) := by decide +kernel
theorem dL_law_434 : decode cL_law 434 = .ok (.iconst 0, 1) := by decide +kernel
theorem dL_law_435 : decode cL_law 435 = .ok (.laload, 1) := by decide +kernel
theorem dL_law_436 : decode cL_law 436 = .ok (.iload 6, 2) := by decide +kernel
theorem dL_law_438 : decode cL_law 438 = .ok (.i2l, 1) := by decide +kernel
theorem dL_law_439 : decode cL_law 439 = .ok (.lcmp, 1) := by decide +kernel
theorem dL_law_440 : decode cL_law 440 = .ok (.ifCond .eq 5, 3) := by decide +kernel
theorem dL_law_443 : decode cL_law 443 = .ok (.iconst 0, 1) := by decide +kernel
theorem dL_law_444 : decode cL_law 444 = .ok (.ireturn, 1) := by decide +kernel
theorem dL_law_445 : decode cL_law 445 = .ok (.goto 1341, 3) := by decide +kernel
theorem dL_law_448 : decode cL_law 448 = .ok (.aload_n 1, 1) := by decide +kernel
theorem dL_law_449 : decode cL_law 449 = .ok (.aload_n 0, 1) := by decide +kernel
theorem dL_law_450 : decode cL_law 450 = .ok (.iload 4, 2) := by decide +kernel
theorem dL_law_452 : decode cL_law 452 = .ok (.iconst 1, 1) := by decide +kernel
theorem dL_law_453 : decode cL_law 453 = .ok (.iadd, 1) := by decide +kernel
theorem dL_law_454 : decode cL_law 454 = .ok (.iaload, 1) := by decide +kernel
theorem dL_law_455 : decode cL_law 455 = .ok (.aload_n 0, 1) := by decide +kernel
theorem dL_law_456 : decode cL_law 456 = .ok (.iload 4, 2) := by decide +kernel
theorem dL_law_458 : decode cL_law 458 = .ok (.iconst 2, 1) := by decide +kernel
theorem dL_law_459 : decode cL_law 459 = .ok (.iadd, 1) := by decide +kernel
theorem dL_law_460 : decode cL_law 460 = .ok (.iaload, 1) := by decide +kernel
theorem dL_law_461 : decode cL_law 461 = .ok (.aload_n 0, 1) := by decide +kernel
theorem dL_law_462 : decode cL_law 462 = .ok (.iload 4, 2) := by decide +kernel
theorem dL_law_464 : decode cL_law 464 = .ok (.iconst 3, 1) := by decide +kernel
theorem dL_law_465 : decode cL_law 465 = .ok (.iadd, 1) := by decide +kernel
theorem dL_law_466 : decode cL_law 466 = .ok (.iaload, 1) := by decide +kernel
theorem dL_law_467 : decode cL_law 467 = .ok (.aload_n 0, 1) := by decide +kernel
theorem dL_law_468 : decode cL_law 468 = .ok (.iload 4, 2) := by decide +kernel
theorem dL_law_470 : decode cL_law 470 = .ok (.iconst 4, 1) := by decide +kernel
theorem dL_law_471 : decode cL_law 471 = .ok (.iadd, 1) := by decide +kernel
theorem dL_law_472 : decode cL_law 472 = .ok (.iaload, 1) := by decide +kernel
theorem dL_law_473 : decode cL_law 473 = .ok (.aload_n 3, 1) := by decide +kernel
theorem dL_law_474 : decode cL_law 474 = .ok (.invokestatic 113, 3) := by decide +kernel
theorem dL_law_477 : decode cL_law 477 = .ok (.istore 5, 2) := by decide +kernel
theorem dL_law_479 : decode cL_law 479 = .ok (.aload_n 2, 1) := by decide +kernel
theorem dL_law_480 : decode cL_law 480 = .ok (.aload_n 0, 1) := by decide +kernel
theorem dL_law_481 : decode cL_law 481 = .ok (.iload 4, 2) := by decide +kernel
theorem dL_law_483 : decode cL_law 483 = .ok (.iconst 1, 1) := by decide +kernel
theorem dL_law_484 : decode cL_law 484 = .ok (.iadd, 1) := by decide +kernel
theorem dL_law_485 : decode cL_law 485 = .ok (.iaload, 1) := by decide +kernel
theorem dL_law_486 : decode cL_law 486 = .ok (.aload_n 0, 1) := by decide +kernel
theorem dL_law_487 : decode cL_law 487 = .ok (.iload 4, 2) := by decide +kernel
theorem dL_law_489 : decode cL_law 489 = .ok (.iconst 2, 1) := by decide +kernel
theorem dL_law_490 : decode cL_law 490 = .ok (.iadd, 1) := by decide +kernel
theorem dL_law_491 : decode cL_law 491 = .ok (.iaload, 1) := by decide +kernel
theorem dL_law_492 : decode cL_law 492 = .ok (.aload_n 0, 1) := by decide +kernel
theorem dL_law_493 : decode cL_law 493 = .ok (.iload 4, 2) := by decide +kernel
theorem dL_law_495 : decode cL_law 495 = .ok (.iconst 3, 1) := by decide +kernel
theorem dL_law_496 : decode cL_law 496 = .ok (.iadd, 1) := by decide +kernel
theorem dL_law_497 : decode cL_law 497 = .ok (.iaload, 1) := by decide +kernel
theorem dL_law_498 : decode cL_law 498 = .ok (.aload_n 0, 1) := by decide +kernel
theorem dL_law_499 : decode cL_law 499 = .ok (.iload 4, 2) := by decide +kernel
theorem dL_law_501 : decode cL_law 501 = .ok (.iconst 4, 1) := by decide +kernel
theorem dL_law_502 : decode cL_law 502 = .ok (.iadd, 1) := by decide +kernel
theorem dL_law_503 : decode cL_law 503 = .ok (.iaload, 1) := by decide +kernel
theorem dL_law_504 : decode cL_law 504 = .ok (.invokevirtual 115, 3) := by decide +kernel
theorem dL_law_507 : decode cL_law 507 = .ok (.istore 6, 2) := by decide +kernel
theorem dL_law_509 : decode cL_law 509 = .ok (.aload_n 2, 1) := by decide +kernel
theorem dL_law_510 : decode cL_law 510 = .ok (.invokevirtual 99, 3) := by decide +kernel
theorem dL_law_513 : decode cL_law 513 = .ok (.iload 5, 2) := by decide +kernel
theorem dL_law_515 : decode cL_law 515 = .ok (.if_icmp .eq 5, 3) := by decide +kernel
theorem dL_law_518 : decode cL_law 518 = .ok (.iconst 0, 1) := by decide +kernel
theorem dL_law_519 : decode cL_law 519 = .ok (.ireturn, 1) := by decide +kernel
theorem dL_law_520 : decode cL_law 520 = .ok (.iload 5, 2) := by decide +kernel
theorem dL_law_522 : decode cL_law 522 = .ok (.ifCond .ne 15, 3) := by decide +kernel
theorem dL_law_525 : decode cL_law 525 = .ok (.aload_n 3, 1) := by decide +kernel
theorem dL_law_526 : decode cL_law 526 = .ok (.iconst 0, 1) := by decide +kernel
theorem dL_law_527 : decode cL_law 527 = .ok (.laload, 1) := by decide +kernel
theorem dL_law_528 : decode cL_law 528 = .ok (.iload 6, 2) := by decide +kernel
theorem dL_law_530 : decode cL_law 530 = .ok (.i2l, 1) := by decide +kernel
theorem dL_law_531 : decode cL_law 531 = .ok (.lcmp, 1) := by decide +kernel
theorem dL_law_532 : decode cL_law 532 = .ok (.ifCond .eq 5, 3) := by decide +kernel
theorem dL_law_535 : decode cL_law 535 = .ok (.iconst 0, 1) := by decide +kernel
theorem dL_law_536 : decode cL_law 536 = .ok (.ireturn, 1) := by decide +kernel
theorem dL_law_537 : decode cL_law 537 = .ok (.goto 1249, 3) := by decide +kernel
theorem dL_law_540 : decode cL_law 540 = .ok (.aload_n 1, 1) := by decide +kernel
theorem dL_law_541 : decode cL_law 541 = .ok (.aload_n 0, 1) := by decide +kernel
theorem dL_law_542 : decode cL_law 542 = .ok (.iload 4, 2) := by decide +kernel
theorem dL_law_544 : decode cL_law 544 = .ok (.iconst 1, 1) := by decide +kernel
theorem dL_law_545 : decode cL_law 545 = .ok (.iadd, 1) := by decide +kernel
theorem dL_law_546 : decode cL_law 546 = .ok (.iaload, 1) := by decide +kernel
theorem dL_law_547 : decode cL_law 547 = .ok (.aload_n 0, 1) := by decide +kernel
theorem dL_law_548 : decode cL_law 548 = .ok (.iload 4, 2) := by decide +kernel
theorem dL_law_550 : decode cL_law 550 = .ok (.iconst 2, 1) := by decide +kernel
theorem dL_law_551 : decode cL_law 551 = .ok (.iadd, 1) := by decide +kernel
theorem dL_law_552 : decode cL_law 552 = .ok (.iaload, 1) := by decide +kernel
theorem dL_law_553 : decode cL_law 553 = .ok (.aload_n 3, 1) := by decide +kernel
theorem dL_law_554 : decode cL_law 554 = .ok (.invokestatic 116, 3) := by decide +kernel
theorem dL_law_557 : decode cL_law 557 = .ok (.istore 5, 2) := by decide +kernel
theorem dL_law_559 : decode cL_law 559 = .ok (.aload_n 2, 1) := by decide +kernel
theorem dL_law_560 : decode cL_law 560 = .ok (.aload_n 0, 1) := by decide +kernel
theorem dL_law_561 : decode cL_law 561 = .ok (.iload 4, 2) := by decide +kernel
theorem dL_law_563 : decode cL_law 563 = .ok (.iconst 1, 1) := by decide +kernel
theorem dL_law_564 : decode cL_law 564 = .ok (.iadd, 1) := by decide +kernel
theorem dL_law_565 : decode cL_law 565 = .ok (.iaload, 1) := by decide +kernel
theorem dL_law_566 : decode cL_law 566 = .ok (.aload_n 0, 1) := by decide +kernel
theorem dL_law_567 : decode cL_law 567 = .ok (.iload 4, 2) := by decide +kernel
theorem dL_law_569 : decode cL_law 569 = .ok (.iconst 2, 1) := by decide +kernel
theorem dL_law_570 : decode cL_law 570 = .ok (.iadd, 1) := by decide +kernel
theorem dL_law_571 : decode cL_law 571 = .ok (.iaload, 1) := by decide +kernel
theorem dL_law_572 : decode cL_law 572 = .ok (.invokevirtual 119, 3) := by decide +kernel
theorem dL_law_575 : decode cL_law 575 = .ok (.istore 6, 2) := by decide +kernel
theorem dL_law_577 : decode cL_law 577 = .ok (.aload_n 2, 1) := by decide +kernel
theorem dL_law_578 : decode cL_law 578 = .ok (.invokevirtual 99, 3) := by decide +kernel
theorem dL_law_581 : decode cL_law 581 = .ok (.iload 5, 2) := by decide +kernel
theorem dL_law_583 : decode cL_law 583 = .ok (.if_icmp .eq 5, 3) := by decide +kernel
theorem dL_law_586 : decode cL_law 586 = .ok (.iconst 0, 1) := by decide +kernel
theorem dL_law_587 : decode cL_law 587 = .ok (.ireturn, 1) := by decide +kernel
theorem dL_law_588 : decode cL_law 588 = .ok (.iload 5, 2) := by decide +kernel
theorem dL_law_590 : decode cL_law 590 = .ok (.ifCond .ne 15, 3) := by decide +kernel
theorem dL_law_593 : decode cL_law 593 = .ok (.aload_n 3, 1) := by decide +kernel
theorem dL_law_594 : decode cL_law 594 = .ok (.iconst 0, 1) := by decide +kernel
theorem dL_law_595 : decode cL_law 595 = .ok (.laload, 1) := by decide +kernel
theorem dL_law_596 : decode cL_law 596 = .ok (.iload 6, 2) := by decide +kernel
theorem dL_law_598 : decode cL_law 598 = .ok (.i2l, 1) := by decide +kernel
theorem dL_law_599 : decode cL_law 599 = .ok (.lcmp, 1) := by decide +kernel
theorem dL_law_600 : decode cL_law 600 = .ok (.ifCond .eq 5, 3) := by decide +kernel
theorem dL_law_603 : decode cL_law 603 = .ok (.iconst 0, 1) := by decide +kernel
theorem dL_law_604 : decode cL_law 604 = .ok (.ireturn, 1) := by decide +kernel
theorem dL_law_605 : decode cL_law 605 = .ok (.goto 1181, 3) := by decide +kernel
theorem dL_law_608 : decode cL_law 608 = .ok (.aload_n 1, 1) := by decide +kernel
theorem dL_law_609 : decode cL_law 609 = .ok (.aload_n 0, 1) := by decide +kernel
theorem dL_law_610 : decode cL_law 610 = .ok (.iload 4, 2) := by decide +kernel
theorem dL_law_612 : decode cL_law 612 = .ok (.iconst 1, 1) := by decide +kernel
theorem dL_law_613 : decode cL_law 613 = .ok (.iadd, 1) := by decide +kernel
theorem dL_law_614 : decode cL_law 614 = .ok (.iaload, 1) := by decide +kernel
theorem dL_law_615 : decode cL_law 615 = .ok (.aload_n 3, 1) := by decide +kernel
theorem dL_law_616 : decode cL_law 616 = .ok (.invokestatic 120, 3) := by decide +kernel
theorem dL_law_619 : decode cL_law 619 = .ok (.istore 5, 2) := by decide +kernel
theorem dL_law_621 : decode cL_law 621 = .ok (.aload_n 2, 1) := by decide +kernel
theorem dL_law_622 : decode cL_law 622 = .ok (.aload_n 0, 1) := by decide +kernel
theorem dL_law_623 : decode cL_law 623 = .ok (.iload 4, 2) := by decide +kernel
theorem dL_law_625 : decode cL_law 625 = .ok (.iconst 1, 1) := by decide +kernel
theorem dL_law_626 : decode cL_law 626 = .ok (.iadd, 1) := by decide +kernel
theorem dL_law_627 : decode cL_law 627 = .ok (.iaload, 1) := by decide +kernel
theorem dL_law_628 : decode cL_law 628 = .ok (.invokevirtual 122, 3) := by decide +kernel
theorem dL_law_631 : decode cL_law 631 = .ok (.istore 6, 2) := by decide +kernel
theorem dL_law_633 : decode cL_law 633 = .ok (.aload_n 2, 1) := by decide +kernel
theorem dL_law_634 : decode cL_law 634 = .ok (.invokevirtual 99, 3) := by decide +kernel
theorem dL_law_637 : decode cL_law 637 = .ok (.iload 5, 2) := by decide +kernel
theorem dL_law_639 : decode cL_law 639 = .ok (.if_icmp .eq 5, 3) := by decide +kernel
theorem dL_law_642 : decode cL_law 642 = .ok (.iconst 0, 1) := by decide +kernel
theorem dL_law_643 : decode cL_law 643 = .ok (.ireturn, 1) := by decide +kernel
theorem dL_law_644 : decode cL_law 644 = .ok (.iload 5, 2) := by decide +kernel
theorem dL_law_646 : decode cL_law 646 = .ok (.ifCond .ne 15, 3) := by decide +kernel
theorem dL_law_649 : decode cL_law 649 = .ok (.aload_n 3, 1) := by decide +kernel
theorem dL_law_650 : decode cL_law 650 = .ok (.iconst 0, 1) := by decide +kernel
theorem dL_law_651 : decode cL_law 651 = .ok (.laload, 1) := by decide +kernel
theorem dL_law_652 : decode cL_law 652 = .ok (.iload 6, 2) := by decide +kernel
theorem dL_law_654 : decode cL_law 654 = .ok (.i2l, 1) := by decide +kernel
theorem dL_law_655 : decode cL_law 655 = .ok (.lcmp, 1) := by decide +kernel
theorem dL_law_656 : decode cL_law 656 = .ok (.ifCond .eq 5, 3) := by decide +kernel
theorem dL_law_659 : decode cL_law 659 = .ok (.iconst 0, 1) := by decide +kernel
theorem dL_law_660 : decode cL_law 660 = .ok (.ireturn, 1) := by decide +kernel
theorem dL_law_661 : decode cL_law 661 = .ok (.goto 1125, 3) := by decide +kernel
theorem dL_law_664 : decode cL_law 664 = .ok (.aload_n 1, 1) := by decide +kernel
theorem dL_law_665 : decode cL_law 665 = .ok (.aload_n 0, 1) := by decide +kernel
theorem dL_law_666 : decode cL_law 666 = .ok (.iload 4, 2) := by decide +kernel
theorem dL_law_668 : decode cL_law 668 = .ok (.iconst 1, 1) := by decide +kernel
theorem dL_law_669 : decode cL_law 669 = .ok (.iadd, 1) := by decide +kernel
theorem dL_law_670 : decode cL_law 670 = .ok (.iaload, 1) := by decide +kernel
theorem dL_law_671 : decode cL_law 671 = .ok (.aload_n 0, 1) := by decide +kernel
theorem dL_law_672 : decode cL_law 672 = .ok (.iload 4, 2) := by decide +kernel
theorem dL_law_674 : decode cL_law 674 = .ok (.iconst 2, 1) := by decide +kernel
theorem dL_law_675 : decode cL_law 675 = .ok (.iadd, 1) := by decide +kernel
theorem dL_law_676 : decode cL_law 676 = .ok (.iaload, 1) := by decide +kernel
theorem dL_law_677 : decode cL_law 677 = .ok (.aload_n 3, 1) := by decide +kernel
theorem dL_law_678 : decode cL_law 678 = .ok (.invokestatic 123, 3) := by decide +kernel
theorem dL_law_681 : decode cL_law 681 = .ok (.istore 5, 2) := by decide +kernel
theorem dL_law_683 : decode cL_law 683 = .ok (.aload_n 2, 1) := by decide +kernel
theorem dL_law_684 : decode cL_law 684 = .ok (.aload_n 0, 1) := by decide +kernel
theorem dL_law_685 : decode cL_law 685 = .ok (.iload 4, 2) := by decide +kernel
theorem dL_law_687 : decode cL_law 687 = .ok (.iconst 1, 1) := by decide +kernel
theorem dL_law_688 : decode cL_law 688 = .ok (.iadd, 1) := by decide +kernel
theorem dL_law_689 : decode cL_law 689 = .ok (.iaload, 1) := by decide +kernel
theorem dL_law_690 : decode cL_law 690 = .ok (.aload_n 0, 1) := by decide +kernel
theorem dL_law_691 : decode cL_law 691 = .ok (.iload 4, 2) := by decide +kernel
theorem dL_law_693 : decode cL_law 693 = .ok (.iconst 2, 1) := by decide +kernel
theorem dL_law_694 : decode cL_law 694 = .ok (.iadd, 1) := by decide +kernel
theorem dL_law_695 : decode cL_law 695 = .ok (.iaload, 1) := by decide +kernel
theorem dL_law_696 : decode cL_law 696 = .ok (.invokevirtual 125, 3) := by decide +kernel
theorem dL_law_699 : decode cL_law 699 = .ok (.istore 6, 2) := by decide +kernel
theorem dL_law_701 : decode cL_law 701 = .ok (.aload_n 2, 1) := by decide +kernel
theorem dL_law_702 : decode cL_law 702 = .ok (.invokevirtual 99, 3) := by decide +kernel
theorem dL_law_705 : decode cL_law 705 = .ok (.iload 5, 2) := by decide +kernel
theorem dL_law_707 : decode cL_law 707 = .ok (.if_icmp .eq 5, 3) := by decide +kernel
theorem dL_law_710 : decode cL_law 710 = .ok (.iconst 0, 1) := by decide +kernel
theorem dL_law_711 : decode cL_law 711 = .ok (.ireturn, 1) := by decide +kernel
theorem dL_law_712 : decode cL_law 712 = .ok (.iload 5, 2) := by decide +kernel
theorem dL_law_714 : decode cL_law 714 = .ok (.ifCond .ne 15, 3) := by decide +kernel
theorem dL_law_717 : decode cL_law 717 = .ok (.aload_n 3, 1) := by decide +kernel
theorem dL_law_718 : decode cL_law 718 = .ok (.iconst 0, 1) := by decide +kernel
theorem dL_law_719 : decode cL_law 719 = .ok (.laload, 1) := by decide +kernel
theorem dL_law_720 : decode cL_law 720 = .ok (.iload 6, 2) := by decide +kernel
theorem dL_law_722 : decode cL_law 722 = .ok (.i2l, 1) := by decide +kernel
theorem dL_law_723 : decode cL_law 723 = .ok (.lcmp, 1) := by decide +kernel
theorem dL_law_724 : decode cL_law 724 = .ok (.ifCond .eq 5, 3) := by decide +kernel
theorem dL_law_727 : decode cL_law 727 = .ok (.iconst 0, 1) := by decide +kernel
theorem dL_law_728 : decode cL_law 728 = .ok (.ireturn, 1) := by decide +kernel
theorem dL_law_729 : decode cL_law 729 = .ok (.goto 1057, 3) := by decide +kernel
theorem dL_law_732 : decode cL_law 732 = .ok (.aload_n 1, 1) := by decide +kernel
theorem dL_law_733 : decode cL_law 733 = .ok (.aload_n 0, 1) := by decide +kernel
theorem dL_law_734 : decode cL_law 734 = .ok (.iload 4, 2) := by decide +kernel
theorem dL_law_736 : decode cL_law 736 = .ok (.iconst 1, 1) := by decide +kernel
theorem dL_law_737 : decode cL_law 737 = .ok (.iadd, 1) := by decide +kernel
theorem dL_law_738 : decode cL_law 738 = .ok (.iaload, 1) := by decide +kernel
theorem dL_law_739 : decode cL_law 739 = .ok (.aload_n 3, 1) := by decide +kernel
theorem dL_law_740 : decode cL_law 740 = .ok (.invokestatic 126, 3) := by decide +kernel
theorem dL_law_743 : decode cL_law 743 = .ok (.istore 5, 2) := by decide +kernel
theorem dL_law_745 : decode cL_law 745 = .ok (.aload_n 2, 1) := by decide +kernel
theorem dL_law_746 : decode cL_law 746 = .ok (.aload_n 0, 1) := by decide +kernel
theorem dL_law_747 : decode cL_law 747 = .ok (.iload 4, 2) := by decide +kernel
theorem dL_law_749 : decode cL_law 749 = .ok (.iconst 1, 1) := by decide +kernel
theorem dL_law_750 : decode cL_law 750 = .ok (.iadd, 1) := by decide +kernel
theorem dL_law_751 : decode cL_law 751 = .ok (.iaload, 1) := by decide +kernel
theorem dL_law_752 : decode cL_law 752 = .ok (.invokevirtual 128, 3) := by decide +kernel
theorem dL_law_755 : decode cL_law 755 = .ok (.istore 6, 2) := by decide +kernel
theorem dL_law_757 : decode cL_law 757 = .ok (.aload_n 2, 1) := by decide +kernel
theorem dL_law_758 : decode cL_law 758 = .ok (.invokevirtual 99, 3) := by decide +kernel
theorem dL_law_761 : decode cL_law 761 = .ok (.iload 5, 2) := by decide +kernel
theorem dL_law_763 : decode cL_law 763 = .ok (.if_icmp .eq 5, 3) := by decide +kernel
theorem dL_law_766 : decode cL_law 766 = .ok (.iconst 0, 1) := by decide +kernel
theorem dL_law_767 : decode cL_law 767 = .ok (.ireturn, 1) := by decide +kernel
theorem dL_law_768 : decode cL_law 768 = .ok (.iload 5, 2) := by decide +kernel
theorem dL_law_770 : decode cL_law 770 = .ok (.ifCond .ne 15, 3) := by decide +kernel
theorem dL_law_773 : decode cL_law 773 = .ok (.aload_n 3, 1) := by decide +kernel
theorem dL_law_774 : decode cL_law 774 = .ok (.iconst 0, 1) := by decide +kernel
theorem dL_law_775 : decode cL_law 775 = .ok (.laload, 1) := by decide +kernel
theorem dL_law_776 : decode cL_law 776 = .ok (.iload 6, 2) := by decide +kernel
theorem dL_law_778 : decode cL_law 778 = .ok (.i2l, 1) := by decide +kernel
theorem dL_law_779 : decode cL_law 779 = .ok (.lcmp, 1) := by decide +kernel
theorem dL_law_780 : decode cL_law 780 = .ok (.ifCond .eq 5, 3) := by decide +kernel
theorem dL_law_783 : decode cL_law 783 = .ok (.iconst 0, 1) := by decide +kernel
theorem dL_law_784 : decode cL_law 784 = .ok (.ireturn, 1) := by decide +kernel
theorem dL_law_785 : decode cL_law 785 = .ok (.goto 1001, 3) := by decide +kernel
theorem dL_law_788 : decode cL_law 788 = .ok (.aload_n 1, 1) := by decide +kernel
theorem dL_law_789 : decode cL_law 789 = .ok (.invokevirtual 129, 3) := by decide +kernel
theorem dL_law_792 : decode cL_law 792 = .ok (.aload_n 2, 1) := by decide +kernel
theorem dL_law_793 : decode cL_law 793 = .ok (.invokevirtual 132, 3) := by decide +kernel
theorem dL_law_796 : decode cL_law 796 = .ok (.if_icmp .eq 990, 3) := by decide +kernel
theorem dL_law_799 : decode cL_law 799 = .ok (.iconst 0, 1) := by decide +kernel
theorem dL_law_800 : decode cL_law 800 = .ok (.ireturn, 1) := by decide +kernel
theorem dL_law_801 : decode cL_law 801 = .ok (.aload_n 1, 1) := by decide +kernel
theorem dL_law_802 : decode cL_law 802 = .ok (.invokevirtual 133, 3) := by decide +kernel
theorem dL_law_805 : decode cL_law 805 = .ok (.aload_n 2, 1) := by decide +kernel
theorem dL_law_806 : decode cL_law 806 = .ok (.invokevirtual 136, 3) := by decide +kernel
theorem dL_law_809 : decode cL_law 809 = .ok (.if_icmp .eq 977, 3) := by decide +kernel
theorem dL_law_812 : decode cL_law 812 = .ok (.iconst 0, 1) := by decide +kernel
theorem dL_law_813 : decode cL_law 813 = .ok (.ireturn, 1) := by decide +kernel
theorem dL_law_814 : decode cL_law 814 = .ok (.aload_n 1, 1) := by decide +kernel
theorem dL_law_815 : decode cL_law 815 = .ok (.aload_n 0, 1) := by decide +kernel
theorem dL_law_816 : decode cL_law 816 = .ok (.iload 4, 2) := by decide +kernel
theorem dL_law_818 : decode cL_law 818 = .ok (.iconst 1, 1) := by decide +kernel
theorem dL_law_819 : decode cL_law 819 = .ok (.iadd, 1) := by decide +kernel
theorem dL_law_820 : decode cL_law 820 = .ok (.iaload, 1) := by decide +kernel
theorem dL_law_821 : decode cL_law 821 = .ok (.aload_n 3, 1) := by decide +kernel
theorem dL_law_822 : decode cL_law 822 = .ok (.invokestatic 137, 3) := by decide +kernel
theorem dL_law_825 : decode cL_law 825 = .ok (.istore 5, 2) := by decide +kernel
theorem dL_law_827 : decode cL_law 827 = .ok (.aload_n 2, 1) := by decide +kernel
theorem dL_law_828 : decode cL_law 828 = .ok (.aload_n 0, 1) := by decide +kernel
theorem dL_law_829 : decode cL_law 829 = .ok (.iload 4, 2) := by decide +kernel
theorem dL_law_831 : decode cL_law 831 = .ok (.iconst 1, 1) := by decide +kernel
theorem dL_law_832 : decode cL_law 832 = .ok (.iadd, 1) := by decide +kernel
theorem dL_law_833 : decode cL_law 833 = .ok (.iaload, 1) := by decide +kernel
theorem dL_law_834 : decode cL_law 834 = .ok (.invokevirtual 139, 3) := by decide +kernel
theorem dL_law_837 : decode cL_law 837 = .ok (.istore 6, 2) := by decide +kernel
theorem dL_law_839 : decode cL_law 839 = .ok (.aload_n 2, 1) := by decide +kernel
theorem dL_law_840 : decode cL_law 840 = .ok (.invokevirtual 99, 3) := by decide +kernel
theorem dL_law_843 : decode cL_law 843 = .ok (.iload 5, 2) := by decide +kernel
theorem dL_law_845 : decode cL_law 845 = .ok (.if_icmp .eq 5, 3) := by decide +kernel
theorem dL_law_848 : decode cL_law 848 = .ok (.iconst 0, 1) := by decide +kernel
theorem dL_law_849 : decode cL_law 849 = .ok (.ireturn, 1) := by decide +kernel
theorem dL_law_850 : decode cL_law 850 = .ok (.iload 5, 2) := by decide +kernel
theorem dL_law_852 : decode cL_law 852 = .ok (.ifCond .ne 15, 3) := by decide +kernel
theorem dL_law_855 : decode cL_law 855 = .ok (.aload_n 3, 1) := by decide +kernel
theorem dL_law_856 : decode cL_law 856 = .ok (.iconst 0, 1) := by decide +kernel
theorem dL_law_857 : decode cL_law 857 = .ok (.laload, 1) := by decide +kernel
theorem dL_law_858 : decode cL_law 858 = .ok (.iload 6, 2) := by decide +kernel
theorem dL_law_860 : decode cL_law 860 = .ok (.i2l, 1) := by decide +kernel
theorem dL_law_861 : decode cL_law 861 = .ok (.lcmp, 1) := by decide +kernel
theorem dL_law_862 : decode cL_law 862 = .ok (.ifCond .eq 5, 3) := by decide +kernel
theorem dL_law_865 : decode cL_law 865 = .ok (.iconst 0, 1) := by decide +kernel
theorem dL_law_866 : decode cL_law 866 = .ok (.ireturn, 1) := by decide +kernel
theorem dL_law_867 : decode cL_law 867 = .ok (.goto 919, 3) := by decide +kernel
theorem dL_law_870 : decode cL_law 870 = .ok (.aload_n 1, 1) := by decide +kernel
theorem dL_law_871 : decode cL_law 871 = .ok (.aload_n 0, 1) := by decide +kernel
theorem dL_law_872 : decode cL_law 872 = .ok (.iload 4, 2) := by decide +kernel
theorem dL_law_874 : decode cL_law 874 = .ok (.iconst 1, 1) := by decide +kernel
theorem dL_law_875 : decode cL_law 875 = .ok (.iadd, 1) := by decide +kernel
theorem dL_law_876 : decode cL_law 876 = .ok (.iaload, 1) := by decide +kernel
theorem dL_law_877 : decode cL_law 877 = .ok (.aload_n 3, 1) := by decide +kernel
theorem dL_law_878 : decode cL_law 878 = .ok (.invokestatic 140, 3) := by decide +kernel
theorem dL_law_881 : decode cL_law 881 = .ok (.istore 5, 2) := by decide +kernel
theorem dL_law_883 : decode cL_law 883 = .ok (.aload_n 2, 1) := by decide +kernel
theorem dL_law_884 : decode cL_law 884 = .ok (.aload_n 0, 1) := by decide +kernel
theorem dL_law_885 : decode cL_law 885 = .ok (.iload 4, 2) := by decide +kernel
theorem dL_law_887 : decode cL_law 887 = .ok (.iconst 1, 1) := by decide +kernel
theorem dL_law_888 : decode cL_law 888 = .ok (.iadd, 1) := by decide +kernel
theorem dL_law_889 : decode cL_law 889 = .ok (.iaload, 1) := by decide +kernel
theorem dL_law_890 : decode cL_law 890 = .ok (.invokevirtual 142, 3) := by decide +kernel
theorem dL_law_893 : decode cL_law 893 = .ok (.istore 6, 2) := by decide +kernel
theorem dL_law_895 : decode cL_law 895 = .ok (.aload_n 2, 1) := by decide +kernel
theorem dL_law_896 : decode cL_law 896 = .ok (.invokevirtual 99, 3) := by decide +kernel
theorem dL_law_899 : decode cL_law 899 = .ok (.iload 5, 2) := by decide +kernel
theorem dL_law_901 : decode cL_law 901 = .ok (.if_icmp .eq 5, 3) := by decide +kernel
theorem dL_law_904 : decode cL_law 904 = .ok (.iconst 0, 1) := by decide +kernel
theorem dL_law_905 : decode cL_law 905 = .ok (.ireturn, 1) := by decide +kernel
theorem dL_law_906 : decode cL_law 906 = .ok (.iload 5, 2) := by decide +kernel
theorem dL_law_908 : decode cL_law 908 = .ok (.ifCond .ne 15, 3) := by decide +kernel
theorem dL_law_911 : decode cL_law 911 = .ok (.aload_n 3, 1) := by decide +kernel
theorem dL_law_912 : decode cL_law 912 = .ok (.iconst 0, 1) := by decide +kernel
theorem dL_law_913 : decode cL_law 913 = .ok (.laload, 1) := by decide +kernel
theorem dL_law_914 : decode cL_law 914 = .ok (.iload 6, 2) := by decide +kernel
theorem dL_law_916 : decode cL_law 916 = .ok (.i2l, 1) := by decide +kernel
theorem dL_law_917 : decode cL_law 917 = .ok (.lcmp, 1) := by decide +kernel
theorem dL_law_918 : decode cL_law 918 = .ok (.ifCond .eq 5, 3) := by decide +kernel
theorem dL_law_921 : decode cL_law 921 = .ok (.iconst 0, 1) := by decide +kernel
theorem dL_law_922 : decode cL_law 922 = .ok (.ireturn, 1) := by decide +kernel
theorem dL_law_923 : decode cL_law 923 = .ok (.goto 863, 3) := by decide +kernel
theorem dL_law_926 : decode cL_law 926 = .ok (.aload_n 1, 1) := by decide +kernel
theorem dL_law_927 : decode cL_law 927 = .ok (.aload_n 0, 1) := by decide +kernel
theorem dL_law_928 : decode cL_law 928 = .ok (.iload 4, 2) := by decide +kernel
theorem dL_law_930 : decode cL_law 930 = .ok (.iconst 1, 1) := by decide +kernel
theorem dL_law_931 : decode cL_law 931 = .ok (.iadd, 1) := by decide +kernel
theorem dL_law_932 : decode cL_law 932 = .ok (.iaload, 1) := by decide +kernel
theorem dL_law_933 : decode cL_law 933 = .ok (.aload_n 3, 1) := by decide +kernel
theorem dL_law_934 : decode cL_law 934 = .ok (.invokestatic 143, 3) := by decide +kernel
theorem dL_law_937 : decode cL_law 937 = .ok (.istore 5, 2) := by decide +kernel
theorem dL_law_939 : decode cL_law 939 = .ok (.aload_n 2, 1) := by decide +kernel
theorem dL_law_940 : decode cL_law 940 = .ok (.aload_n 0, 1) := by decide +kernel
theorem dL_law_941 : decode cL_law 941 = .ok (.iload 4, 2) := by decide +kernel
theorem dL_law_943 : decode cL_law 943 = .ok (.iconst 1, 1) := by decide +kernel
theorem dL_law_944 : decode cL_law 944 = .ok (.iadd, 1) := by decide +kernel
theorem dL_law_945 : decode cL_law 945 = .ok (.iaload, 1) := by decide +kernel
theorem dL_law_946 : decode cL_law 946 = .ok (.invokevirtual 145, 3) := by decide +kernel
theorem dL_law_949 : decode cL_law 949 = .ok (.istore 6, 2) := by decide +kernel
theorem dL_law_951 : decode cL_law 951 = .ok (.aload_n 2, 1) := by decide +kernel
theorem dL_law_952 : decode cL_law 952 = .ok (.invokevirtual 99, 3) := by decide +kernel
theorem dL_law_955 : decode cL_law 955 = .ok (.iload 5, 2) := by decide +kernel
theorem dL_law_957 : decode cL_law 957 = .ok (.if_icmp .eq 5, 3) := by decide +kernel
theorem dL_law_960 : decode cL_law 960 = .ok (.iconst 0, 1) := by decide +kernel
theorem dL_law_961 : decode cL_law 961 = .ok (.ireturn, 1) := by decide +kernel
theorem dL_law_962 : decode cL_law 962 = .ok (.iload 5, 2) := by decide +kernel
theorem dL_law_964 : decode cL_law 964 = .ok (.ifCond .ne 15, 3) := by decide +kernel
theorem dL_law_967 : decode cL_law 967 = .ok (.aload_n 3, 1) := by decide +kernel
theorem dL_law_968 : decode cL_law 968 = .ok (.iconst 0, 1) := by decide +kernel
theorem dL_law_969 : decode cL_law 969 = .ok (.laload, 1) := by decide +kernel
theorem dL_law_970 : decode cL_law 970 = .ok (.iload 6, 2) := by decide +kernel
theorem dL_law_972 : decode cL_law 972 = .ok (.i2l, 1) := by decide +kernel
theorem dL_law_973 : decode cL_law 973 = .ok (.lcmp, 1) := by decide +kernel
theorem dL_law_974 : decode cL_law 974 = .ok (.ifCond .eq 5, 3) := by decide +kernel
theorem dL_law_977 : decode cL_law 977 = .ok (.iconst 0, 1) := by decide +kernel
theorem dL_law_978 : decode cL_law 978 = .ok (.ireturn, 1) := by decide +kernel
theorem dL_law_979 : decode cL_law 979 = .ok (.goto 807, 3) := by decide +kernel
theorem dL_law_982 : decode cL_law 982 = .ok (.aload_n 1, 1) := by decide +kernel
theorem dL_law_983 : decode cL_law 983 = .ok (.aload_n 0, 1) := by decide +kernel
theorem dL_law_984 : decode cL_law 984 = .ok (.iload 4, 2) := by decide +kernel
theorem dL_law_986 : decode cL_law 986 = .ok (.iconst 1, 1) := by decide +kernel
theorem dL_law_987 : decode cL_law 987 = .ok (.iadd, 1) := by decide +kernel
theorem dL_law_988 : decode cL_law 988 = .ok (.iaload, 1) := by decide +kernel
theorem dL_law_989 : decode cL_law 989 = .ok (.aload_n 3, 1) := by decide +kernel
theorem dL_law_990 : decode cL_law 990 = .ok (.invokestatic 146, 3) := by decide +kernel
theorem dL_law_993 : decode cL_law 993 = .ok (.istore 5, 2) := by decide +kernel
theorem dL_law_995 : decode cL_law 995 = .ok (.aload_n 2, 1) := by decide +kernel
theorem dL_law_996 : decode cL_law 996 = .ok (.aload_n 0, 1) := by decide +kernel
theorem dL_law_997 : decode cL_law 997 = .ok (.iload 4, 2) := by decide +kernel
theorem dL_law_999 : decode cL_law 999 = .ok (.iconst 1, 1) := by decide +kernel
theorem dL_law_1000 : decode cL_law 1000 = .ok (.iadd, 1) := by decide +kernel
theorem dL_law_1001 : decode cL_law 1001 = .ok (.iaload, 1) := by decide +kernel
theorem dL_law_1002 : decode cL_law 1002 = .ok (.invokevirtual 148, 3) := by decide +kernel
theorem dL_law_1005 : decode cL_law 1005 = .ok (.istore 6, 2) := by decide +kernel
theorem dL_law_1007 : decode cL_law 1007 = .ok (.aload_n 2, 1) := by decide +kernel
theorem dL_law_1008 : decode cL_law 1008 = .ok (.invokevirtual 99, 3) := by decide +kernel
theorem dL_law_1011 : decode cL_law 1011 = .ok (.iload 5, 2) := by decide +kernel
theorem dL_law_1013 : decode cL_law 1013 = .ok (.if_icmp .eq 5, 3) := by decide +kernel
theorem dL_law_1016 : decode cL_law 1016 = .ok (.iconst 0, 1) := by decide +kernel
theorem dL_law_1017 : decode cL_law 1017 = .ok (.ireturn, 1) := by decide +kernel
theorem dL_law_1018 : decode cL_law 1018 = .ok (.iload 5, 2) := by decide +kernel
theorem dL_law_1020 : decode cL_law 1020 = .ok (.ifCond .ne 15, 3) := by decide +kernel
theorem dL_law_1023 : decode cL_law 1023 = .ok (.aload_n 3, 1) := by decide +kernel
theorem dL_law_1024 : decode cL_law 1024 = .ok (.iconst 0, 1) := by decide +kernel
theorem dL_law_1025 : decode cL_law 1025 = .ok (.laload, 1) := by decide +kernel
theorem dL_law_1026 : decode cL_law 1026 = .ok (.iload 6, 2) := by decide +kernel
theorem dL_law_1028 : decode cL_law 1028 = .ok (.i2l, 1) := by decide +kernel
theorem dL_law_1029 : decode cL_law 1029 = .ok (.lcmp, 1) := by decide +kernel
theorem dL_law_1030 : decode cL_law 1030 = .ok (.ifCond .eq 5, 3) := by decide +kernel
theorem dL_law_1033 : decode cL_law 1033 = .ok (.iconst 0, 1) := by decide +kernel
theorem dL_law_1034 : decode cL_law 1034 = .ok (.ireturn, 1) := by decide +kernel
theorem dL_law_1035 : decode cL_law 1035 = .ok (.goto 751, 3) := by decide +kernel
theorem dL_law_1038 : decode cL_law 1038 = .ok (.aload_n 1, 1) := by decide +kernel
theorem dL_law_1039 : decode cL_law 1039 = .ok (.aload_n 3, 1) := by decide +kernel
theorem dL_law_1040 : decode cL_law 1040 = .ok (.invokestatic 149, 3) := by decide +kernel
theorem dL_law_1043 : decode cL_law 1043 = .ok (.istore 5, 2) := by decide +kernel
theorem dL_law_1045 : decode cL_law 1045 = .ok (.aload_n 2, 1) := by decide +kernel
theorem dL_law_1046 : decode cL_law 1046 = .ok (.invokevirtual 152, 3) := by decide +kernel
theorem dL_law_1049 : decode cL_law 1049 = .ok (.istore 6, 2) := by decide +kernel
theorem dL_law_1051 : decode cL_law 1051 = .ok (.aload_n 2, 1) := by decide +kernel
theorem dL_law_1052 : decode cL_law 1052 = .ok (.invokevirtual 99, 3) := by decide +kernel
theorem dL_law_1055 : decode cL_law 1055 = .ok (.iload 5, 2) := by decide +kernel
theorem dL_law_1057 : decode cL_law 1057 = .ok (.if_icmp .eq 5, 3) := by decide +kernel
theorem dL_law_1060 : decode cL_law 1060 = .ok (.iconst 0, 1) := by decide +kernel
theorem dL_law_1061 : decode cL_law 1061 = .ok (.ireturn, 1) := by decide +kernel
theorem dL_law_1062 : decode cL_law 1062 = .ok (.iload 5, 2) := by decide +kernel
theorem dL_law_1064 : decode cL_law 1064 = .ok (.ifCond .ne 15, 3) := by decide +kernel
theorem dL_law_1067 : decode cL_law 1067 = .ok (.aload_n 3, 1) := by decide +kernel
theorem dL_law_1068 : decode cL_law 1068 = .ok (.iconst 0, 1) := by decide +kernel
theorem dL_law_1069 : decode cL_law 1069 = .ok (.laload, 1) := by decide +kernel
theorem dL_law_1070 : decode cL_law 1070 = .ok (.iload 6, 2) := by decide +kernel
theorem dL_law_1072 : decode cL_law 1072 = .ok (.i2l, 1) := by decide +kernel
theorem dL_law_1073 : decode cL_law 1073 = .ok (.lcmp, 1) := by decide +kernel
theorem dL_law_1074 : decode cL_law 1074 = .ok (.ifCond .eq 5, 3) := by decide +kernel
theorem dL_law_1077 : decode cL_law 1077 = .ok (.iconst 0, 1) := by decide +kernel
theorem dL_law_1078 : decode cL_law 1078 = .ok (.ireturn, 1) := by decide +kernel
theorem dL_law_1079 : decode cL_law 1079 = .ok (.goto 707, 3) := by decide +kernel
theorem dL_law_1082 : decode cL_law 1082 = .ok (.aload_n 1, 1) := by decide +kernel
theorem dL_law_1083 : decode cL_law 1083 = .ok (.aload_n 0, 1) := by decide +kernel
theorem dL_law_1084 : decode cL_law 1084 = .ok (.iload 4, 2) := by decide +kernel
theorem dL_law_1086 : decode cL_law 1086 = .ok (.iconst 1, 1) := by decide +kernel
theorem dL_law_1087 : decode cL_law 1087 = .ok (.iadd, 1) := by decide +kernel
theorem dL_law_1088 : decode cL_law 1088 = .ok (.iaload, 1) := by decide +kernel
theorem dL_law_1089 : decode cL_law 1089 = .ok (.aload_n 0, 1) := by decide +kernel
theorem dL_law_1090 : decode cL_law 1090 = .ok (.iload 4, 2) := by decide +kernel
theorem dL_law_1092 : decode cL_law 1092 = .ok (.iconst 2, 1) := by decide +kernel
theorem dL_law_1093 : decode cL_law 1093 = .ok (.iadd, 1) := by decide +kernel
theorem dL_law_1094 : decode cL_law 1094 = .ok (.iaload, 1) := by decide +kernel
theorem dL_law_1095 : decode cL_law 1095 = .ok (.aload_n 3, 1) := by decide +kernel
theorem dL_law_1096 : decode cL_law 1096 = .ok (.invokestatic 153, 3) := by decide +kernel
theorem dL_law_1099 : decode cL_law 1099 = .ok (.istore 5, 2) := by decide +kernel
theorem dL_law_1101 : decode cL_law 1101 = .ok (.aload_n 2, 1) := by decide +kernel
theorem dL_law_1102 : decode cL_law 1102 = .ok (.aload_n 0, 1) := by decide +kernel
theorem dL_law_1103 : decode cL_law 1103 = .ok (.iload 4, 2) := by decide +kernel
theorem dL_law_1105 : decode cL_law 1105 = .ok (.iconst 1, 1) := by decide +kernel
theorem dL_law_1106 : decode cL_law 1106 = .ok (.iadd, 1) := by decide +kernel
theorem dL_law_1107 : decode cL_law 1107 = .ok (.iaload, 1) := by decide +kernel
theorem dL_law_1108 : decode cL_law 1108 = .ok (.aload_n 0, 1) := by decide +kernel
theorem dL_law_1109 : decode cL_law 1109 = .ok (.iload 4, 2) := by decide +kernel
theorem dL_law_1111 : decode cL_law 1111 = .ok (.iconst 2, 1) := by decide +kernel
theorem dL_law_1112 : decode cL_law 1112 = .ok (.iadd, 1) := by decide +kernel
theorem dL_law_1113 : decode cL_law 1113 = .ok (.iaload, 1) := by decide +kernel
theorem dL_law_1114 : decode cL_law 1114 = .ok (.invokevirtual 155, 3) := by decide +kernel
theorem dL_law_1117 : decode cL_law 1117 = .ok (.istore 6, 2) := by decide +kernel
theorem dL_law_1119 : decode cL_law 1119 = .ok (.aload_n 2, 1) := by decide +kernel
theorem dL_law_1120 : decode cL_law 1120 = .ok (.invokevirtual 99, 3) := by decide +kernel
theorem dL_law_1123 : decode cL_law 1123 = .ok (.iload 5, 2) := by decide +kernel
theorem dL_law_1125 : decode cL_law 1125 = .ok (.if_icmp .eq 5, 3) := by decide +kernel
theorem dL_law_1128 : decode cL_law 1128 = .ok (.iconst 0, 1) := by decide +kernel
theorem dL_law_1129 : decode cL_law 1129 = .ok (.ireturn, 1) := by decide +kernel
theorem dL_law_1130 : decode cL_law 1130 = .ok (.iload 5, 2) := by decide +kernel
theorem dL_law_1132 : decode cL_law 1132 = .ok (.ifCond .ne 15, 3) := by decide +kernel
theorem dL_law_1135 : decode cL_law 1135 = .ok (.aload_n 3, 1) := by decide +kernel
theorem dL_law_1136 : decode cL_law 1136 = .ok (.iconst 0, 1) := by decide +kernel
theorem dL_law_1137 : decode cL_law 1137 = .ok (.laload, 1) := by decide +kernel
theorem dL_law_1138 : decode cL_law 1138 = .ok (.iload 6, 2) := by decide +kernel
theorem dL_law_1140 : decode cL_law 1140 = .ok (.i2l, 1) := by decide +kernel
theorem dL_law_1141 : decode cL_law 1141 = .ok (.lcmp, 1) := by decide +kernel
theorem dL_law_1142 : decode cL_law 1142 = .ok (.ifCond .eq 5, 3) := by decide +kernel
theorem dL_law_1145 : decode cL_law 1145 = .ok (.iconst 0, 1) := by decide +kernel
theorem dL_law_1146 : decode cL_law 1146 = .ok (.ireturn, 1) := by decide +kernel
theorem dL_law_1147 : decode cL_law 1147 = .ok (.goto 639, 3) := by decide +kernel
theorem dL_law_1150 : decode cL_law 1150 = .ok (.aload_n 1, 1) := by decide +kernel
theorem dL_law_1151 : decode cL_law 1151 = .ok (.aload_n 0, 1) := by decide +kernel
theorem dL_law_1152 : decode cL_law 1152 = .ok (.iload 4, 2) := by decide +kernel
theorem dL_law_1154 : decode cL_law 1154 = .ok (.iconst 1, 1) := by decide +kernel
theorem dL_law_1155 : decode cL_law 1155 = .ok (.iadd, 1) := by decide +kernel
theorem dL_law_1156 : decode cL_law 1156 = .ok (.iaload, 1) := by decide +kernel
theorem dL_law_1157 : decode cL_law 1157 = .ok (.aload_n 0, 1) := by decide +kernel
theorem dL_law_1158 : decode cL_law 1158 = .ok (.iload 4, 2) := by decide +kernel
theorem dL_law_1160 : decode cL_law 1160 = .ok (.iconst 2, 1) := by decide +kernel
theorem dL_law_1161 : decode cL_law 1161 = .ok (.iadd, 1) := by decide +kernel
theorem dL_law_1162 : decode cL_law 1162 = .ok (.iaload, 1) := by decide +kernel
theorem dL_law_1163 : decode cL_law 1163 = .ok (.aload_n 0, 1) := by decide +kernel
theorem dL_law_1164 : decode cL_law 1164 = .ok (.iload 4, 2) := by decide +kernel
theorem dL_law_1166 : decode cL_law 1166 = .ok (.iconst 3, 1) := by decide +kernel
theorem dL_law_1167 : decode cL_law 1167 = .ok (.iadd, 1) := by decide +kernel
theorem dL_law_1168 : decode cL_law 1168 = .ok (.iaload, 1) := by decide +kernel
theorem dL_law_1169 : decode cL_law 1169 = .ok (.aload_n 3, 1) := by decide +kernel
theorem dL_law_1170 : decode cL_law 1170 = .ok (.invokestatic 156, 3) := by decide +kernel
theorem dL_law_1173 : decode cL_law 1173 = .ok (.istore 5, 2) := by decide +kernel
theorem dL_law_1175 : decode cL_law 1175 = .ok (.aload_n 2, 1) := by decide +kernel
theorem dL_law_1176 : decode cL_law 1176 = .ok (.aload_n 0, 1) := by decide +kernel
theorem dL_law_1177 : decode cL_law 1177 = .ok (.iload 4, 2) := by decide +kernel
theorem dL_law_1179 : decode cL_law 1179 = .ok (.iconst 1, 1) := by decide +kernel
theorem dL_law_1180 : decode cL_law 1180 = .ok (.iadd, 1) := by decide +kernel
theorem dL_law_1181 : decode cL_law 1181 = .ok (.iaload, 1) := by decide +kernel
theorem dL_law_1182 : decode cL_law 1182 = .ok (.aload_n 0, 1) := by decide +kernel
theorem dL_law_1183 : decode cL_law 1183 = .ok (.iload 4, 2) := by decide +kernel
theorem dL_law_1185 : decode cL_law 1185 = .ok (.iconst 2, 1) := by decide +kernel
theorem dL_law_1186 : decode cL_law 1186 = .ok (.iadd, 1) := by decide +kernel
theorem dL_law_1187 : decode cL_law 1187 = .ok (.iaload, 1) := by decide +kernel
theorem dL_law_1188 : decode cL_law 1188 = .ok (.aload_n 0, 1) := by decide +kernel
theorem dL_law_1189 : decode cL_law 1189 = .ok (.iload 4, 2) := by decide +kernel
theorem dL_law_1191 : decode cL_law 1191 = .ok (.iconst 3, 1) := by decide +kernel
theorem dL_law_1192 : decode cL_law 1192 = .ok (.iadd, 1) := by decide +kernel
theorem dL_law_1193 : decode cL_law 1193 = .ok (.iaload, 1) := by decide +kernel
theorem dL_law_1194 : decode cL_law 1194 = .ok (.invokevirtual 158, 3) := by decide +kernel
theorem dL_law_1197 : decode cL_law 1197 = .ok (.istore 6, 2) := by decide +kernel
theorem dL_law_1199 : decode cL_law 1199 = .ok (.aload_n 2, 1) := by decide +kernel
theorem dL_law_1200 : decode cL_law 1200 = .ok (.invokevirtual 99, 3) := by decide +kernel
theorem dL_law_1203 : decode cL_law 1203 = .ok (.iload 5, 2) := by decide +kernel
theorem dL_law_1205 : decode cL_law 1205 = .ok (.if_icmp .eq 5, 3) := by decide +kernel
theorem dL_law_1208 : decode cL_law 1208 = .ok (.iconst 0, 1) := by decide +kernel
theorem dL_law_1209 : decode cL_law 1209 = .ok (.ireturn, 1) := by decide +kernel
theorem dL_law_1210 : decode cL_law 1210 = .ok (.iload 5, 2) := by decide +kernel
theorem dL_law_1212 : decode cL_law 1212 = .ok (.ifCond .ne 15, 3) := by decide +kernel
theorem dL_law_1215 : decode cL_law 1215 = .ok (.aload_n 3, 1) := by decide +kernel
theorem dL_law_1216 : decode cL_law 1216 = .ok (.iconst 0, 1) := by decide +kernel
theorem dL_law_1217 : decode cL_law 1217 = .ok (.laload, 1) := by decide +kernel
theorem dL_law_1218 : decode cL_law 1218 = .ok (.iload 6, 2) := by decide +kernel
theorem dL_law_1220 : decode cL_law 1220 = .ok (.i2l, 1) := by decide +kernel
theorem dL_law_1221 : decode cL_law 1221 = .ok (.lcmp, 1) := by decide +kernel
theorem dL_law_1222 : decode cL_law 1222 = .ok (.ifCond .eq 5, 3) := by decide +kernel
theorem dL_law_1225 : decode cL_law 1225 = .ok (.iconst 0, 1) := by decide +kernel
theorem dL_law_1226 : decode cL_law 1226 = .ok (.ireturn, 1) := by decide +kernel
theorem dL_law_1227 : decode cL_law 1227 = .ok (.goto 559, 3) := by decide +kernel
theorem dL_law_1230 : decode cL_law 1230 = .ok (.aload_n 1, 1) := by decide +kernel
theorem dL_law_1231 : decode cL_law 1231 = .ok (.aload_n 0, 1) := by decide +kernel
theorem dL_law_1232 : decode cL_law 1232 = .ok (.iload 4, 2) := by decide +kernel
theorem dL_law_1234 : decode cL_law 1234 = .ok (.iconst 1, 1) := by decide +kernel
theorem dL_law_1235 : decode cL_law 1235 = .ok (.iadd, 1) := by decide +kernel
theorem dL_law_1236 : decode cL_law 1236 = .ok (.iaload, 1) := by decide +kernel
theorem dL_law_1237 : decode cL_law 1237 = .ok (.aload_n 0, 1) := by decide +kernel
theorem dL_law_1238 : decode cL_law 1238 = .ok (.iload 4, 2) := by decide +kernel
theorem dL_law_1240 : decode cL_law 1240 = .ok (.iconst 2, 1) := by decide +kernel
theorem dL_law_1241 : decode cL_law 1241 = .ok (.iadd, 1) := by decide +kernel
theorem dL_law_1242 : decode cL_law 1242 = .ok (.iaload, 1) := by decide +kernel
theorem dL_law_1243 : decode cL_law 1243 = .ok (.aload_n 0, 1) := by decide +kernel
theorem dL_law_1244 : decode cL_law 1244 = .ok (.iload 4, 2) := by decide +kernel
theorem dL_law_1246 : decode cL_law 1246 = .ok (.iconst 3, 1) := by decide +kernel
theorem dL_law_1247 : decode cL_law 1247 = .ok (.iadd, 1) := by decide +kernel
theorem dL_law_1248 : decode cL_law 1248 = .ok (.iaload, 1) := by decide +kernel
theorem dL_law_1249 : decode cL_law 1249 = .ok (.aload_n 3, 1) := by decide +kernel
theorem dL_law_1250 : decode cL_law 1250 = .ok (.invokestatic 159, 3) := by decide +kernel
theorem dL_law_1253 : decode cL_law 1253 = .ok (.istore 5, 2) := by decide +kernel
theorem dL_law_1255 : decode cL_law 1255 = .ok (.aload_n 2, 1) := by decide +kernel
theorem dL_law_1256 : decode cL_law 1256 = .ok (.aload_n 0, 1) := by decide +kernel
theorem dL_law_1257 : decode cL_law 1257 = .ok (.iload 4, 2) := by decide +kernel
theorem dL_law_1259 : decode cL_law 1259 = .ok (.iconst 1, 1) := by decide +kernel
theorem dL_law_1260 : decode cL_law 1260 = .ok (.iadd, 1) := by decide +kernel
theorem dL_law_1261 : decode cL_law 1261 = .ok (.iaload, 1) := by decide +kernel
theorem dL_law_1262 : decode cL_law 1262 = .ok (.aload_n 0, 1) := by decide +kernel
theorem dL_law_1263 : decode cL_law 1263 = .ok (.iload 4, 2) := by decide +kernel
theorem dL_law_1265 : decode cL_law 1265 = .ok (.iconst 2, 1) := by decide +kernel
theorem dL_law_1266 : decode cL_law 1266 = .ok (.iadd, 1) := by decide +kernel
theorem dL_law_1267 : decode cL_law 1267 = .ok (.iaload, 1) := by decide +kernel
theorem dL_law_1268 : decode cL_law 1268 = .ok (.aload_n 0, 1) := by decide +kernel
theorem dL_law_1269 : decode cL_law 1269 = .ok (.iload 4, 2) := by decide +kernel
theorem dL_law_1271 : decode cL_law 1271 = .ok (.iconst 3, 1) := by decide +kernel
theorem dL_law_1272 : decode cL_law 1272 = .ok (.iadd, 1) := by decide +kernel
theorem dL_law_1273 : decode cL_law 1273 = .ok (.iaload, 1) := by decide +kernel
theorem dL_law_1274 : decode cL_law 1274 = .ok (.invokevirtual 161, 3) := by decide +kernel
theorem dL_law_1277 : decode cL_law 1277 = .ok (.istore 6, 2) := by decide +kernel
theorem dL_law_1279 : decode cL_law 1279 = .ok (.aload_n 2, 1) := by decide +kernel
theorem dL_law_1280 : decode cL_law 1280 = .ok (.invokevirtual 99, 3) := by decide +kernel
theorem dL_law_1283 : decode cL_law 1283 = .ok (.iload 5, 2) := by decide +kernel
theorem dL_law_1285 : decode cL_law 1285 = .ok (.if_icmp .eq 5, 3) := by decide +kernel
theorem dL_law_1288 : decode cL_law 1288 = .ok (.iconst 0, 1) := by decide +kernel
theorem dL_law_1289 : decode cL_law 1289 = .ok (.ireturn, 1) := by decide +kernel
theorem dL_law_1290 : decode cL_law 1290 = .ok (.iload 5, 2) := by decide +kernel
theorem dL_law_1292 : decode cL_law 1292 = .ok (.ifCond .ne 15, 3) := by decide +kernel
theorem dL_law_1295 : decode cL_law 1295 = .ok (.aload_n 3, 1) := by decide +kernel
theorem dL_law_1296 : decode cL_law 1296 = .ok (.iconst 0, 1) := by decide +kernel
theorem dL_law_1297 : decode cL_law 1297 = .ok (.laload, 1) := by decide +kernel
theorem dL_law_1298 : decode cL_law 1298 = .ok (.iload 6, 2) := by decide +kernel
theorem dL_law_1300 : decode cL_law 1300 = .ok (.i2l, 1) := by decide +kernel
theorem dL_law_1301 : decode cL_law 1301 = .ok (.lcmp, 1) := by decide +kernel
theorem dL_law_1302 : decode cL_law 1302 = .ok (.ifCond .eq 5, 3) := by decide +kernel
theorem dL_law_1305 : decode cL_law 1305 = .ok (.iconst 0, 1) := by decide +kernel
theorem dL_law_1306 : decode cL_law 1306 = .ok (.ireturn, 1) := by decide +kernel
theorem dL_law_1307 : decode cL_law 1307 = .ok (.goto 479, 3) := by decide +kernel
theorem dL_law_1310 : decode cL_law 1310 = .ok (.aload_n 1, 1) := by decide +kernel
theorem dL_law_1311 : decode cL_law 1311 = .ok (.aload_n 0, 1) := by decide +kernel
theorem dL_law_1312 : decode cL_law 1312 = .ok (.iload 4, 2) := by decide +kernel
theorem dL_law_1314 : decode cL_law 1314 = .ok (.iconst 1, 1) := by decide +kernel
theorem dL_law_1315 : decode cL_law 1315 = .ok (.iadd, 1) := by decide +kernel
theorem dL_law_1316 : decode cL_law 1316 = .ok (.iaload, 1) := by decide +kernel
theorem dL_law_1317 : decode cL_law 1317 = .ok (.aload_n 0, 1) := by decide +kernel
theorem dL_law_1318 : decode cL_law 1318 = .ok (.iload 4, 2) := by decide +kernel
theorem dL_law_1320 : decode cL_law 1320 = .ok (.iconst 2, 1) := by decide +kernel
theorem dL_law_1321 : decode cL_law 1321 = .ok (.iadd, 1) := by decide +kernel
theorem dL_law_1322 : decode cL_law 1322 = .ok (.iaload, 1) := by decide +kernel
theorem dL_law_1323 : decode cL_law 1323 = .ok (.aload_n 3, 1) := by decide +kernel
theorem dL_law_1324 : decode cL_law 1324 = .ok (.invokestatic 162, 3) := by decide +kernel
theorem dL_law_1327 : decode cL_law 1327 = .ok (.istore 5, 2) := by decide +kernel
theorem dL_law_1329 : decode cL_law 1329 = .ok (.aload_n 2, 1) := by decide +kernel
theorem dL_law_1330 : decode cL_law 1330 = .ok (.aload_n 0, 1) := by decide +kernel
theorem dL_law_1331 : decode cL_law 1331 = .ok (.iload 4, 2) := by decide +kernel
theorem dL_law_1333 : decode cL_law 1333 = .ok (.iconst 1, 1) := by decide +kernel
theorem dL_law_1334 : decode cL_law 1334 = .ok (.iadd, 1) := by decide +kernel
theorem dL_law_1335 : decode cL_law 1335 = .ok (.iaload, 1) := by decide +kernel
theorem dL_law_1336 : decode cL_law 1336 = .ok (.aload_n 0, 1) := by decide +kernel
theorem dL_law_1337 : decode cL_law 1337 = .ok (.iload 4, 2) := by decide +kernel
theorem dL_law_1339 : decode cL_law 1339 = .ok (.iconst 2, 1) := by decide +kernel
theorem dL_law_1340 : decode cL_law 1340 = .ok (.iadd, 1) := by decide +kernel
theorem dL_law_1341 : decode cL_law 1341 = .ok (.iaload, 1) := by decide +kernel
theorem dL_law_1342 : decode cL_law 1342 = .ok (.invokevirtual 164, 3) := by decide +kernel
theorem dL_law_1345 : decode cL_law 1345 = .ok (.istore 6, 2) := by decide +kernel
theorem dL_law_1347 : decode cL_law 1347 = .ok (.aload_n 2, 1) := by decide +kernel
theorem dL_law_1348 : decode cL_law 1348 = .ok (.invokevirtual 99, 3) := by decide +kernel
theorem dL_law_1351 : decode cL_law 1351 = .ok (.iload 5, 2) := by decide +kernel
theorem dL_law_1353 : decode cL_law 1353 = .ok (.if_icmp .eq 5, 3) := by decide +kernel
theorem dL_law_1356 : decode cL_law 1356 = .ok (.iconst 0, 1) := by decide +kernel
theorem dL_law_1357 : decode cL_law 1357 = .ok (.ireturn, 1) := by decide +kernel
theorem dL_law_1358 : decode cL_law 1358 = .ok (.iload 5, 2) := by decide +kernel
theorem dL_law_1360 : decode cL_law 1360 = .ok (.ifCond .ne 15, 3) := by decide +kernel
theorem dL_law_1363 : decode cL_law 1363 = .ok (.aload_n 3, 1) := by decide +kernel
theorem dL_law_1364 : decode cL_law 1364 = .ok (.iconst 0, 1) := by decide +kernel
theorem dL_law_1365 : decode cL_law 1365 = .ok (.laload, 1) := by decide +kernel
theorem dL_law_1366 : decode cL_law 1366 = .ok (.iload 6, 2) := by decide +kernel
theorem dL_law_1368 : decode cL_law 1368 = .ok (.i2l, 1) := by decide +kernel
theorem dL_law_1369 : decode cL_law 1369 = .ok (.lcmp, 1) := by decide +kernel
theorem dL_law_1370 : decode cL_law 1370 = .ok (.ifCond .eq 5, 3) := by decide +kernel
theorem dL_law_1373 : decode cL_law 1373 = .ok (.iconst 0, 1) := by decide +kernel
theorem dL_law_1374 : decode cL_law 1374 = .ok (.ireturn, 1) := by decide +kernel
theorem dL_law_1375 : decode cL_law 1375 = .ok (.goto 411, 3) := by decide +kernel
theorem dL_law_1378 : decode cL_law 1378 = .ok (.aload_n 1, 1) := by decide +kernel
theorem dL_law_1379 : decode cL_law 1379 = .ok (.aload_n 0, 1) := by decide +kernel
theorem dL_law_1380 : decode cL_law 1380 = .ok (.iload 4, 2) := by decide +kernel
theorem dL_law_1382 : decode cL_law 1382 = .ok (.iconst 1, 1) := by decide +kernel
theorem dL_law_1383 : decode cL_law 1383 = .ok (.iadd, 1) := by decide +kernel
theorem dL_law_1384 : decode cL_law 1384 = .ok (.iaload, 1) := by decide +kernel
theorem dL_law_1385 : decode cL_law 1385 = .ok (.aload_n 3, 1) := by decide +kernel
theorem dL_law_1386 : decode cL_law 1386 = .ok (.invokestatic 165, 3) := by decide +kernel
theorem dL_law_1389 : decode cL_law 1389 = .ok (.istore 5, 2) := by decide +kernel
theorem dL_law_1391 : decode cL_law 1391 = .ok (.aload_n 2, 1) := by decide +kernel
theorem dL_law_1392 : decode cL_law 1392 = .ok (.aload_n 0, 1) := by decide +kernel
theorem dL_law_1393 : decode cL_law 1393 = .ok (.iload 4, 2) := by decide +kernel
theorem dL_law_1395 : decode cL_law 1395 = .ok (.iconst 1, 1) := by decide +kernel
theorem dL_law_1396 : decode cL_law 1396 = .ok (.iadd, 1) := by decide +kernel
theorem dL_law_1397 : decode cL_law 1397 = .ok (.iaload, 1) := by decide +kernel
theorem dL_law_1398 : decode cL_law 1398 = .ok (.invokevirtual 167, 3) := by decide +kernel
theorem dL_law_1401 : decode cL_law 1401 = .ok (.istore 6, 2) := by decide +kernel
theorem dL_law_1403 : decode cL_law 1403 = .ok (.aload_n 2, 1) := by decide +kernel
theorem dL_law_1404 : decode cL_law 1404 = .ok (.invokevirtual 99, 3) := by decide +kernel
theorem dL_law_1407 : decode cL_law 1407 = .ok (.iload 5, 2) := by decide +kernel
theorem dL_law_1409 : decode cL_law 1409 = .ok (.if_icmp .eq 5, 3) := by decide +kernel
theorem dL_law_1412 : decode cL_law 1412 = .ok (.iconst 0, 1) := by decide +kernel
theorem dL_law_1413 : decode cL_law 1413 = .ok (.ireturn, 1) := by decide +kernel
theorem dL_law_1414 : decode cL_law 1414 = .ok (.iload 5, 2) := by decide +kernel
theorem dL_law_1416 : decode cL_law 1416 = .ok (.ifCond .ne 15, 3) := by decide +kernel
theorem dL_law_1419 : decode cL_law 1419 = .ok (.aload_n 3, 1) := by decide +kernel
theorem dL_law_1420 : decode cL_law 1420 = .ok (.iconst 0, 1) := by decide +kernel
theorem dL_law_1421 : decode cL_law 1421 = .ok (.laload, 1) := by decide +kernel
theorem dL_law_1422 : decode cL_law 1422 = .ok (.iload 6, 2) := by decide +kernel
theorem dL_law_1424 : decode cL_law 1424 = .ok (.i2l, 1) := by decide +kernel
theorem dL_law_1425 : decode cL_law 1425 = .ok (.lcmp, 1) := by decide +kernel
theorem dL_law_1426 : decode cL_law 1426 = .ok (.ifCond .eq 5, 3) := by decide +kernel
theorem dL_law_1429 : decode cL_law 1429 = .ok (.iconst 0, 1) := by decide +kernel
theorem dL_law_1430 : decode cL_law 1430 = .ok (.ireturn, 1) := by decide +kernel
theorem dL_law_1431 : decode cL_law 1431 = .ok (.goto 355, 3) := by decide +kernel
theorem dL_law_1434 : decode cL_law 1434 = .ok (.aload_n 1, 1) := by decide +kernel
theorem dL_law_1435 : decode cL_law 1435 = .ok (.aload_n 0, 1) := by decide +kernel
theorem dL_law_1436 : decode cL_law 1436 = .ok (.iload 4, 2) := by decide +kernel
theorem dL_law_1438 : decode cL_law 1438 = .ok (.iconst 1, 1) := by decide +kernel
theorem dL_law_1439 : decode cL_law 1439 = .ok (.iadd, 1) := by decide +kernel
theorem dL_law_1440 : decode cL_law 1440 = .ok (.iaload, 1) := by decide +kernel
theorem dL_law_1441 : decode cL_law 1441 = .ok (.aload_n 3, 1) := by decide +kernel
theorem dL_law_1442 : decode cL_law 1442 = .ok (.invokestatic 168, 3) := by decide +kernel
theorem dL_law_1445 : decode cL_law 1445 = .ok (.istore 5, 2) := by decide +kernel
theorem dL_law_1447 : decode cL_law 1447 = .ok (.aload_n 2, 1) := by decide +kernel
theorem dL_law_1448 : decode cL_law 1448 = .ok (.aload_n 0, 1) := by decide +kernel
theorem dL_law_1449 : decode cL_law 1449 = .ok (.iload 4, 2) := by decide +kernel
theorem dL_law_1451 : decode cL_law 1451 = .ok (.iconst 1, 1) := by decide +kernel
theorem dL_law_1452 : decode cL_law 1452 = .ok (.iadd, 1) := by decide +kernel
theorem dL_law_1453 : decode cL_law 1453 = .ok (.iaload, 1) := by decide +kernel
theorem dL_law_1454 : decode cL_law 1454 = .ok (.invokevirtual 170, 3) := by decide +kernel
theorem dL_law_1457 : decode cL_law 1457 = .ok (.istore 6, 2) := by decide +kernel
theorem dL_law_1459 : decode cL_law 1459 = .ok (.aload_n 2, 1) := by decide +kernel
theorem dL_law_1460 : decode cL_law 1460 = .ok (.invokevirtual 99, 3) := by decide +kernel
theorem dL_law_1463 : decode cL_law 1463 = .ok (.iload 5, 2) := by decide +kernel
theorem dL_law_1465 : decode cL_law 1465 = .ok (.if_icmp .eq 5, 3) := by decide +kernel
theorem dL_law_1468 : decode cL_law 1468 = .ok (.iconst 0, 1) := by decide +kernel
theorem dL_law_1469 : decode cL_law 1469 = .ok (.ireturn, 1) := by decide +kernel
theorem dL_law_1470 : decode cL_law 1470 = .ok (.iload 5, 2) := by decide +kernel
theorem dL_law_1472 : decode cL_law 1472 = .ok (.ifCond .ne 15, 3) := by decide +kernel
theorem dL_law_1475 : decode cL_law 1475 = .ok (.aload_n 3, 1) := by decide +kernel
theorem dL_law_1476 : decode cL_law 1476 = .ok (.iconst 0, 1) := by decide +kernel
theorem dL_law_1477 : decode cL_law 1477 = .ok (.laload, 1) := by decide +kernel
theorem dL_law_1478 : decode cL_law 1478 = .ok (.iload 6, 2) := by decide +kernel
theorem dL_law_1480 : decode cL_law 1480 = .ok (.i2l, 1) := by decide +kernel
theorem dL_law_1481 : decode cL_law 1481 = .ok (.lcmp, 1) := by decide +kernel
theorem dL_law_1482 : decode cL_law 1482 = .ok (.ifCond .eq 5, 3) := by decide +kernel
theorem dL_law_1485 : decode cL_law 1485 = .ok (.iconst 0, 1) := by decide +kernel
theorem dL_law_1486 : decode cL_law 1486 = .ok (.ireturn, 1) := by decide +kernel
theorem dL_law_1487 : decode cL_law 1487 = .ok (.goto 299, 3) := by decide +kernel
theorem dL_law_1490 : decode cL_law 1490 = .ok (.aload_n 1, 1) := by decide +kernel
theorem dL_law_1491 : decode cL_law 1491 = .ok (.aload_n 0, 1) := by decide +kernel
theorem dL_law_1492 : decode cL_law 1492 = .ok (.iload 4, 2) := by decide +kernel
theorem dL_law_1494 : decode cL_law 1494 = .ok (.iconst 1, 1) := by decide +kernel
theorem dL_law_1495 : decode cL_law 1495 = .ok (.iadd, 1) := by decide +kernel
theorem dL_law_1496 : decode cL_law 1496 = .ok (.iaload, 1) := by decide +kernel
theorem dL_law_1497 : decode cL_law 1497 = .ok (.aload_n 0, 1) := by decide +kernel
theorem dL_law_1498 : decode cL_law 1498 = .ok (.iload 4, 2) := by decide +kernel
theorem dL_law_1500 : decode cL_law 1500 = .ok (.iconst 2, 1) := by decide +kernel
theorem dL_law_1501 : decode cL_law 1501 = .ok (.iadd, 1) := by decide +kernel
theorem dL_law_1502 : decode cL_law 1502 = .ok (.iaload, 1) := by decide +kernel
theorem dL_law_1503 : decode cL_law 1503 = .ok (.aload_n 0, 1) := by decide +kernel
theorem dL_law_1504 : decode cL_law 1504 = .ok (.iload 4, 2) := by decide +kernel
theorem dL_law_1506 : decode cL_law 1506 = .ok (.iconst 3, 1) := by decide +kernel
theorem dL_law_1507 : decode cL_law 1507 = .ok (.iadd, 1) := by decide +kernel
theorem dL_law_1508 : decode cL_law 1508 = .ok (.iaload, 1) := by decide +kernel
theorem dL_law_1509 : decode cL_law 1509 = .ok (.aload_n 0, 1) := by decide +kernel
theorem dL_law_1510 : decode cL_law 1510 = .ok (.iload 4, 2) := by decide +kernel
theorem dL_law_1512 : decode cL_law 1512 = .ok (.iconst 4, 1) := by decide +kernel
theorem dL_law_1513 : decode cL_law 1513 = .ok (.iadd, 1) := by decide +kernel
theorem dL_law_1514 : decode cL_law 1514 = .ok (.iaload, 1) := by decide +kernel
theorem dL_law_1515 : decode cL_law 1515 = .ok (.aload_n 3, 1) := by decide +kernel
theorem dL_law_1516 : decode cL_law 1516 = .ok (.invokestatic 171, 3) := by decide +kernel
theorem dL_law_1519 : decode cL_law 1519 = .ok (.istore 5, 2) := by decide +kernel
theorem dL_law_1521 : decode cL_law 1521 = .ok (.aload_n 2, 1) := by decide +kernel
theorem dL_law_1522 : decode cL_law 1522 = .ok (.aload_n 0, 1) := by decide +kernel
theorem dL_law_1523 : decode cL_law 1523 = .ok (.iload 4, 2) := by decide +kernel
theorem dL_law_1525 : decode cL_law 1525 = .ok (.iconst 1, 1) := by decide +kernel
theorem dL_law_1526 : decode cL_law 1526 = .ok (.iadd, 1) := by decide +kernel
theorem dL_law_1527 : decode cL_law 1527 = .ok (.iaload, 1) := by decide +kernel
theorem dL_law_1528 : decode cL_law 1528 = .ok (.aload_n 0, 1) := by decide +kernel
theorem dL_law_1529 : decode cL_law 1529 = .ok (.iload 4, 2) := by decide +kernel
theorem dL_law_1531 : decode cL_law 1531 = .ok (.iconst 2, 1) := by decide +kernel
theorem dL_law_1532 : decode cL_law 1532 = .ok (.iadd, 1) := by decide +kernel
theorem dL_law_1533 : decode cL_law 1533 = .ok (.iaload, 1) := by decide +kernel
theorem dL_law_1534 : decode cL_law 1534 = .ok (.aload_n 0, 1) := by decide +kernel
theorem dL_law_1535 : decode cL_law 1535 = .ok (.iload 4, 2) := by decide +kernel
theorem dL_law_1537 : decode cL_law 1537 = .ok (.iconst 3, 1) := by decide +kernel
theorem dL_law_1538 : decode cL_law 1538 = .ok (.iadd, 1) := by decide +kernel
theorem dL_law_1539 : decode cL_law 1539 = .ok (.iaload, 1) := by decide +kernel
theorem dL_law_1540 : decode cL_law 1540 = .ok (.aload_n 0, 1) := by decide +kernel
theorem dL_law_1541 : decode cL_law 1541 = .ok (.iload 4, 2) := by decide +kernel
theorem dL_law_1543 : decode cL_law 1543 = .ok (.iconst 4, 1) := by decide +kernel
theorem dL_law_1544 : decode cL_law 1544 = .ok (.iadd, 1) := by decide +kernel
theorem dL_law_1545 : decode cL_law 1545 = .ok (.iaload, 1) := by decide +kernel
theorem dL_law_1546 : decode cL_law 1546 = .ok (.invokevirtual 173, 3) := by decide +kernel
theorem dL_law_1549 : decode cL_law 1549 = .ok (.istore 6, 2) := by decide +kernel
theorem dL_law_1551 : decode cL_law 1551 = .ok (.aload_n 2, 1) := by decide +kernel
theorem dL_law_1552 : decode cL_law 1552 = .ok (.invokevirtual 99, 3) := by decide +kernel
theorem dL_law_1555 : decode cL_law 1555 = .ok (.iload 5, 2) := by decide +kernel
theorem dL_law_1557 : decode cL_law 1557 = .ok (.if_icmp .eq 5, 3) := by decide +kernel
theorem dL_law_1560 : decode cL_law 1560 = .ok (.iconst 0, 1) := by decide +kernel
theorem dL_law_1561 : decode cL_law 1561 = .ok (.ireturn, 1) := by decide +kernel
theorem dL_law_1562 : decode cL_law 1562 = .ok (.iload 5, 2) := by decide +kernel
theorem dL_law_1564 : decode cL_law 1564 = .ok (.ifCond .ne 15, 3) := by decide +kernel
theorem dL_law_1567 : decode cL_law 1567 = .ok (.aload_n 3, 1) := by decide +kernel
theorem dL_law_1568 : decode cL_law 1568 = .ok (.iconst 0, 1) := by decide +kernel
theorem dL_law_1569 : decode cL_law 1569 = .ok (.laload, 1) := by decide +kernel
theorem dL_law_1570 : decode cL_law 1570 = .ok (.iload 6, 2) := by decide +kernel
theorem dL_law_1572 : decode cL_law 1572 = .ok (.i2l, 1) := by decide +kernel
theorem dL_law_1573 : decode cL_law 1573 = .ok (.lcmp, 1) := by decide +kernel
theorem dL_law_1574 : decode cL_law 1574 = .ok (.ifCond .eq 5, 3) := by decide +kernel
theorem dL_law_1577 : decode cL_law 1577 = .ok (.iconst 0, 1) := by decide +kernel
theorem dL_law_1578 : decode cL_law 1578 = .ok (.ireturn, 1) := by decide +kernel
theorem dL_law_1579 : decode cL_law 1579 = .ok (.goto 207, 3) := by decide +kernel
theorem dL_law_1582 : decode cL_law 1582 = .ok (.aload_n 1, 1) := by decide +kernel
theorem dL_law_1583 : decode cL_law 1583 = .ok (.aload_n 0, 1) := by decide +kernel
theorem dL_law_1584 : decode cL_law 1584 = .ok (.iload 4, 2) := by decide +kernel
theorem dL_law_1586 : decode cL_law 1586 = .ok (.iconst 1, 1) := by decide +kernel
theorem dL_law_1587 : decode cL_law 1587 = .ok (.iadd, 1) := by decide +kernel
theorem dL_law_1588 : decode cL_law 1588 = .ok (.iaload, 1) := by decide +kernel
theorem dL_law_1589 : decode cL_law 1589 = .ok (.aload_n 0, 1) := by decide +kernel
theorem dL_law_1590 : decode cL_law 1590 = .ok (.iload 4, 2) := by decide +kernel
theorem dL_law_1592 : decode cL_law 1592 = .ok (.iconst 2, 1) := by decide +kernel
theorem dL_law_1593 : decode cL_law 1593 = .ok (.iadd, 1) := by decide +kernel
theorem dL_law_1594 : decode cL_law 1594 = .ok (.iaload, 1) := by decide +kernel
theorem dL_law_1595 : decode cL_law 1595 = .ok (.aload_n 3, 1) := by decide +kernel
theorem dL_law_1596 : decode cL_law 1596 = .ok (.invokestatic 174, 3) := by decide +kernel
theorem dL_law_1599 : decode cL_law 1599 = .ok (.istore 5, 2) := by decide +kernel
theorem dL_law_1601 : decode cL_law 1601 = .ok (.aload_n 2, 1) := by decide +kernel
theorem dL_law_1602 : decode cL_law 1602 = .ok (.aload_n 0, 1) := by decide +kernel
theorem dL_law_1603 : decode cL_law 1603 = .ok (.iload 4, 2) := by decide +kernel
theorem dL_law_1605 : decode cL_law 1605 = .ok (.iconst 1, 1) := by decide +kernel
theorem dL_law_1606 : decode cL_law 1606 = .ok (.iadd, 1) := by decide +kernel
theorem dL_law_1607 : decode cL_law 1607 = .ok (.iaload, 1) := by decide +kernel
theorem dL_law_1608 : decode cL_law 1608 = .ok (.aload_n 0, 1) := by decide +kernel
theorem dL_law_1609 : decode cL_law 1609 = .ok (.iload 4, 2) := by decide +kernel
theorem dL_law_1611 : decode cL_law 1611 = .ok (.iconst 2, 1) := by decide +kernel
theorem dL_law_1612 : decode cL_law 1612 = .ok (.iadd, 1) := by decide +kernel
theorem dL_law_1613 : decode cL_law 1613 = .ok (.iaload, 1) := by decide +kernel
theorem dL_law_1614 : decode cL_law 1614 = .ok (.invokevirtual 176, 3) := by decide +kernel
theorem dL_law_1617 : decode cL_law 1617 = .ok (.istore 6, 2) := by decide +kernel
theorem dL_law_1619 : decode cL_law 1619 = .ok (.aload_n 2, 1) := by decide +kernel
theorem dL_law_1620 : decode cL_law 1620 = .ok (.invokevirtual 99, 3) := by decide +kernel
theorem dL_law_1623 : decode cL_law 1623 = .ok (.iload 5, 2) := by decide +kernel
theorem dL_law_1625 : decode cL_law 1625 = .ok (.if_icmp .eq 5, 3) := by decide +kernel
theorem dL_law_1628 : decode cL_law 1628 = .ok (.iconst 0, 1) := by decide +kernel
theorem dL_law_1629 : decode cL_law 1629 = .ok (.ireturn, 1) := by decide +kernel
theorem dL_law_1630 : decode cL_law 1630 = .ok (.iload 5, 2) := by decide +kernel
theorem dL_law_1632 : decode cL_law 1632 = .ok (.ifCond .ne 15, 3) := by decide +kernel
theorem dL_law_1635 : decode cL_law 1635 = .ok (.aload_n 3, 1) := by decide +kernel
theorem dL_law_1636 : decode cL_law 1636 = .ok (.iconst 0, 1) := by decide +kernel
theorem dL_law_1637 : decode cL_law 1637 = .ok (.laload, 1) := by decide +kernel
theorem dL_law_1638 : decode cL_law 1638 = .ok (.iload 6, 2) := by decide +kernel
theorem dL_law_1640 : decode cL_law 1640 = .ok (.i2l, 1) := by decide +kernel
theorem dL_law_1641 : decode cL_law 1641 = .ok (.lcmp, 1) := by decide +kernel
theorem dL_law_1642 : decode cL_law 1642 = .ok (.ifCond .eq 5, 3) := by decide +kernel
theorem dL_law_1645 : decode cL_law 1645 = .ok (.iconst 0, 1) := by decide +kernel
theorem dL_law_1646 : decode cL_law 1646 = .ok (.ireturn, 1) := by decide +kernel
theorem dL_law_1647 : decode cL_law 1647 = .ok (.goto 139, 3) := by decide +kernel
theorem dL_law_1650 : decode cL_law 1650 = .ok (.aload_n 1, 1) := by decide +kernel
theorem dL_law_1651 : decode cL_law 1651 = .ok (.invokevirtual 177, 3) := by decide +kernel
theorem dL_law_1654 : decode cL_law 1654 = .ok (.aload_n 2, 1) := by decide +kernel
theorem dL_law_1655 : decode cL_law 1655 = .ok (.invokevirtual 180, 3) := by decide +kernel
theorem dL_law_1658 : decode cL_law 1658 = .ok (.if_icmp .eq 128, 3) := by decide +kernel
theorem dL_law_1661 : decode cL_law 1661 = .ok (.iconst 0, 1) := by decide +kernel
theorem dL_law_1662 : decode cL_law 1662 = .ok (.ireturn, 1) := by decide +kernel
theorem dL_law_1663 : decode cL_law 1663 = .ok (.aload_n 1, 1) := by decide +kernel
theorem dL_law_1664 : decode cL_law 1664 = .ok (.aload_n 0, 1) := by decide +kernel
theorem dL_law_1665 : decode cL_law 1665 = .ok (.iload 4, 2) := by decide +kernel
theorem dL_law_1667 : decode cL_law 1667 = .ok (.iconst 1, 1) := by decide +kernel
theorem dL_law_1668 : decode cL_law 1668 = .ok (.iadd, 1) := by decide +kernel
theorem dL_law_1669 : decode cL_law 1669 = .ok (.iaload, 1) := by decide +kernel
theorem dL_law_1670 : decode cL_law 1670 = .ok (.aload_n 0, 1) := by decide +kernel
theorem dL_law_1671 : decode cL_law 1671 = .ok (.iload 4, 2) := by decide +kernel
theorem dL_law_1673 : decode cL_law 1673 = .ok (.iconst 2, 1) := by decide +kernel
theorem dL_law_1674 : decode cL_law 1674 = .ok (.iadd, 1) := by decide +kernel
theorem dL_law_1675 : decode cL_law 1675 = .ok (.iaload, 1) := by decide +kernel
theorem dL_law_1676 : decode cL_law 1676 = .ok (.aload_n 3, 1) := by decide +kernel
theorem dL_law_1677 : decode cL_law 1677 = .ok (.invokestatic 181, 3) := by decide +kernel
theorem dL_law_1680 : decode cL_law 1680 = .ok (.istore 5, 2) := by decide +kernel
theorem dL_law_1682 : decode cL_law 1682 = .ok (.aload_n 2, 1) := by decide +kernel
theorem dL_law_1683 : decode cL_law 1683 = .ok (.aload_n 0, 1) := by decide +kernel
theorem dL_law_1684 : decode cL_law 1684 = .ok (.iload 4, 2) := by decide +kernel
theorem dL_law_1686 : decode cL_law 1686 = .ok (.iconst 1, 1) := by decide +kernel
theorem dL_law_1687 : decode cL_law 1687 = .ok (.iadd, 1) := by decide +kernel
theorem dL_law_1688 : decode cL_law 1688 = .ok (.iaload, 1) := by decide +kernel
theorem dL_law_1689 : decode cL_law 1689 = .ok (.aload_n 0, 1) := by decide +kernel
theorem dL_law_1690 : decode cL_law 1690 = .ok (.iload 4, 2) := by decide +kernel
theorem dL_law_1692 : decode cL_law 1692 = .ok (.iconst 2, 1) := by decide +kernel
theorem dL_law_1693 : decode cL_law 1693 = .ok (.iadd, 1) := by decide +kernel
theorem dL_law_1694 : decode cL_law 1694 = .ok (.iaload, 1) := by decide +kernel
theorem dL_law_1695 : decode cL_law 1695 = .ok (.invokevirtual 183, 3) := by decide +kernel
theorem dL_law_1698 : decode cL_law 1698 = .ok (.istore 6, 2) := by decide +kernel
theorem dL_law_1700 : decode cL_law 1700 = .ok (.aload_n 2, 1) := by decide +kernel
theorem dL_law_1701 : decode cL_law 1701 = .ok (.invokevirtual 99, 3) := by decide +kernel
theorem dL_law_1704 : decode cL_law 1704 = .ok (.iload 5, 2) := by decide +kernel
theorem dL_law_1706 : decode cL_law 1706 = .ok (.if_icmp .eq 5, 3) := by decide +kernel
theorem dL_law_1709 : decode cL_law 1709 = .ok (.iconst 0, 1) := by decide +kernel
theorem dL_law_1710 : decode cL_law 1710 = .ok (.ireturn, 1) := by decide +kernel
theorem dL_law_1711 : decode cL_law 1711 = .ok (.iload 5, 2) := by decide +kernel
theorem dL_law_1713 : decode cL_law 1713 = .ok (.ifCond .ne 15, 3) := by decide +kernel
theorem dL_law_1716 : decode cL_law 1716 = .ok (.aload_n 3, 1) := by decide +kernel
theorem dL_law_1717 : decode cL_law 1717 = .ok (.iconst 0, 1) := by decide +kernel
theorem dL_law_1718 : decode cL_law 1718 = .ok (.laload, 1) := by decide +kernel
theorem dL_law_1719 : decode cL_law 1719 = .ok (.iload 6, 2) := by decide +kernel
theorem dL_law_1721 : decode cL_law 1721 = .ok (.i2l, 1) := by decide +kernel
theorem dL_law_1722 : decode cL_law 1722 = .ok (.lcmp, 1) := by decide +kernel
theorem dL_law_1723 : decode cL_law 1723 = .ok (.ifCond .eq 5, 3) := by decide +kernel
theorem dL_law_1726 : decode cL_law 1726 = .ok (.iconst 0, 1) := by decide +kernel
theorem dL_law_1727 : decode cL_law 1727 = .ok (.ireturn, 1) := by decide +kernel
theorem dL_law_1728 : decode cL_law 1728 = .ok (.goto 58, 3) := by decide +kernel
theorem dL_law_1731 : decode cL_law 1731 = .ok (.aload_n 1, 1) := by decide +kernel
theorem dL_law_1732 : decode cL_law 1732 = .ok (.invokevirtual 184, 3) := by decide +kernel
theorem dL_law_1735 : decode cL_law 1735 = .ok (.dstore 5, 2) := by decide +kernel
theorem dL_law_1737 : decode cL_law 1737 = .ok (.aload_n 2, 1) := by decide +kernel
theorem dL_law_1738 : decode cL_law 1738 = .ok (.invokevirtual 188, 3) := by decide +kernel
theorem dL_law_1741 : decode cL_law 1741 = .ok (.dstore 7, 2) := by decide +kernel
theorem dL_law_1743 : decode cL_law 1743 = .ok (.dload 5, 2) := by decide +kernel
theorem dL_law_1745 : decode cL_law 1745 = .ok (.dload 7, 2) := by decide +kernel
theorem dL_law_1747 : decode cL_law 1747 = .ok (.dcmp .l, 1) := by decide +kernel
theorem dL_law_1748 : decode cL_law 1748 = .ok (.ifCond .eq 21, 3) := by decide +kernel
theorem dL_law_1751 : decode cL_law 1751 = .ok (.dload 5, 2) := by decide +kernel
theorem dL_law_1753 : decode cL_law 1753 = .ok (.dload 5, 2) := by decide +kernel
theorem dL_law_1755 : decode cL_law 1755 = .ok (.dcmp .l, 1) := by decide +kernel
theorem dL_law_1756 : decode cL_law 1756 = .ok (.ifCond .eq 11, 3) := by decide +kernel
theorem dL_law_1759 : decode cL_law 1759 = .ok (.dload 7, 2) := by decide +kernel
theorem dL_law_1761 : decode cL_law 1761 = .ok (.dload 7, 2) := by decide +kernel
theorem dL_law_1763 : decode cL_law 1763 = .ok (.dcmp .l, 1) := by decide +kernel
theorem dL_law_1764 : decode cL_law 1764 = .ok (.ifCond .ne 5, 3) := by decide +kernel
theorem dL_law_1767 : decode cL_law 1767 = .ok (.iconst 0, 1) := by decide +kernel
theorem dL_law_1768 : decode cL_law 1768 = .ok (.ireturn, 1) := by decide +kernel
theorem dL_law_1769 : decode cL_law 1769 = .ok (.goto 17, 3) := by decide +kernel
theorem dL_law_1772 : decode cL_law 1772 = .ok (.aload_n 1, 1) := by decide +kernel
theorem dL_law_1773 : decode cL_law 1773 = .ok (.invokevirtual 189, 3) := by decide +kernel
theorem dL_law_1776 : decode cL_law 1776 = .ok (.aload_n 2, 1) := by decide +kernel
theorem dL_law_1777 : decode cL_law 1777 = .ok (.invokevirtual 193, 3) := by decide +kernel
theorem dL_law_1780 : decode cL_law 1780 = .ok (.lcmp, 1) := by decide +kernel
theorem dL_law_1781 : decode cL_law 1781 = .ok (.ifCond .eq 5, 3) := by decide +kernel
theorem dL_law_1784 : decode cL_law 1784 = .ok (.iconst 0, 1) := by decide +kernel
theorem dL_law_1785 : decode cL_law 1785 = .ok (.ireturn, 1) := by decide +kernel
theorem dL_law_1786 : decode cL_law 1786 = .ok (.iinc 4 5, 3) := by decide +kernel
theorem dL_law_1789 : decode cL_law 1789 = .ok (.goto (-1766), 3) := by decide +kernel
theorem dL_law_1792 : decode cL_law 1792 = .ok (.iconst 1, 1) := by decide +kernel
theorem dL_law_1793 : decode cL_law 1793 = .ok (.ireturn, 1) := by decide +kernel
end

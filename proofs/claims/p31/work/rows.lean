section
-- ===== PART A: goes FIRST, ahead of the names: the tables' words, and 'selects' of the private methods out of them =====
/-- a private method of a class that the tables say can be made, by its rows of tables_1 -/
def lw_okq (q : MethodName × Nat) : Prop := (q.1.cls ≠ "java/lang/invoke/MethodHandle" ∧ q.1.cls ≠ "java/lang/invoke/VarHandle") ∧ Cond.instantiable q.1.cls q.2 ∈ tables_1 ∧ Cond.privateMethod q.1 ∈ tables_1 ∧ Cond.instanceMethod q.1 ∈ tables_1
theorem lw_p0 : lw_okq (⟨"java/lang/Throwable", "fillInStackTrace", "(I)Ljava/lang/Throwable;"⟩, 6) := ⟨⟨by decide +kernel, by decide +kernel⟩, List.mem_of_getElem? (i := 202) (by decide +kernel), List.mem_of_getElem? (i := 200) (by decide +kernel), List.mem_of_getElem? (i := 201) (by decide +kernel)⟩
theorem lw_p1 : lw_okq (⟨"MagnetPoems$Board", "clashes", "(I)Z"⟩, 13) := ⟨⟨by decide +kernel, by decide +kernel⟩, List.mem_of_getElem? (i := 20) (by decide +kernel), List.mem_of_getElem? (i := 329) (by decide +kernel), List.mem_of_getElem? (i := 330) (by decide +kernel)⟩
theorem lw_p2 : lw_okq (⟨"MagnetPoems", "numberOf", "(I)I"⟩, 8) := ⟨⟨by decide +kernel, by decide +kernel⟩, List.mem_of_getElem? (i := 12) (by decide +kernel), List.mem_of_getElem? (i := 391) (by decide +kernel), List.mem_of_getElem? (i := 392) (by decide +kernel)⟩
theorem lw_p3 : lw_okq (⟨"MagnetPoems", "share", "()D"⟩, 8) := ⟨⟨by decide +kernel, by decide +kernel⟩, List.mem_of_getElem? (i := 12) (by decide +kernel), List.mem_of_getElem? (i := 427) (by decide +kernel), List.mem_of_getElem? (i := 428) (by decide +kernel)⟩
theorem lw_p4 : lw_okq (⟨"MagnetPoems", "isPlaceToPut", "(III)Z"⟩, 8) := ⟨⟨by decide +kernel, by decide +kernel⟩, List.mem_of_getElem? (i := 12) (by decide +kernel), List.mem_of_getElem? (i := 443) (by decide +kernel), List.mem_of_getElem? (i := 444) (by decide +kernel)⟩
theorem lw_p5 : lw_okq (⟨"MagnetPoems$Board", "wouldClash", "(III)Z"⟩, 13) := ⟨⟨by decide +kernel, by decide +kernel⟩, List.mem_of_getElem? (i := 20) (by decide +kernel), List.mem_of_getElem? (i := 460) (by decide +kernel), List.mem_of_getElem? (i := 461) (by decide +kernel)⟩
theorem lw_p6 : lw_okq (⟨"MagnetPoems$Board", "doorOfThief", "()I"⟩, 13) := ⟨⟨by decide +kernel, by decide +kernel⟩, List.mem_of_getElem? (i := 20) (by decide +kernel), List.mem_of_getElem? (i := 472) (by decide +kernel), List.mem_of_getElem? (i := 473) (by decide +kernel)⟩
theorem lw_p7 : lw_okq (⟨"MagnetPoems$Board", "preyOn", "(I)I"⟩, 13) := ⟨⟨by decide +kernel, by decide +kernel⟩, List.mem_of_getElem? (i := 20) (by decide +kernel), List.mem_of_getElem? (i := 476) (by decide +kernel), List.mem_of_getElem? (i := 477) (by decide +kernel)⟩
theorem lw_p8 : lw_okq (⟨"MagnetPoems$Board", "watchOneNightFewer", "()V"⟩, 13) := ⟨⟨by decide +kernel, by decide +kernel⟩, List.mem_of_getElem? (i := 20) (by decide +kernel), List.mem_of_getElem? (i := 529) (by decide +kernel), List.mem_of_getElem? (i := 530) (by decide +kernel)⟩
theorem lw_p9 : lw_okq (⟨"MagnetPoems$Board", "steal", "(II)V"⟩, 13) := ⟨⟨by decide +kernel, by decide +kernel⟩, List.mem_of_getElem? (i := 20) (by decide +kernel), List.mem_of_getElem? (i := 533) (by decide +kernel), List.mem_of_getElem? (i := 534) (by decide +kernel)⟩
theorem lw_p10 : lw_okq (⟨"MagnetPoems$Board", "endLoansOf", "(IZ)V"⟩, 13) := ⟨⟨by decide +kernel, by decide +kernel⟩, List.mem_of_getElem? (i := 20) (by decide +kernel), List.mem_of_getElem? (i := 545) (by decide +kernel), List.mem_of_getElem? (i := 546) (by decide +kernel)⟩
theorem lw_p11 : lw_okq (⟨"MagnetPoems$History", "stateAt", "(I)LMagnetPoems$Board;"⟩, 3) := ⟨⟨by decide +kernel, by decide +kernel⟩, List.mem_of_getElem? (i := 77) (by decide +kernel), List.mem_of_getElem? (i := 591) (by decide +kernel), List.mem_of_getElem? (i := 592) (by decide +kernel)⟩
def lw_privs_1 : List (MethodName × Nat) := [(⟨"java/lang/Throwable", "fillInStackTrace", "(I)Ljava/lang/Throwable;"⟩, 6), (⟨"MagnetPoems$Board", "clashes", "(I)Z"⟩, 13), (⟨"MagnetPoems", "numberOf", "(I)I"⟩, 8), (⟨"MagnetPoems", "share", "()D"⟩, 8), (⟨"MagnetPoems", "isPlaceToPut", "(III)Z"⟩, 8), (⟨"MagnetPoems$Board", "wouldClash", "(III)Z"⟩, 13), (⟨"MagnetPoems$Board", "doorOfThief", "()I"⟩, 13), (⟨"MagnetPoems$Board", "preyOn", "(I)I"⟩, 13), (⟨"MagnetPoems$Board", "watchOneNightFewer", "()V"⟩, 13), (⟨"MagnetPoems$Board", "steal", "(II)V"⟩, 13), (⟨"MagnetPoems$Board", "endLoansOf", "(IZ)V"⟩, 13), (⟨"MagnetPoems$History", "stateAt", "(I)LMagnetPoems$Board;"⟩, 3)]
theorem lw_r1 : ∀ q ∈ lw_privs_1, lw_okq q := List.forall_mem_cons.mpr ⟨lw_p0, List.forall_mem_cons.mpr ⟨lw_p1, List.forall_mem_cons.mpr ⟨lw_p2, List.forall_mem_cons.mpr ⟨lw_p3, List.forall_mem_cons.mpr ⟨lw_p4, List.forall_mem_cons.mpr ⟨lw_p5, List.forall_mem_cons.mpr ⟨lw_p6, List.forall_mem_cons.mpr ⟨lw_p7, List.forall_mem_cons.mpr ⟨lw_p8, List.forall_mem_cons.mpr ⟨lw_p9, List.forall_mem_cons.mpr ⟨lw_p10, List.forall_mem_cons.mpr ⟨lw_p11, fun _ h => absurd h List.not_mem_nil⟩⟩⟩⟩⟩⟩⟩⟩⟩⟩⟩⟩
def lw_privs : List (MethodName × Nat) := lw_privs_1
def lw_tbl : List Cond := k2_sels lw_privs ++ tables_1
theorem lw_privs_ok : ∀ q ∈ lw_privs, lw_okq q := lw_r1
/-- the streams that the claim lets the run draw from -/
abbrev lw_cs : List Choice := [Jvm.Choice.named "NaN.bits"]
theorem lw_bits : nanBits ∈ lw_cs := by first | decide | exact List.mem_cons_self | simp [lw_cs, nanBits]
-- ===== end of PART A; then your names; then what follows =====
def RX0 : String := "MagnetPoems$Board"
def TX0 : u_T := fun k => match k with
  | 0 => ("MagnetPoems$Board", "homes", "[I", true)
  | 1 => ("MagnetPoems$Board", "words", "[I", true)
  | 2 => ("MagnetPoems$Board", "sizes", "[I", true)
  | 3 => ("MagnetPoems$Board", "lenders", "[I", true)
  | 4 => ("MagnetPoems$Board", "borrowers", "[I", true)
  | 5 => ("MagnetPoems$Board", "thefts", "[I", true)
  | 6 => ("MagnetPoems$Board", "watches", "[I", true)
  | 7 => ("MagnetPoems$Board", "losses", "[I", true)
  | 8 => ("MagnetPoems$Board", "settings", "[I", true)
  | 9 => ("MagnetPoems$Board", "nights", "I", false)
  | 10 => ("MagnetPoems$Board", "stolen", "I", false)
  | 11 => ("MagnetPoems$Board", "shown", "I", false)
  | _ => ("MagnetPoems$Board", "refused", "I", false)
def tyX0 : Nat → FieldType := fun k => match k with
  | 0 => .array .int
  | 1 => .array .int
  | 2 => .array .int
  | 3 => .array .int
  | 4 => .array .int
  | 5 => .array .int
  | 6 => .array .int
  | 7 => .array .int
  | 8 => .array .int
  | 9 => .int
  | 10 => .int
  | 11 => .int
  | _ => .int
abbrev wsX00 : List Cond := u_ws RX0 TX0 13
theorem nmX0 : ∀ a, a < 13 → ∀ b, b < 13 → a ≠ b → (TX0 a).2.1 ≠ (TX0 b).2.1 := by decide +kernel
theorem tyX0_ok : ∀ k, k < 13 → parseFieldDescriptor (TX0 k).2.2.1 = some (tyX0 k) := by decide +kernel
abbrev cX0_init : ByteArray := prog_2_method_1_code
def yX0_init : MethodName := ⟨RX0, "<init>", "()V"⟩
abbrev cX0_copyFrom : ByteArray := prog_2_method_2_code
def yX0_copyFrom : MethodName := ⟨RX0, "copyFrom", "(LMagnetPoems$Board;)V"⟩
abbrev cX0_homeOf : ByteArray := prog_2_method_3_code
def yX0_homeOf : MethodName := ⟨RX0, "homeOf", "(I)I"⟩
abbrev cX0_isInBag : ByteArray := prog_2_method_4_code
def yX0_isInBag : MethodName := ⟨RX0, "isInBag", "(I)Z"⟩
abbrev cX0_sizeOf : ByteArray := prog_2_method_5_code
def yX0_sizeOf : MethodName := ⟨RX0, "sizeOf", "(I)I"⟩
abbrev cX0_wordAt : ByteArray := prog_2_method_6_code
def yX0_wordAt : MethodName := ⟨RX0, "wordAt", "(II)I"⟩
abbrev cX0_setWordAt : ByteArray := prog_2_method_7_code
def yX0_setWordAt : MethodName := ⟨RX0, "setWordAt", "(III)V"⟩
abbrev cX0_placeOf : ByteArray := prog_2_method_8_code
def yX0_placeOf : MethodName := ⟨RX0, "placeOf", "(I)I"⟩
abbrev cX0_bagToldByWords : ByteArray := prog_2_method_9_code
def yX0_bagToldByWords : MethodName := ⟨RX0, "bagToldByWords", "()I"⟩
abbrev cX0_bagToldByLines : ByteArray := prog_2_method_10_code
def yX0_bagToldByLines : MethodName := ⟨RX0, "bagToldByLines", "()I"⟩
abbrev cX0_wordsOfDoor : ByteArray := prog_2_method_11_code
def yX0_wordsOfDoor : MethodName := ⟨RX0, "wordsOfDoor", "(I)I"⟩
abbrev cX0_insertWord : ByteArray := prog_2_method_12_code
def yX0_insertWord : MethodName := ⟨RX0, "insertWord", "(III)V"⟩
abbrev cX0_removeWord : ByteArray := prog_2_method_13_code
def yX0_removeWord : MethodName := ⟨RX0, "removeWord", "(I)V"⟩
abbrev cX0_emptyDoor : ByteArray := prog_2_method_14_code
def yX0_emptyDoor : MethodName := ⟨RX0, "emptyDoor", "(I)I"⟩
abbrev cX0_refusal : ByteArray := prog_2_method_15_code
def yX0_refusal : MethodName := ⟨RX0, "refusal", "(III)I"⟩
abbrev cX0_wouldClash : ByteArray := prog_2_method_16_code
def yX0_wouldClash : MethodName := ⟨RX0, "wouldClash", "(III)Z"⟩
abbrev cX0_clashes : ByteArray := prog_2_method_17_code
def yX0_clashes : MethodName := ⟨RX0, "clashes", "(I)Z"⟩
abbrev cX0_beatsOn : ByteArray := prog_2_method_18_code
def yX0_beatsOn : MethodName := ⟨RX0, "beatsOn", "(I)I"⟩
abbrev cX0_worthOfLine : ByteArray := prog_2_method_19_code
def yX0_worthOfLine : MethodName := ⟨RX0, "worthOfLine", "(II)I"⟩
abbrev cX0_endingOn : ByteArray := prog_2_method_20_code
def yX0_endingOn : MethodName := ⟨RX0, "endingOn", "(I)I"⟩
abbrev cX0_rhymesOf : ByteArray := prog_2_method_21_code
def yX0_rhymesOf : MethodName := ⟨RX0, "rhymesOf", "(II)I"⟩
abbrev cX0_rhymesOfDoor : ByteArray := prog_2_method_22_code
def yX0_rhymesOfDoor : MethodName := ⟨RX0, "rhymesOfDoor", "(I)I"⟩
abbrev cX0_worthOfDoor : ByteArray := prog_2_method_23_code
def yX0_worthOfDoor : MethodName := ⟨RX0, "worthOfDoor", "(I)I"⟩
abbrev cX0_worthOfAll : ByteArray := prog_2_method_24_code
def yX0_worthOfAll : MethodName := ⟨RX0, "worthOfAll", "()I"⟩
abbrev cX0_bestWordFor : ByteArray := prog_2_method_25_code
def yX0_bestWordFor : MethodName := ⟨RX0, "bestWordFor", "(I)I"⟩
abbrev cX0_borrows : ByteArray := prog_2_method_26_code
def yX0_borrows : MethodName := ⟨RX0, "borrows", "(I)Z"⟩
abbrev cX0_isFreeForLoan : ByteArray := prog_2_method_27_code
def yX0_isFreeForLoan : MethodName := ⟨RX0, "isFreeForLoan", "(I)Z"⟩
abbrev cX0_loans : ByteArray := prog_2_method_28_code
def yX0_loans : MethodName := ⟨RX0, "loans", "()I"⟩
abbrev cX0_startLoan : ByteArray := prog_2_method_29_code
def yX0_startLoan : MethodName := ⟨RX0, "startLoan", "(II)V"⟩
abbrev cX0_endLoan : ByteArray := prog_2_method_30_code
def yX0_endLoan : MethodName := ⟨RX0, "endLoan", "(I)V"⟩
abbrev cX0_endLoansOf : ByteArray := prog_2_method_31_code
def yX0_endLoansOf : MethodName := ⟨RX0, "endLoansOf", "(IZ)V"⟩
abbrev cX0_passNights : ByteArray := prog_2_method_32_code
def yX0_passNights : MethodName := ⟨RX0, "passNights", "(I)I"⟩
abbrev cX0_nextPrey : ByteArray := prog_2_method_33_code
def yX0_nextPrey : MethodName := ⟨RX0, "nextPrey", "()I"⟩
abbrev cX0_doorOfThief : ByteArray := prog_2_method_34_code
def yX0_doorOfThief : MethodName := ⟨RX0, "doorOfThief", "()I"⟩
abbrev cX0_preyOn : ByteArray := prog_2_method_35_code
def yX0_preyOn : MethodName := ⟨RX0, "preyOn", "(I)I"⟩
abbrev cX0_watchOneNightFewer : ByteArray := prog_2_method_36_code
def yX0_watchOneNightFewer : MethodName := ⟨RX0, "watchOneNightFewer", "()V"⟩
abbrev cX0_steal : ByteArray := prog_2_method_37_code
def yX0_steal : MethodName := ⟨RX0, "steal", "(II)V"⟩
abbrev cX0_settingValue : ByteArray := prog_2_method_38_code
def yX0_settingValue : MethodName := ⟨RX0, "settingValue", "(I)I"⟩
abbrev cX0_changeSetting : ByteArray := prog_2_method_39_code
def yX0_changeSetting : MethodName := ⟨RX0, "changeSetting", "(II)V"⟩
abbrev cX0_wordProperty : ByteArray := prog_2_method_40_code
def yX0_wordProperty : MethodName := ⟨RX0, "wordProperty", "(II)I"⟩
abbrev cX0_lineProperty : ByteArray := prog_2_method_41_code
def yX0_lineProperty : MethodName := ⟨RX0, "lineProperty", "(II)I"⟩
abbrev cX0_doorProperty : ByteArray := prog_2_method_42_code
def yX0_doorProperty : MethodName := ⟨RX0, "doorProperty", "(II)I"⟩
def RX1 : String := "MagnetPoems$History"
def TX1 : u_T := fun k => match k with
  | 0 => ("MagnetPoems$History", "states", "[LMagnetPoems$Board;", true)
  | 1 => ("MagnetPoems$History", "oldest", "I", false)
  | _ => ("MagnetPoems$History", "size", "I", false)
def tyX1 : Nat → FieldType := fun k => match k with
  | 0 => .array (.object "MagnetPoems$Board")
  | 1 => .int
  | _ => .int
abbrev wsX10 : List Cond := u_ws RX1 TX1 3
theorem nmX1 : ∀ a, a < 3 → ∀ b, b < 3 → a ≠ b → (TX1 a).2.1 ≠ (TX1 b).2.1 := by decide +kernel
theorem tyX1_ok : ∀ k, k < 3 → parseFieldDescriptor (TX1 k).2.2.1 = some (tyX1 k) := by decide +kernel
abbrev cX1_init : ByteArray := prog_3_method_1_code
def yX1_init : MethodName := ⟨RX1, "<init>", "()V"⟩
abbrev cX1_save : ByteArray := prog_3_method_2_code
def yX1_save : MethodName := ⟨RX1, "save", "(LMagnetPoems$Board;)V"⟩
abbrev cX1_stateAt : ByteArray := prog_3_method_4_code
def yX1_stateAt : MethodName := ⟨RX1, "stateAt", "(I)LMagnetPoems$Board;"⟩
def RX2 : String := "MagnetPoems$PoemReader"
def TX2 : u_T := fun k => match k with
  | 0 => ("MagnetPoems$PoemReader", "told", "[Z", true)
  | 1 => ("MagnetPoems$PoemReader", "words", "[I", true)
  | 2 => ("MagnetPoems$PoemReader", "lines", "[I", true)
  | 3 => ("MagnetPoems$PoemReader", "found", "I", false)
  | 4 => ("MagnetPoems$PoemReader", "line", "I", false)
  | 5 => ("MagnetPoems$PoemReader", "wordsOnLine", "I", false)
  | _ => ("MagnetPoems$PoemReader", "number", "I", false)
def tyX2 : Nat → FieldType := fun k => match k with
  | 0 => .array .boolean
  | 1 => .array .int
  | 2 => .array .int
  | 3 => .int
  | 4 => .int
  | 5 => .int
  | _ => .int
abbrev wsX20 : List Cond := u_ws RX2 TX2 7
theorem nmX2 : ∀ a, a < 7 → ∀ b, b < 7 → a ≠ b → (TX2 a).2.1 ≠ (TX2 b).2.1 := by decide +kernel
theorem tyX2_ok : ∀ k, k < 7 → parseFieldDescriptor (TX2 k).2.2.1 = some (tyX2 k) := by decide +kernel
abbrev cX2_init : ByteArray := prog_4_method_1_code
def yX2_init : MethodName := ⟨RX2, "<init>", "()V"⟩
def RX3 : String := "MagnetPoems"
def TX3 : u_T := fun k => match k with
  | 0 => ("MagnetPoems", "board", "LMagnetPoems$Board;", true)
  | 1 => ("MagnetPoems", "dream", "LMagnetPoems$Board;", true)
  | 2 => ("MagnetPoems", "history", "LMagnetPoems$History;", true)
  | 3 => ("MagnetPoems", "slots", "[LMagnetPoems$Board;", true)
  | 4 => ("MagnetPoems", "kept", "[Z", true)
  | 5 => ("MagnetPoems", "buffer", "[I", true)
  | 6 => ("MagnetPoems", "bufferLength", "I", false)
  | _ => ("MagnetPoems", "reader", "LMagnetPoems$PoemReader;", true)
def tyX3 : Nat → FieldType := fun k => match k with
  | 0 => .object "MagnetPoems$Board"
  | 1 => .object "MagnetPoems$Board"
  | 2 => .object "MagnetPoems$History"
  | 3 => .array (.object "MagnetPoems$Board")
  | 4 => .array .boolean
  | 5 => .array .int
  | 6 => .int
  | _ => .object "MagnetPoems$PoemReader"
abbrev wsX30 : List Cond := u_ws RX3 TX3 8
theorem nmX3 : ∀ a, a < 8 → ∀ b, b < 8 → a ≠ b → (TX3 a).2.1 ≠ (TX3 b).2.1 := by decide +kernel
theorem tyX3_ok : ∀ k, k < 8 → parseFieldDescriptor (TX3 k).2.2.1 = some (tyX3 k) := by decide +kernel
abbrev cX3_init : ByteArray := prog_1_method_1_code
def yX3_init : MethodName := ⟨RX3, "<init>", "()V"⟩
abbrev cX3_put : ByteArray := prog_1_method_2_code
def yX3_put : MethodName := ⟨RX3, "put", "(IIII)I"⟩
abbrev cX3_takeOff : ByteArray := prog_1_method_3_code
def yX3_takeOff : MethodName := ⟨RX3, "takeOff", "(I)I"⟩
abbrev cX3_move : ByteArray := prog_1_method_4_code
def yX3_move : MethodName := ⟨RX3, "move", "(III)I"⟩
abbrev cX3_clearDoor : ByteArray := prog_1_method_5_code
def yX3_clearDoor : MethodName := ⟨RX3, "clearDoor", "(I)I"⟩
abbrev cX3_borrow : ByteArray := prog_1_method_6_code
def yX3_borrow : MethodName := ⟨RX3, "borrow", "(IIII)I"⟩
abbrev cX3_bringBack : ByteArray := prog_1_method_7_code
def yX3_bringBack : MethodName := ⟨RX3, "bringBack", "(II)I"⟩
abbrev cX3_sleep : ByteArray := prog_1_method_8_code
def yX3_sleep : MethodName := ⟨RX3, "sleep", "(I)I"⟩
abbrev cX3_set : ByteArray := prog_1_method_9_code
def yX3_set : MethodName := ⟨RX3, "set", "(II)I"⟩
abbrev cX3_wordOf : ByteArray := prog_1_method_18_code
def yX3_wordOf : MethodName := ⟨RX3, "wordOf", "(II)I"⟩
abbrev cX3_at : ByteArray := prog_1_method_19_code
def yX3_at : MethodName := ⟨RX3, "at", "(III)I"⟩
abbrev cX3_lineOf : ByteArray := prog_1_method_20_code
def yX3_lineOf : MethodName := ⟨RX3, "lineOf", "(III)I"⟩
abbrev cX3_doorOf : ByteArray := prog_1_method_21_code
def yX3_doorOf : MethodName := ⟨RX3, "doorOf", "(II)I"⟩
abbrev cX3_count : ByteArray := prog_1_method_22_code
def yX3_count : MethodName := ⟨RX3, "count", "(I)I"⟩
abbrev cX3_setting : ByteArray := prog_1_method_23_code
def yX3_setting : MethodName := ⟨RX3, "setting", "(I)I"⟩
abbrev cX3_whyNot : ByteArray := prog_1_method_24_code
def yX3_whyNot : MethodName := ⟨RX3, "whyNot", "(IIII)I"⟩
abbrev cX3_bestWord : ByteArray := prog_1_method_25_code
def yX3_bestWord : MethodName := ⟨RX3, "bestWord", "(II)I"⟩
abbrev cX3_prey : ByteArray := prog_1_method_26_code
def yX3_prey : MethodName := ⟨RX3, "prey", "()I"⟩
abbrev cX3_ifSlept : ByteArray := prog_1_method_27_code
def yX3_ifSlept : MethodName := ⟨RX3, "ifSlept", "(II)I"⟩
abbrev cX3_shownShare : ByteArray := prog_1_method_28_code
def yX3_shownShare : MethodName := ⟨RX3, "shownShare", "()D"⟩
abbrev cX3_share : ByteArray := prog_1_method_33_code
def yX3_share : MethodName := ⟨RX3, "share", "()D"⟩
abbrev cX3_numberOf : ByteArray := prog_1_method_34_code
def yX3_numberOf : MethodName := ⟨RX3, "numberOf", "(I)I"⟩
abbrev cX3_isWord : ByteArray := prog_1_method_41_code
def yX3_isWord : MethodName := ⟨RX3, "isWord", "(I)Z"⟩
abbrev cX3_isDoor : ByteArray := prog_1_method_42_code
def yX3_isDoor : MethodName := ⟨RX3, "isDoor", "(I)Z"⟩
abbrev cX3_isLine : ByteArray := prog_1_method_43_code
def yX3_isLine : MethodName := ⟨RX3, "isLine", "(II)Z"⟩
abbrev cX3_isPlaceToPut : ByteArray := prog_1_method_44_code
def yX3_isPlaceToPut : MethodName := ⟨RX3, "isPlaceToPut", "(III)Z"⟩
abbrev cX3_isNights : ByteArray := prog_1_method_45_code
def yX3_isNights : MethodName := ⟨RX3, "isNights", "(I)Z"⟩
abbrev cX3_isSetting : ByteArray := prog_1_method_46_code
def yX3_isSetting : MethodName := ⟨RX3, "isSetting", "(I)Z"⟩
abbrev cX3_greatestOf : ByteArray := prog_1_method_48_code
def yX3_greatestOf : MethodName := ⟨RX3, "greatestOf", "(I)I"⟩
abbrev cX3_kindOf : ByteArray := prog_1_method_49_code
def yX3_kindOf : MethodName := ⟨RX3, "kindOf", "(I)I"⟩
abbrev cX3_endingOf : ByteArray := prog_1_method_50_code
def yX3_endingOf : MethodName := ⟨RX3, "endingOf", "(I)I"⟩
abbrev cX3_beatsOf : ByteArray := prog_1_method_51_code
def yX3_beatsOf : MethodName := ⟨RX3, "beatsOf", "(I)I"⟩
abbrev cX3_clash : ByteArray := prog_1_method_52_code
def yX3_clash : MethodName := ⟨RX3, "clash", "(II)Z"⟩
abbrev cX3_lineNumber : ByteArray := prog_1_method_53_code
def yX3_lineNumber : MethodName := ⟨RX3, "lineNumber", "(II)I"⟩
abbrev cX3_lineCode : ByteArray := prog_1_method_54_code
def yX3_lineCode : MethodName := ⟨RX3, "lineCode", "(I)I"⟩
abbrev cX3_cell : ByteArray := prog_1_method_55_code
def yX3_cell : MethodName := ⟨RX3, "cell", "([II)I"⟩
abbrev cX3_setCell : ByteArray := prog_1_method_56_code
def yX3_setCell : MethodName := ⟨RX3, "setCell", "([III)V"⟩
abbrev cX3_copyRow : ByteArray := prog_1_method_57_code
def yX3_copyRow : MethodName := ⟨RX3, "copyRow", "([I[I)V"⟩
abbrev cX3_fillRow : ByteArray := prog_1_method_58_code
def yX3_fillRow : MethodName := ⟨RX3, "fillRow", "([II)V"⟩
def RX4 : String := "MagnetPoemsModel"
def TX4 : u_T := fun k => match k with
  | _ => ("", "", "", false)
def tyX4 : Nat → FieldType := fun k => match k with
  | _ => .int
abbrev wsX40 : List Cond := u_ws RX4 TX4 0
theorem nmX4 : ∀ a, a < 0 → ∀ b, b < 0 → a ≠ b → (TX4 a).2.1 ≠ (TX4 b).2.1 := by decide +kernel
theorem tyX4_ok : ∀ k, k < 0 → parseFieldDescriptor (TX4 k).2.2.1 = some (tyX4 k) := by decide +kernel
def RL : String := "MagnetPoemsLaw"
abbrev cL_cell : ByteArray := method_2_code
def yL_cell : MethodName := ⟨RL, "cell", "([II)I"⟩
abbrev cL_low : ByteArray := method_3_code
def yL_low : MethodName := ⟨RL, "low", "(II)I"⟩
abbrev cL_isOn : ByteArray := method_4_code
def yL_isOn : MethodName := ⟨RL, "isOn", "([III)Z"⟩
abbrev cL_many : ByteArray := method_5_code
def yL_many : MethodName := ⟨RL, "many", "([II)I"⟩
abbrev cL_wordAt : ByteArray := method_6_code
def yL_wordAt : MethodName := ⟨RL, "wordAt", "([III)I"⟩
abbrev cL_last : ByteArray := method_7_code
def yL_last : MethodName := ⟨RL, "last", "([II)I"⟩
abbrev cL_beats : ByteArray := method_8_code
def yL_beats : MethodName := ⟨RL, "beats", "([II)I"⟩
abbrev cL_endLoans : ByteArray := method_9_code
def yL_endLoans : MethodName := ⟨RL, "endLoans", "([I[III)V"⟩
abbrev cL_leaves : ByteArray := method_10_code
def yL_leaves : MethodName := ⟨RL, "leaves", "([I[II)V"⟩
abbrev cL_comes : ByteArray := method_11_code
def yL_comes : MethodName := ⟨RL, "comes", "([I[IIII)V"⟩
abbrev cL_reason : ByteArray := method_12_code
def yL_reason : MethodName := ⟨RL, "reason", "([I[IIII)I"⟩
abbrev cL_worth : ByteArray := method_13_code
def yL_worth : MethodName := ⟨RL, "worth", "([II)I"⟩
abbrev cL_ending : ByteArray := method_14_code
def yL_ending : MethodName := ⟨RL, "ending", "([I[II)I"⟩
abbrev cL_rhymes : ByteArray := method_15_code
def yL_rhymes : MethodName := ⟨RL, "rhymes", "([I[II)I"⟩
abbrev cL_doorWorth : ByteArray := method_16_code
def yL_doorWorth : MethodName := ⟨RL, "doorWorth", "([I[II)I"⟩
abbrev cL_doorWords : ByteArray := method_17_code
def yL_doorWords : MethodName := ⟨RL, "doorWords", "([II)I"⟩
abbrev cL_prey : ByteArray := method_18_code
def yL_prey : MethodName := ⟨RL, "prey", "([I[I[I)I"⟩
abbrev cL_night : ByteArray := method_19_code
def yL_night : MethodName := ⟨RL, "night", "([I[I[I[I)I"⟩
abbrev cL_copy : ByteArray := method_20_code
def yL_copy : MethodName := ⟨RL, "copy", "([I[I)V"⟩
abbrev cL_areWords : ByteArray := method_21_code
def yL_areWords : MethodName := ⟨RL, "areWords", "(LMagnetPoems;[I[I)Z"⟩
abbrev cL_told : ByteArray := method_22_code
def yL_told : MethodName := ⟨RL, "told", "(I)I"⟩
abbrev cL_isLine : ByteArray := method_23_code
def yL_isLine : MethodName := ⟨RL, "isLine", "(LMagnetPoems;[I[II)Z"⟩
abbrev cL_areDoors : ByteArray := method_24_code
def yL_areDoors : MethodName := ⟨RL, "areDoors", "(LMagnetPoems;[I[I[I)Z"⟩
abbrev cL_bestWord : ByteArray := method_25_code
def yL_bestWord : MethodName := ⟨RL, "bestWord", "([I[I[II)I"⟩
abbrev cL_would : ByteArray := method_26_code
def yL_would : MethodName := ⟨RL, "would", "(LMagnetPoems;[I[I[I[II)Z"⟩
abbrev cL_some : ByteArray := method_27_code
def yL_some : MethodName := ⟨RL, "some", "([IIZ)I"⟩
abbrev cL_puts : ByteArray := method_28_code
def yL_puts : MethodName := ⟨RL, "puts", "(LMagnetPoems;[I[I[III)Z"⟩
abbrev cL_moves : ByteArray := method_29_code
def yL_moves : MethodName := ⟨RL, "moves", "(LMagnetPoems;[I[I[II)Z"⟩
abbrev cL_takesOff : ByteArray := method_30_code
def yL_takesOff : MethodName := ⟨RL, "takesOff", "(LMagnetPoems;[I[II)Z"⟩
abbrev cL_clears : ByteArray := method_31_code
def yL_clears : MethodName := ⟨RL, "clears", "(LMagnetPoems;[I[II)Z"⟩
abbrev cL_isFree : ByteArray := method_32_code
def yL_isFree : MethodName := ⟨RL, "isFree", "([I[II)Z"⟩
abbrev cL_freeLine : ByteArray := method_33_code
def yL_freeLine : MethodName := ⟨RL, "freeLine", "([I[IIIZ)I"⟩
abbrev cL_lends : ByteArray := method_34_code
def yL_lends : MethodName := ⟨RL, "lends", "(LMagnetPoems;[I[II)Z"⟩
abbrev cL_bringsBack : ByteArray := method_35_code
def yL_bringsBack : MethodName := ⟨RL, "bringsBack", "(LMagnetPoems;[I[II)Z"⟩
abbrev cL_sleeps : ByteArray := method_36_code
def yL_sleeps : MethodName := ⟨RL, "sleeps", "(LMagnetPoems;[I[I[I[II)Z"⟩
abbrev cL_sets : ByteArray := method_37_code
def yL_sets : MethodName := ⟨RL, "sets", "(LMagnetPoems;[II)Z"⟩
abbrev cL_acts : ByteArray := method_38_code
def yL_acts : MethodName := ⟨RL, "acts", "(LMagnetPoems;[I[I[I[IIII)Z"⟩
abbrev cL_law : ByteArray := code
def yL_law : MethodName := ⟨RL, "law", "([I)Z"⟩
abbrev vwCl : List vw_C := [(RX0, TX0, 13), (RX1, TX1, 3), (RX2, TX2, 7), (RX3, TX3, 8)]
end
section
theorem dX0_init_0 : decode cX0_init 0 = .ok (.aload_n 0, 1) := by decide +kernel
theorem dX0_init_1 : decode cX0_init 1 = .ok (.invokespecial 3, 3) := by decide +kernel
theorem dX0_init_4 : decode cX0_init 4 = .ok (.aload_n 0, 1) := by decide +kernel
theorem dX0_init_5 : decode cX0_init 5 = .ok (.bipush 40, 2) := by decide +kernel
theorem dX0_init_7 : decode cX0_init 7 = .ok (.newarray .int, 2) := by decide +kernel
theorem dX0_init_9 : decode cX0_init 9 = .ok (.putfield 9, 3) := by decide +kernel
theorem dX0_init_12 : decode cX0_init 12 = .ok (.aload_n 0, 1) := by decide +kernel
theorem dX0_init_13 : decode cX0_init 13 = .ok (.bipush 96, 2) := by decide +kernel
theorem dX0_init_15 : decode cX0_init 15 = .ok (.newarray .int, 2) := by decide +kernel
theorem dX0_init_17 : decode cX0_init 17 = .ok (.putfield 15, 3) := by decide +kernel
theorem dX0_init_20 : decode cX0_init 20 = .ok (.aload_n 0, 1) := by decide +kernel
theorem dX0_init_21 : decode cX0_init 21 = .ok (.bipush 16, 2) := by decide +kernel
theorem dX0_init_23 : decode cX0_init 23 = .ok (.newarray .int, 2) := by decide +kernel
theorem dX0_init_25 : decode cX0_init 25 = .ok (.putfield 18, 3) := by decide +kernel
theorem dX0_init_28 : decode cX0_init 28 = .ok (.aload_n 0, 1) := by decide +kernel
theorem dX0_init_29 : decode cX0_init 29 = .ok (.bipush 16, 2) := by decide +kernel
theorem dX0_init_31 : decode cX0_init 31 = .ok (.newarray .int, 2) := by decide +kernel
theorem dX0_init_33 : decode cX0_init 33 = .ok (.putfield 21, 3) := by decide +kernel
theorem dX0_init_36 : decode cX0_init 36 = .ok (.aload_n 0, 1) := by decide +kernel
theorem dX0_init_37 : decode cX0_init 37 = .ok (.bipush 16, 2) := by decide +kernel
theorem dX0_init_39 : decode cX0_init 39 = .ok (.newarray .int, 2) := by decide +kernel
theorem dX0_init_41 : decode cX0_init 41 = .ok (.putfield 24, 3) := by decide +kernel
theorem dX0_init_44 : decode cX0_init 44 = .ok (.aload_n 0, 1) := by decide +kernel
theorem dX0_init_45 : decode cX0_init 45 = .ok (.bipush 40, 2) := by decide +kernel
theorem dX0_init_47 : decode cX0_init 47 = .ok (.newarray .int, 2) := by decide +kernel
theorem dX0_init_49 : decode cX0_init 49 = .ok (.putfield 27, 3) := by decide +kernel
theorem dX0_init_52 : decode cX0_init 52 = .ok (.aload_n 0, 1) := by decide +kernel
theorem dX0_init_53 : decode cX0_init 53 = .ok (.iconst 4, 1) := by decide +kernel
theorem dX0_init_54 : decode cX0_init 54 = .ok (.newarray .int, 2) := by decide +kernel
theorem dX0_init_56 : decode cX0_init 56 = .ok (.putfield 30, 3) := by decide +kernel
theorem dX0_init_59 : decode cX0_init 59 = .ok (.aload_n 0, 1) := by decide +kernel
theorem dX0_init_60 : decode cX0_init 60 = .ok (.iconst 4, 1) := by decide +kernel
theorem dX0_init_61 : decode cX0_init 61 = .ok (.newarray .int, 2) := by decide +kernel
theorem dX0_init_63 : decode cX0_init 63 = .ok (.putfield 33, 3) := by decide +kernel
theorem dX0_init_66 : decode cX0_init 66 = .ok (.aload_n 0, 1) := by decide +kernel
theorem dX0_init_67 : decode cX0_init 67 = .ok (.iconst 3, 1) := by decide +kernel
theorem dX0_init_68 : decode cX0_init 68 = .ok (.newarray .int, 2) := by decide +kernel
theorem dX0_init_70 : decode cX0_init 70 = .ok (.putfield 36, 3) := by decide +kernel
theorem dX0_init_73 : decode cX0_init 73 = .ok (.aload_n 0, 1) := by decide +kernel
theorem dX0_init_74 : decode cX0_init 74 = .ok (.getfield 9, 3) := by decide +kernel
theorem dX0_init_77 : decode cX0_init 77 = .ok (.iconst (-1), 1) := by decide +kernel
theorem dX0_init_78 : decode cX0_init 78 = .ok (.invokestatic 39, 3) := by decide +kernel
theorem dX0_init_81 : decode cX0_init 81 = .ok (.aload_n 0, 1) := by decide +kernel
theorem dX0_init_82 : decode cX0_init 82 = .ok (.getfield 15, 3) := by decide +kernel
theorem dX0_init_85 : decode cX0_init 85 = .ok (.iconst (-1), 1) := by decide +kernel
theorem dX0_init_86 : decode cX0_init 86 = .ok (.invokestatic 39, 3) := by decide +kernel
theorem dX0_init_89 : decode cX0_init 89 = .ok (.aload_n 0, 1) := by decide +kernel
theorem dX0_init_90 : decode cX0_init 90 = .ok (.getfield 21, 3) := by decide +kernel
theorem dX0_init_93 : decode cX0_init 93 = .ok (.iconst (-1), 1) := by decide +kernel
theorem dX0_init_94 : decode cX0_init 94 = .ok (.invokestatic 39, 3) := by decide +kernel
theorem dX0_init_97 : decode cX0_init 97 = .ok (.aload_n 0, 1) := by decide +kernel
theorem dX0_init_98 : decode cX0_init 98 = .ok (.getfield 24, 3) := by decide +kernel
theorem dX0_init_101 : decode cX0_init 101 = .ok (.iconst (-1), 1) := by decide +kernel
theorem dX0_init_102 : decode cX0_init 102 = .ok (.invokestatic 39, 3) := by decide +kernel
theorem dX0_init_105 : decode cX0_init 105 = .ok (.aload_n 0, 1) := by decide +kernel
theorem dX0_init_106 : decode cX0_init 106 = .ok (.getfield 36, 3) := by decide +kernel
theorem dX0_init_109 : decode cX0_init 109 = .ok (.iconst 1, 1) := by decide +kernel
theorem dX0_init_110 : decode cX0_init 110 = .ok (.bipush 20, 2) := by decide +kernel
theorem dX0_init_112 : decode cX0_init 112 = .ok (.invokestatic 43, 3) := by decide +kernel
theorem dX0_init_115 : decode cX0_init 115 = .ok (.aload_n 0, 1) := by decide +kernel
theorem dX0_init_116 : decode cX0_init 116 = .ok (.getfield 36, 3) := by decide +kernel
theorem dX0_init_119 : decode cX0_init 119 = .ok (.iconst 2, 1) := by decide +kernel
theorem dX0_init_120 : decode cX0_init 120 = .ok (.iconst 1, 1) := by decide +kernel
theorem dX0_init_121 : decode cX0_init 121 = .ok (.invokestatic 43, 3) := by decide +kernel
theorem dX0_init_124 : decode cX0_init 124 = .ok (.return_, 1) := by decide +kernel
theorem dX0_copyFrom_0 : decode cX0_copyFrom 0 = .ok (.aload_n 1, 1) := by decide +kernel
theorem dX0_copyFrom_1 : decode cX0_copyFrom 1 = .ok (.getfield 9, 3) := by decide +kernel
theorem dX0_copyFrom_4 : decode cX0_copyFrom 4 = .ok (.aload_n 0, 1) := by decide +kernel
theorem dX0_copyFrom_5 : decode cX0_copyFrom 5 = .ok (.getfield 9, 3) := by decide +kernel
theorem dX0_copyFrom_8 : decode cX0_copyFrom 8 = .ok (.invokestatic 47, 3) := by decide +kernel
theorem dX0_copyFrom_11 : decode cX0_copyFrom 11 = .ok (.aload_n 1, 1) := by decide +kernel
theorem dX0_copyFrom_12 : decode cX0_copyFrom 12 = .ok (.getfield 15, 3) := by decide +kernel
theorem dX0_copyFrom_15 : decode cX0_copyFrom 15 = .ok (.aload_n 0, 1) := by decide +kernel
theorem dX0_copyFrom_16 : decode cX0_copyFrom 16 = .ok (.getfield 15, 3) := by decide +kernel
theorem dX0_copyFrom_19 : decode cX0_copyFrom 19 = .ok (.invokestatic 47, 3) := by decide +kernel
theorem dX0_copyFrom_22 : decode cX0_copyFrom 22 = .ok (.aload_n 1, 1) := by decide +kernel
theorem dX0_copyFrom_23 : decode cX0_copyFrom 23 = .ok (.getfield 18, 3) := by decide +kernel
theorem dX0_copyFrom_26 : decode cX0_copyFrom 26 = .ok (.aload_n 0, 1) := by decide +kernel
theorem dX0_copyFrom_27 : decode cX0_copyFrom 27 = .ok (.getfield 18, 3) := by decide +kernel
theorem dX0_copyFrom_30 : decode cX0_copyFrom 30 = .ok (.invokestatic 47, 3) := by decide +kernel
theorem dX0_copyFrom_33 : decode cX0_copyFrom 33 = .ok (.aload_n 1, 1) := by decide +kernel
theorem dX0_copyFrom_34 : decode cX0_copyFrom 34 = .ok (.getfield 21, 3) := by decide +kernel
theorem dX0_copyFrom_37 : decode cX0_copyFrom 37 = .ok (.aload_n 0, 1) := by decide +kernel
theorem dX0_copyFrom_38 : decode cX0_copyFrom 38 = .ok (.getfield 21, 3) := by decide +kernel
theorem dX0_copyFrom_41 : decode cX0_copyFrom 41 = .ok (.invokestatic 47, 3) := by decide +kernel
theorem dX0_copyFrom_44 : decode cX0_copyFrom 44 = .ok (.aload_n 1, 1) := by decide +kernel
theorem dX0_copyFrom_45 : decode cX0_copyFrom 45 = .ok (.getfield 24, 3) := by decide +kernel
theorem dX0_copyFrom_48 : decode cX0_copyFrom 48 = .ok (.aload_n 0, 1) := by decide +kernel
theorem dX0_copyFrom_49 : decode cX0_copyFrom 49 = .ok (.getfield 24, 3) := by decide +kernel
theorem dX0_copyFrom_52 : decode cX0_copyFrom 52 = .ok (.invokestatic 47, 3) := by decide +kernel
theorem dX0_copyFrom_55 : decode cX0_copyFrom 55 = .ok (.aload_n 1, 1) := by decide +kernel
theorem dX0_copyFrom_56 : decode cX0_copyFrom 56 = .ok (.getfield 27, 3) := by decide +kernel
theorem dX0_copyFrom_59 : decode cX0_copyFrom 59 = .ok (.aload_n 0, 1) := by decide +kernel
theorem dX0_copyFrom_60 : decode cX0_copyFrom 60 = .ok (.getfield 27, 3) := by decide +kernel
theorem dX0_copyFrom_63 : decode cX0_copyFrom 63 = .ok (.invokestatic 47, 3) := by decide +kernel
theorem dX0_copyFrom_66 : decode cX0_copyFrom 66 = .ok (.aload_n 1, 1) := by decide +kernel
theorem dX0_copyFrom_67 : decode cX0_copyFrom 67 = .ok (.getfield 30, 3) := by decide +kernel
theorem dX0_copyFrom_70 : decode cX0_copyFrom 70 = .ok (.aload_n 0, 1) := by decide +kernel
theorem dX0_copyFrom_71 : decode cX0_copyFrom 71 = .ok (.getfield 30, 3) := by decide +kernel
theorem dX0_copyFrom_74 : decode cX0_copyFrom 74 = .ok (.invokestatic 47, 3) := by decide +kernel
theorem dX0_copyFrom_77 : decode cX0_copyFrom 77 = .ok (.aload_n 1, 1) := by decide +kernel
theorem dX0_copyFrom_78 : decode cX0_copyFrom 78 = .ok (.getfield 33, 3) := by decide +kernel
theorem dX0_copyFrom_81 : decode cX0_copyFrom 81 = .ok (.aload_n 0, 1) := by decide +kernel
theorem dX0_copyFrom_82 : decode cX0_copyFrom 82 = .ok (.getfield 33, 3) := by decide +kernel
theorem dX0_copyFrom_85 : decode cX0_copyFrom 85 = .ok (.invokestatic 47, 3) := by decide +kernel
theorem dX0_copyFrom_88 : decode cX0_copyFrom 88 = .ok (.aload_n 1, 1) := by decide +kernel
theorem dX0_copyFrom_89 : decode cX0_copyFrom 89 = .ok (.getfield 36, 3) := by decide +kernel
theorem dX0_copyFrom_92 : decode cX0_copyFrom 92 = .ok (.aload_n 0, 1) := by decide +kernel
theorem dX0_copyFrom_93 : decode cX0_copyFrom 93 = .ok (.getfield 36, 3) := by decide +kernel
theorem dX0_copyFrom_96 : decode cX0_copyFrom 96 = .ok (.invokestatic 47, 3) := by decide +kernel
theorem dX0_copyFrom_99 : decode cX0_copyFrom 99 = .ok (.aload_n 0, 1) := by decide +kernel
theorem dX0_copyFrom_100 : decode cX0_copyFrom 100 = .ok (.aload_n 1, 1) := by decide +kernel
theorem dX0_copyFrom_101 : decode cX0_copyFrom 101 = .ok (.getfield 51, 3) := by decide +kernel
theorem dX0_copyFrom_104 : decode cX0_copyFrom 104 = .ok (.putfield 51, 3) := by decide +kernel
theorem dX0_copyFrom_107 : decode cX0_copyFrom 107 = .ok (.aload_n 0, 1) := by decide +kernel
theorem dX0_copyFrom_108 : decode cX0_copyFrom 108 = .ok (.aload_n 1, 1) := by decide +kernel
theorem dX0_copyFrom_109 : decode cX0_copyFrom 109 = .ok (.getfield 55, 3) := by decide +kernel
theorem dX0_copyFrom_112 : decode cX0_copyFrom 112 = .ok (.putfield 55, 3) := by decide +kernel
theorem dX0_copyFrom_115 : decode cX0_copyFrom 115 = .ok (.aload_n 0, 1) := by decide +kernel
theorem dX0_copyFrom_116 : decode cX0_copyFrom 116 = .ok (.aload_n 1, 1) := by decide +kernel
theorem dX0_copyFrom_117 : decode cX0_copyFrom 117 = .ok (.getfield 58, 3) := by decide +kernel
theorem dX0_copyFrom_120 : decode cX0_copyFrom 120 = .ok (.putfield 58, 3) := by decide +kernel
theorem dX0_copyFrom_123 : decode cX0_copyFrom 123 = .ok (.aload_n 0, 1) := by decide +kernel
theorem dX0_copyFrom_124 : decode cX0_copyFrom 124 = .ok (.aload_n 1, 1) := by decide +kernel
theorem dX0_copyFrom_125 : decode cX0_copyFrom 125 = .ok (.getfield 61, 3) := by decide +kernel
theorem dX0_copyFrom_128 : decode cX0_copyFrom 128 = .ok (.putfield 61, 3) := by decide +kernel
theorem dX0_copyFrom_131 : decode cX0_copyFrom 131 = .ok (.return_, 1) := by decide +kernel
theorem dX0_homeOf_0 : decode cX0_homeOf 0 = .ok (.aload_n 0, 1) := by decide +kernel
theorem dX0_homeOf_1 : decode cX0_homeOf 1 = .ok (.getfield 9, 3) := by decide +kernel
theorem dX0_homeOf_4 : decode cX0_homeOf 4 = .ok (.iload_n 1, 1) := by decide +kernel
theorem dX0_homeOf_5 : decode cX0_homeOf 5 = .ok (.invokestatic 64, 3) := by decide +kernel
theorem dX0_homeOf_8 : decode cX0_homeOf 8 = .ok (.ireturn, 1) := by decide +kernel
theorem dX0_isInBag_0 : decode cX0_isInBag 0 = .ok (.aload_n 0, 1) := by decide +kernel
theorem dX0_isInBag_1 : decode cX0_isInBag 1 = .ok (.getfield 9, 3) := by decide +kernel
theorem dX0_isInBag_4 : decode cX0_isInBag 4 = .ok (.iload_n 1, 1) := by decide +kernel
theorem dX0_isInBag_5 : decode cX0_isInBag 5 = .ok (.invokestatic 64, 3) := by decide +kernel
theorem dX0_isInBag_8 : decode cX0_isInBag 8 = .ok (.iconst (-1), 1) := by decide +kernel
theorem dX0_isInBag_9 : decode cX0_isInBag 9 = .ok (.if_icmp .ne 7, 3) := by decide +kernel
theorem dX0_isInBag_12 : decode cX0_isInBag 12 = .ok (.iconst 1, 1) := by decide +kernel
theorem dX0_isInBag_13 : decode cX0_isInBag 13 = .ok (.goto 4, 3) := by decide +kernel
theorem dX0_isInBag_16 : decode cX0_isInBag 16 = .ok (.iconst 0, 1) := by decide +kernel
theorem dX0_isInBag_17 : decode cX0_isInBag 17 = .ok (.ireturn, 1) := by decide +kernel
theorem dX0_sizeOf_0 : decode cX0_sizeOf 0 = .ok (.aload_n 0, 1) := by decide +kernel
theorem dX0_sizeOf_1 : decode cX0_sizeOf 1 = .ok (.getfield 18, 3) := by decide +kernel
theorem dX0_sizeOf_4 : decode cX0_sizeOf 4 = .ok (.iload_n 1, 1) := by decide +kernel
theorem dX0_sizeOf_5 : decode cX0_sizeOf 5 = .ok (.invokestatic 64, 3) := by decide +kernel
theorem dX0_sizeOf_8 : decode cX0_sizeOf 8 = .ok (.ireturn, 1) := by decide +kernel
theorem dX0_wordAt_0 : decode cX0_wordAt 0 = .ok (.iload_n 1, 1) := by decide +kernel
theorem dX0_wordAt_1 : decode cX0_wordAt 1 = .ok (.bipush 6, 2) := by decide +kernel
theorem dX0_wordAt_3 : decode cX0_wordAt 3 = .ok (.imul, 1) := by decide +kernel
theorem dX0_wordAt_4 : decode cX0_wordAt 4 = .ok (.iload_n 2, 1) := by decide +kernel
theorem dX0_wordAt_5 : decode cX0_wordAt 5 = .ok (.iadd, 1) := by decide +kernel
theorem dX0_wordAt_6 : decode cX0_wordAt 6 = .ok (.istore_n 3, 1) := by decide +kernel
theorem dX0_wordAt_7 : decode cX0_wordAt 7 = .ok (.iload_n 2, 1) := by decide +kernel
theorem dX0_wordAt_8 : decode cX0_wordAt 8 = .ok (.ifCond .lt 26, 3) := by decide +kernel
theorem dX0_wordAt_11 : decode cX0_wordAt 11 = .ok (.iload_n 2, 1) := by decide +kernel
theorem dX0_wordAt_12 : decode cX0_wordAt 12 = .ok (.bipush 6, 2) := by decide +kernel
theorem dX0_wordAt_14 : decode cX0_wordAt 14 = .ok (.if_icmp .ge 20, 3) := by decide +kernel
theorem dX0_wordAt_17 : decode cX0_wordAt 17 = .ok (.iload_n 3, 1) := by decide +kernel
theorem dX0_wordAt_18 : decode cX0_wordAt 18 = .ok (.ifCond .lt 16, 3) := by decide +kernel
theorem dX0_wordAt_21 : decode cX0_wordAt 21 = .ok (.iload_n 3, 1) := by decide +kernel
theorem dX0_wordAt_22 : decode cX0_wordAt 22 = .ok (.aload_n 0, 1) := by decide +kernel
theorem dX0_wordAt_23 : decode cX0_wordAt 23 = .ok (.getfield 15, 3) := by decide +kernel
theorem dX0_wordAt_26 : decode cX0_wordAt 26 = .ok (.arraylength, 1) := by decide +kernel
theorem dX0_wordAt_27 : decode cX0_wordAt 27 = .ok (.if_icmp .ge 7, 3) := by decide +kernel
theorem dX0_wordAt_30 : decode cX0_wordAt 30 = .ok (.iconst 1, 1) := by decide +kernel
theorem dX0_wordAt_31 : decode cX0_wordAt 31 = .ok (.goto 4, 3) := by decide +kernel
theorem dX0_wordAt_34 : decode cX0_wordAt 34 = .ok (.iconst 0, 1) := by decide +kernel
theorem dX0_wordAt_35 : decode cX0_wordAt 35 = .ok (.istore 4, 2) := by decide +kernel
theorem dX0_wordAt_37 : decode cX0_wordAt 37 = .ok (.iload 4, 2) := by decide +kernel
theorem dX0_wordAt_39 : decode cX0_wordAt 39 = .ok (.ifCond .eq 12, 3) := by decide +kernel
theorem dX0_wordAt_42 : decode cX0_wordAt 42 = .ok (.aload_n 0, 1) := by decide +kernel
theorem dX0_wordAt_43 : decode cX0_wordAt 43 = .ok (.getfield 15, 3) := by decide +kernel
theorem dX0_wordAt_46 : decode cX0_wordAt 46 = .ok (.iload_n 3, 1) := by decide +kernel
theorem dX0_wordAt_47 : decode cX0_wordAt 47 = .ok (.iaload, 1) := by decide +kernel
theorem dX0_wordAt_48 : decode cX0_wordAt 48 = .ok (.goto 4, 3) := by decide +kernel
theorem dX0_wordAt_51 : decode cX0_wordAt 51 = .ok (.iconst (-1), 1) := by decide +kernel
theorem dX0_wordAt_52 : decode cX0_wordAt 52 = .ok (.ireturn, 1) := by decide +kernel
theorem dX0_setWordAt_0 : decode cX0_setWordAt 0 = .ok (.iload_n 2, 1) := by decide +kernel
theorem dX0_setWordAt_1 : decode cX0_setWordAt 1 = .ok (.ifCond .lt 23, 3) := by decide +kernel
theorem dX0_setWordAt_4 : decode cX0_setWordAt 4 = .ok (.iload_n 2, 1) := by decide +kernel
theorem dX0_setWordAt_5 : decode cX0_setWordAt 5 = .ok (.bipush 6, 2) := by decide +kernel
theorem dX0_setWordAt_7 : decode cX0_setWordAt 7 = .ok (.if_icmp .ge 17, 3) := by decide +kernel
theorem dX0_setWordAt_10 : decode cX0_setWordAt 10 = .ok (.aload_n 0, 1) := by decide +kernel
theorem dX0_setWordAt_11 : decode cX0_setWordAt 11 = .ok (.getfield 15, 3) := by decide +kernel
theorem dX0_setWordAt_14 : decode cX0_setWordAt 14 = .ok (.iload_n 1, 1) := by decide +kernel
theorem dX0_setWordAt_15 : decode cX0_setWordAt 15 = .ok (.bipush 6, 2) := by decide +kernel
theorem dX0_setWordAt_17 : decode cX0_setWordAt 17 = .ok (.imul, 1) := by decide +kernel
theorem dX0_setWordAt_18 : decode cX0_setWordAt 18 = .ok (.iload_n 2, 1) := by decide +kernel
theorem dX0_setWordAt_19 : decode cX0_setWordAt 19 = .ok (.iadd, 1) := by decide +kernel
theorem dX0_setWordAt_20 : decode cX0_setWordAt 20 = .ok (.iload_n 3, 1) := by decide +kernel
theorem dX0_setWordAt_21 : decode cX0_setWordAt 21 = .ok (.invokestatic 43, 3) := by decide +kernel
theorem dX0_setWordAt_24 : decode cX0_setWordAt 24 = .ok (.return_, 1) := by decide +kernel
theorem dX0_placeOf_0 : decode cX0_placeOf 0 = .ok (.aload_n 0, 1) := by decide +kernel
theorem dX0_placeOf_1 : decode cX0_placeOf 1 = .ok (.getfield 9, 3) := by decide +kernel
theorem dX0_placeOf_4 : decode cX0_placeOf 4 = .ok (.iload_n 1, 1) := by decide +kernel
theorem dX0_placeOf_5 : decode cX0_placeOf 5 = .ok (.invokestatic 64, 3) := by decide +kernel
theorem dX0_placeOf_8 : decode cX0_placeOf 8 = .ok (.istore_n 2, 1) := by decide +kernel
theorem dX0_placeOf_9 : decode cX0_placeOf 9 = .ok (.iconst 0, 1) := by decide +kernel
theorem dX0_placeOf_10 : decode cX0_placeOf 10 = .ok (.istore_n 3, 1) := by decide +kernel
theorem dX0_placeOf_11 : decode cX0_placeOf 11 = .ok (.iload_n 3, 1) := by decide +kernel
theorem dX0_placeOf_12 : decode cX0_placeOf 12 = .ok (.aload_n 0, 1) := by decide +kernel
theorem dX0_placeOf_13 : decode cX0_placeOf 13 = .ok (.getfield 18, 3) := by decide +kernel
theorem dX0_placeOf_16 : decode cX0_placeOf 16 = .ok (.iload_n 2, 1) := by decide +kernel
theorem dX0_placeOf_17 : decode cX0_placeOf 17 = .ok (.invokestatic 64, 3) := by decide +kernel
theorem dX0_placeOf_20 : decode cX0_placeOf 20 = .ok (.if_icmp .ge 21, 3) := by decide +kernel
theorem dX0_placeOf_23 : decode cX0_placeOf 23 = .ok (.aload_n 0, 1) := by decide +kernel
theorem dX0_placeOf_24 : decode cX0_placeOf 24 = .ok (.iload_n 2, 1) := by decide +kernel
theorem dX0_placeOf_25 : decode cX0_placeOf 25 = .ok (.iload_n 3, 1) := by decide +kernel
theorem dX0_placeOf_26 : decode cX0_placeOf 26 = .ok (.invokevirtual 68, 3) := by decide +kernel
theorem dX0_placeOf_29 : decode cX0_placeOf 29 = .ok (.iload_n 1, 1) := by decide +kernel
theorem dX0_placeOf_30 : decode cX0_placeOf 30 = .ok (.if_icmp .ne 5, 3) := by decide +kernel
theorem dX0_placeOf_33 : decode cX0_placeOf 33 = .ok (.iload_n 3, 1) := by decide +kernel
theorem dX0_placeOf_34 : decode cX0_placeOf 34 = .ok (.ireturn, 1) := by decide +kernel
theorem dX0_placeOf_35 : decode cX0_placeOf 35 = .ok (.iinc 3 1, 3) := by decide +kernel
theorem dX0_placeOf_38 : decode cX0_placeOf 38 = .ok (.goto (-27), 3) := by decide +kernel
theorem dX0_placeOf_41 : decode cX0_placeOf 41 = .ok (.iconst (-1), 1) := by decide +kernel
theorem dX0_placeOf_42 : decode cX0_placeOf 42 = .ok (.ireturn, 1) := by decide +kernel
theorem dX0_bagToldByWords_0 : decode cX0_bagToldByWords 0 = .ok (.iconst 0, 1) := by decide +kernel
theorem dX0_bagToldByWords_1 : decode cX0_bagToldByWords 1 = .ok (.istore_n 1, 1) := by decide +kernel
theorem dX0_bagToldByWords_2 : decode cX0_bagToldByWords 2 = .ok (.iconst 0, 1) := by decide +kernel
theorem dX0_bagToldByWords_3 : decode cX0_bagToldByWords 3 = .ok (.istore_n 2, 1) := by decide +kernel
theorem dX0_bagToldByWords_4 : decode cX0_bagToldByWords 4 = .ok (.iload_n 2, 1) := by decide +kernel
theorem dX0_bagToldByWords_5 : decode cX0_bagToldByWords 5 = .ok (.aload_n 0, 1) := by decide +kernel
theorem dX0_bagToldByWords_6 : decode cX0_bagToldByWords 6 = .ok (.getfield 9, 3) := by decide +kernel
theorem dX0_bagToldByWords_9 : decode cX0_bagToldByWords 9 = .ok (.arraylength, 1) := by decide +kernel
theorem dX0_bagToldByWords_10 : decode cX0_bagToldByWords 10 = .ok (.if_icmp .ge 22, 3) := by decide +kernel
theorem dX0_bagToldByWords_13 : decode cX0_bagToldByWords 13 = .ok (.aload_n 0, 1) := by decide +kernel
theorem dX0_bagToldByWords_14 : decode cX0_bagToldByWords 14 = .ok (.getfield 9, 3) := by decide +kernel
theorem dX0_bagToldByWords_17 : decode cX0_bagToldByWords 17 = .ok (.iload_n 2, 1) := by decide +kernel
theorem dX0_bagToldByWords_18 : decode cX0_bagToldByWords 18 = .ok (.iaload, 1) := by decide +kernel
theorem dX0_bagToldByWords_19 : decode cX0_bagToldByWords 19 = .ok (.iconst (-1), 1) := by decide +kernel
theorem dX0_bagToldByWords_20 : decode cX0_bagToldByWords 20 = .ok (.if_icmp .ne 6, 3) := by decide +kernel
theorem dX0_bagToldByWords_23 : decode cX0_bagToldByWords 23 = .ok (.iinc 1 1, 3) := by decide +kernel
theorem dX0_bagToldByWords_26 : decode cX0_bagToldByWords 26 = .ok (.iinc 2 1, 3) := by decide +kernel
theorem dX0_bagToldByWords_29 : decode cX0_bagToldByWords 29 = .ok (.goto (-25), 3) := by decide +kernel
theorem dX0_bagToldByWords_32 : decode cX0_bagToldByWords 32 = .ok (.iload_n 1, 1) := by decide +kernel
theorem dX0_bagToldByWords_33 : decode cX0_bagToldByWords 33 = .ok (.ireturn, 1) := by decide +kernel
theorem dX0_bagToldByLines_0 : decode cX0_bagToldByLines 0 = .ok (.bipush 40, 2) := by decide +kernel
theorem dX0_bagToldByLines_2 : decode cX0_bagToldByLines 2 = .ok (.istore_n 1, 1) := by decide +kernel
theorem dX0_bagToldByLines_3 : decode cX0_bagToldByLines 3 = .ok (.iconst 0, 1) := by decide +kernel
theorem dX0_bagToldByLines_4 : decode cX0_bagToldByLines 4 = .ok (.istore_n 2, 1) := by decide +kernel
theorem dX0_bagToldByLines_5 : decode cX0_bagToldByLines 5 = .ok (.iload_n 2, 1) := by decide +kernel
theorem dX0_bagToldByLines_6 : decode cX0_bagToldByLines 6 = .ok (.aload_n 0, 1) := by decide +kernel
theorem dX0_bagToldByLines_7 : decode cX0_bagToldByLines 7 = .ok (.getfield 18, 3) := by decide +kernel
theorem dX0_bagToldByLines_10 : decode cX0_bagToldByLines 10 = .ok (.arraylength, 1) := by decide +kernel
theorem dX0_bagToldByLines_11 : decode cX0_bagToldByLines 11 = .ok (.if_icmp .ge 18, 3) := by decide +kernel
theorem dX0_bagToldByLines_14 : decode cX0_bagToldByLines 14 = .ok (.iload_n 1, 1) := by decide +kernel
theorem dX0_bagToldByLines_15 : decode cX0_bagToldByLines 15 = .ok (.aload_n 0, 1) := by decide +kernel
theorem dX0_bagToldByLines_16 : decode cX0_bagToldByLines 16 = .ok (.getfield 18, 3) := by decide +kernel
theorem dX0_bagToldByLines_19 : decode cX0_bagToldByLines 19 = .ok (.iload_n 2, 1) := by decide +kernel
theorem dX0_bagToldByLines_20 : decode cX0_bagToldByLines 20 = .ok (.iaload, 1) := by decide +kernel
theorem dX0_bagToldByLines_21 : decode cX0_bagToldByLines 21 = .ok (.isub, 1) := by decide +kernel
theorem dX0_bagToldByLines_22 : decode cX0_bagToldByLines 22 = .ok (.istore_n 1, 1) := by decide +kernel
theorem dX0_bagToldByLines_23 : decode cX0_bagToldByLines 23 = .ok (.iinc 2 1, 3) := by decide +kernel
theorem dX0_bagToldByLines_26 : decode cX0_bagToldByLines 26 = .ok (.goto (-21), 3) := by decide +kernel
theorem dX0_bagToldByLines_29 : decode cX0_bagToldByLines 29 = .ok (.iload_n 1, 1) := by decide +kernel
theorem dX0_bagToldByLines_30 : decode cX0_bagToldByLines 30 = .ok (.ireturn, 1) := by decide +kernel
theorem dX0_wordsOfDoor_0 : decode cX0_wordsOfDoor 0 = .ok (.iconst 0, 1) := by decide +kernel
theorem dX0_wordsOfDoor_1 : decode cX0_wordsOfDoor 1 = .ok (.istore_n 2, 1) := by decide +kernel
theorem dX0_wordsOfDoor_2 : decode cX0_wordsOfDoor 2 = .ok (.iconst 0, 1) := by decide +kernel
theorem dX0_wordsOfDoor_3 : decode cX0_wordsOfDoor 3 = .ok (.istore_n 3, 1) := by decide +kernel
theorem dX0_wordsOfDoor_4 : decode cX0_wordsOfDoor 4 = .ok (.iload_n 3, 1) := by decide +kernel
theorem dX0_wordsOfDoor_5 : decode cX0_wordsOfDoor 5 = .ok (.iconst 4, 1) := by decide +kernel
theorem dX0_wordsOfDoor_6 : decode cX0_wordsOfDoor 6 = .ok (.if_icmp .ge 24, 3) := by decide +kernel
theorem dX0_wordsOfDoor_9 : decode cX0_wordsOfDoor 9 = .ok (.iload_n 2, 1) := by decide +kernel
theorem dX0_wordsOfDoor_10 : decode cX0_wordsOfDoor 10 = .ok (.aload_n 0, 1) := by decide +kernel
theorem dX0_wordsOfDoor_11 : decode cX0_wordsOfDoor 11 = .ok (.getfield 18, 3) := by decide +kernel
theorem dX0_wordsOfDoor_14 : decode cX0_wordsOfDoor 14 = .ok (.iload_n 1, 1) := by decide +kernel
theorem dX0_wordsOfDoor_15 : decode cX0_wordsOfDoor 15 = .ok (.iload_n 3, 1) := by decide +kernel
theorem dX0_wordsOfDoor_16 : decode cX0_wordsOfDoor 16 = .ok (.invokestatic 72, 3) := by decide +kernel
theorem dX0_wordsOfDoor_19 : decode cX0_wordsOfDoor 19 = .ok (.invokestatic 64, 3) := by decide +kernel
theorem dX0_wordsOfDoor_22 : decode cX0_wordsOfDoor 22 = .ok (.iadd, 1) := by decide +kernel
theorem dX0_wordsOfDoor_23 : decode cX0_wordsOfDoor 23 = .ok (.istore_n 2, 1) := by decide +kernel
theorem dX0_wordsOfDoor_24 : decode cX0_wordsOfDoor 24 = .ok (.iinc 3 1, 3) := by decide +kernel
theorem dX0_wordsOfDoor_27 : decode cX0_wordsOfDoor 27 = .ok (.goto (-23), 3) := by decide +kernel
theorem dX0_wordsOfDoor_30 : decode cX0_wordsOfDoor 30 = .ok (.iload_n 2, 1) := by decide +kernel
theorem dX0_wordsOfDoor_31 : decode cX0_wordsOfDoor 31 = .ok (.ireturn, 1) := by decide +kernel
theorem dX0_insertWord_0 : decode cX0_insertWord 0 = .ok (.aload_n 0, 1) := by decide +kernel
theorem dX0_insertWord_1 : decode cX0_insertWord 1 = .ok (.getfield 18, 3) := by decide +kernel
theorem dX0_insertWord_4 : decode cX0_insertWord 4 = .ok (.iload_n 2, 1) := by decide +kernel
theorem dX0_insertWord_5 : decode cX0_insertWord 5 = .ok (.invokestatic 64, 3) := by decide +kernel
theorem dX0_insertWord_8 : decode cX0_insertWord 8 = .ok (.istore 4, 2) := by decide +kernel
theorem dX0_insertWord_10 : decode cX0_insertWord 10 = .ok (.iload 4, 2) := by decide +kernel
theorem dX0_insertWord_12 : decode cX0_insertWord 12 = .ok (.istore 5, 2) := by decide +kernel
theorem dX0_insertWord_14 : decode cX0_insertWord 14 = .ok (.iload 5, 2) := by decide +kernel
theorem dX0_insertWord_16 : decode cX0_insertWord 16 = .ok (.iload_n 3, 1) := by decide +kernel
theorem dX0_insertWord_17 : decode cX0_insertWord 17 = .ok (.if_icmp .le 25, 3) := by decide +kernel
theorem dX0_insertWord_20 : decode cX0_insertWord 20 = .ok (.aload_n 0, 1) := by decide +kernel
theorem dX0_insertWord_21 : decode cX0_insertWord 21 = .ok (.iload_n 2, 1) := by decide +kernel
theorem dX0_insertWord_22 : decode cX0_insertWord 22 = .ok (.iload 5, 2) := by decide +kernel
theorem dX0_insertWord_24 : decode cX0_insertWord 24 = .ok (.aload_n 0, 1) := by decide +kernel
theorem dX0_insertWord_25 : decode cX0_insertWord 25 = .ok (.iload_n 2, 1) := by decide +kernel
theorem dX0_insertWord_26 : decode cX0_insertWord 26 = .ok (.iload 5, 2) := by decide +kernel
theorem dX0_insertWord_28 : decode cX0_insertWord 28 = .ok (.iconst 1, 1) := by decide +kernel
theorem dX0_insertWord_29 : decode cX0_insertWord 29 = .ok (.isub, 1) := by decide +kernel
theorem dX0_insertWord_30 : decode cX0_insertWord 30 = .ok (.invokevirtual 68, 3) := by decide +kernel
theorem dX0_insertWord_33 : decode cX0_insertWord 33 = .ok (.invokevirtual 75, 3) := by decide +kernel
theorem dX0_insertWord_36 : decode cX0_insertWord 36 = .ok (.iinc 5 (-1), 3) := by decide +kernel
theorem dX0_insertWord_39 : decode cX0_insertWord 39 = .ok (.goto (-25), 3) := by decide +kernel
theorem dX0_insertWord_42 : decode cX0_insertWord 42 = .ok (.aload_n 0, 1) := by decide +kernel
theorem dX0_insertWord_43 : decode cX0_insertWord 43 = .ok (.iload_n 2, 1) := by decide +kernel
theorem dX0_insertWord_44 : decode cX0_insertWord 44 = .ok (.iload_n 3, 1) := by decide +kernel
theorem dX0_insertWord_45 : decode cX0_insertWord 45 = .ok (.iload_n 1, 1) := by decide +kernel
theorem dX0_insertWord_46 : decode cX0_insertWord 46 = .ok (.invokevirtual 75, 3) := by decide +kernel
theorem dX0_insertWord_49 : decode cX0_insertWord 49 = .ok (.aload_n 0, 1) := by decide +kernel
theorem dX0_insertWord_50 : decode cX0_insertWord 50 = .ok (.getfield 18, 3) := by decide +kernel
theorem dX0_insertWord_53 : decode cX0_insertWord 53 = .ok (.iload_n 2, 1) := by decide +kernel
theorem dX0_insertWord_54 : decode cX0_insertWord 54 = .ok (.iload 4, 2) := by decide +kernel
theorem dX0_insertWord_56 : decode cX0_insertWord 56 = .ok (.iconst 1, 1) := by decide +kernel
theorem dX0_insertWord_57 : decode cX0_insertWord 57 = .ok (.iadd, 1) := by decide +kernel
theorem dX0_insertWord_58 : decode cX0_insertWord 58 = .ok (.invokestatic 43, 3) := by decide +kernel
theorem dX0_insertWord_61 : decode cX0_insertWord 61 = .ok (.aload_n 0, 1) := by decide +kernel
theorem dX0_insertWord_62 : decode cX0_insertWord 62 = .ok (.getfield 9, 3) := by decide +kernel
theorem dX0_insertWord_65 : decode cX0_insertWord 65 = .ok (.iload_n 1, 1) := by decide +kernel
theorem dX0_insertWord_66 : decode cX0_insertWord 66 = .ok (.iload_n 2, 1) := by decide +kernel
theorem dX0_insertWord_67 : decode cX0_insertWord 67 = .ok (.invokestatic 43, 3) := by decide +kernel
theorem dX0_insertWord_70 : decode cX0_insertWord 70 = .ok (.aload_n 0, 1) := by decide +kernel
theorem dX0_insertWord_71 : decode cX0_insertWord 71 = .ok (.iload_n 2, 1) := by decide +kernel
theorem dX0_insertWord_72 : decode cX0_insertWord 72 = .ok (.iload_n 3, 1) := by decide +kernel
theorem dX0_insertWord_73 : decode cX0_insertWord 73 = .ok (.iload 4, 2) := by decide +kernel
theorem dX0_insertWord_75 : decode cX0_insertWord 75 = .ok (.if_icmp .ne 7, 3) := by decide +kernel
theorem dX0_insertWord_78 : decode cX0_insertWord 78 = .ok (.iconst 1, 1) := by decide +kernel
theorem dX0_insertWord_79 : decode cX0_insertWord 79 = .ok (.goto 4, 3) := by decide +kernel
theorem dX0_insertWord_82 : decode cX0_insertWord 82 = .ok (.iconst 0, 1) := by decide +kernel
theorem dX0_insertWord_83 : decode cX0_insertWord 83 = .ok (.invokevirtual 79, 3) := by decide +kernel
theorem dX0_insertWord_86 : decode cX0_insertWord 86 = .ok (.return_, 1) := by decide +kernel
theorem dX0_removeWord_0 : decode cX0_removeWord 0 = .ok (.aload_n 0, 1) := by decide +kernel
theorem dX0_removeWord_1 : decode cX0_removeWord 1 = .ok (.getfield 9, 3) := by decide +kernel
theorem dX0_removeWord_4 : decode cX0_removeWord 4 = .ok (.iload_n 1, 1) := by decide +kernel
theorem dX0_removeWord_5 : decode cX0_removeWord 5 = .ok (.invokestatic 64, 3) := by decide +kernel
theorem dX0_removeWord_8 : decode cX0_removeWord 8 = .ok (.istore_n 2, 1) := by decide +kernel
theorem dX0_removeWord_9 : decode cX0_removeWord 9 = .ok (.aload_n 0, 1) := by decide +kernel
theorem dX0_removeWord_10 : decode cX0_removeWord 10 = .ok (.iload_n 1, 1) := by decide +kernel
theorem dX0_removeWord_11 : decode cX0_removeWord 11 = .ok (.invokevirtual 83, 3) := by decide +kernel
theorem dX0_removeWord_14 : decode cX0_removeWord 14 = .ok (.istore_n 3, 1) := by decide +kernel
theorem dX0_removeWord_15 : decode cX0_removeWord 15 = .ok (.iload_n 3, 1) := by decide +kernel
theorem dX0_removeWord_16 : decode cX0_removeWord 16 = .ok (.iconst (-1), 1) := by decide +kernel
theorem dX0_removeWord_17 : decode cX0_removeWord 17 = .ok (.if_icmp .ne 4, 3) := by decide +kernel
theorem dX0_removeWord_20 : decode cX0_removeWord 20 = .ok (.return_, 1) := by decide +kernel
theorem dX0_removeWord_21 : decode cX0_removeWord 21 = .ok (.aload_n 0, 1) := by decide +kernel
theorem dX0_removeWord_22 : decode cX0_removeWord 22 = .ok (.getfield 18, 3) := by decide +kernel
theorem dX0_removeWord_25 : decode cX0_removeWord 25 = .ok (.iload_n 2, 1) := by decide +kernel
theorem dX0_removeWord_26 : decode cX0_removeWord 26 = .ok (.invokestatic 64, 3) := by decide +kernel
theorem dX0_removeWord_29 : decode cX0_removeWord 29 = .ok (.iconst 1, 1) := by decide +kernel
theorem dX0_removeWord_30 : decode cX0_removeWord 30 = .ok (.isub, 1) := by decide +kernel
theorem dX0_removeWord_31 : decode cX0_removeWord 31 = .ok (.istore 4, 2) := by decide +kernel
theorem dX0_removeWord_33 : decode cX0_removeWord 33 = .ok (.iload_n 3, 1) := by decide +kernel
theorem dX0_removeWord_34 : decode cX0_removeWord 34 = .ok (.istore 5, 2) := by decide +kernel
theorem dX0_removeWord_36 : decode cX0_removeWord 36 = .ok (.iload 5, 2) := by decide +kernel
theorem dX0_removeWord_38 : decode cX0_removeWord 38 = .ok (.iload 4, 2) := by decide +kernel
theorem dX0_removeWord_40 : decode cX0_removeWord 40 = .ok (.if_icmp .ge 25, 3) := by decide +kernel
theorem dX0_removeWord_43 : decode cX0_removeWord 43 = .ok (.aload_n 0, 1) := by decide +kernel
theorem dX0_removeWord_44 : decode cX0_removeWord 44 = .ok (.iload_n 2, 1) := by decide +kernel
theorem dX0_removeWord_45 : decode cX0_removeWord 45 = .ok (.iload 5, 2) := by decide +kernel
theorem dX0_removeWord_47 : decode cX0_removeWord 47 = .ok (.aload_n 0, 1) := by decide +kernel
theorem dX0_removeWord_48 : decode cX0_removeWord 48 = .ok (.iload_n 2, 1) := by decide +kernel
theorem dX0_removeWord_49 : decode cX0_removeWord 49 = .ok (.iload 5, 2) := by decide +kernel
theorem dX0_removeWord_51 : decode cX0_removeWord 51 = .ok (.iconst 1, 1) := by decide +kernel
theorem dX0_removeWord_52 : decode cX0_removeWord 52 = .ok (.iadd, 1) := by decide +kernel
theorem dX0_removeWord_53 : decode cX0_removeWord 53 = .ok (.invokevirtual 68, 3) := by decide +kernel
theorem dX0_removeWord_56 : decode cX0_removeWord 56 = .ok (.invokevirtual 75, 3) := by decide +kernel
theorem dX0_removeWord_59 : decode cX0_removeWord 59 = .ok (.iinc 5 1, 3) := by decide +kernel
theorem dX0_removeWord_62 : decode cX0_removeWord 62 = .ok (.goto (-26), 3) := by decide +kernel
theorem dX0_removeWord_65 : decode cX0_removeWord 65 = .ok (.aload_n 0, 1) := by decide +kernel
theorem dX0_removeWord_66 : decode cX0_removeWord 66 = .ok (.iload_n 2, 1) := by decide +kernel
theorem dX0_removeWord_67 : decode cX0_removeWord 67 = .ok (.iload 4, 2) := by decide +kernel
theorem dX0_removeWord_69 : decode cX0_removeWord 69 = .ok (.iconst (-1), 1) := by decide +kernel
theorem dX0_removeWord_70 : decode cX0_removeWord 70 = .ok (.invokevirtual 75, 3) := by decide +kernel
theorem dX0_removeWord_73 : decode cX0_removeWord 73 = .ok (.aload_n 0, 1) := by decide +kernel
theorem dX0_removeWord_74 : decode cX0_removeWord 74 = .ok (.getfield 18, 3) := by decide +kernel
theorem dX0_removeWord_77 : decode cX0_removeWord 77 = .ok (.iload_n 2, 1) := by decide +kernel
theorem dX0_removeWord_78 : decode cX0_removeWord 78 = .ok (.iload 4, 2) := by decide +kernel
theorem dX0_removeWord_80 : decode cX0_removeWord 80 = .ok (.invokestatic 43, 3) := by decide +kernel
theorem dX0_removeWord_83 : decode cX0_removeWord 83 = .ok (.aload_n 0, 1) := by decide +kernel
theorem dX0_removeWord_84 : decode cX0_removeWord 84 = .ok (.getfield 9, 3) := by decide +kernel
theorem dX0_removeWord_87 : decode cX0_removeWord 87 = .ok (.iload_n 1, 1) := by decide +kernel
theorem dX0_removeWord_88 : decode cX0_removeWord 88 = .ok (.iconst (-1), 1) := by decide +kernel
theorem dX0_removeWord_89 : decode cX0_removeWord 89 = .ok (.invokestatic 43, 3) := by decide +kernel
theorem dX0_removeWord_92 : decode cX0_removeWord 92 = .ok (.aload_n 0, 1) := by decide +kernel
theorem dX0_removeWord_93 : decode cX0_removeWord 93 = .ok (.iload_n 2, 1) := by decide +kernel
theorem dX0_removeWord_94 : decode cX0_removeWord 94 = .ok (.iload_n 3, 1) := by decide +kernel
theorem dX0_removeWord_95 : decode cX0_removeWord 95 = .ok (.iload 4, 2) := by decide +kernel
theorem dX0_removeWord_97 : decode cX0_removeWord 97 = .ok (.if_icmp .ne 7, 3) := by decide +kernel
theorem dX0_removeWord_100 : decode cX0_removeWord 100 = .ok (.iconst 1, 1) := by decide +kernel
theorem dX0_removeWord_101 : decode cX0_removeWord 101 = .ok (.goto 4, 3) := by decide +kernel
theorem dX0_removeWord_104 : decode cX0_removeWord 104 = .ok (.iconst 0, 1) := by decide +kernel
theorem dX0_removeWord_105 : decode cX0_removeWord 105 = .ok (.invokevirtual 79, 3) := by decide +kernel
theorem dX0_removeWord_108 : decode cX0_removeWord 108 = .ok (.return_, 1) := by decide +kernel
theorem dX0_emptyDoor_0 : decode cX0_emptyDoor 0 = .ok (.iconst 0, 1) := by decide +kernel
theorem dX0_emptyDoor_1 : decode cX0_emptyDoor 1 = .ok (.istore_n 2, 1) := by decide +kernel
theorem dX0_emptyDoor_2 : decode cX0_emptyDoor 2 = .ok (.iconst 0, 1) := by decide +kernel
theorem dX0_emptyDoor_3 : decode cX0_emptyDoor 3 = .ok (.istore_n 3, 1) := by decide +kernel
theorem dX0_emptyDoor_4 : decode cX0_emptyDoor 4 = .ok (.iload_n 3, 1) := by decide +kernel
theorem dX0_emptyDoor_5 : decode cX0_emptyDoor 5 = .ok (.aload_n 0, 1) := by decide +kernel
theorem dX0_emptyDoor_6 : decode cX0_emptyDoor 6 = .ok (.getfield 9, 3) := by decide +kernel
theorem dX0_emptyDoor_9 : decode cX0_emptyDoor 9 = .ok (.arraylength, 1) := by decide +kernel
theorem dX0_emptyDoor_10 : decode cX0_emptyDoor 10 = .ok (.if_icmp .ge 39, 3) := by decide +kernel
theorem dX0_emptyDoor_13 : decode cX0_emptyDoor 13 = .ok (.aload_n 0, 1) := by decide +kernel
theorem dX0_emptyDoor_14 : decode cX0_emptyDoor 14 = .ok (.getfield 9, 3) := by decide +kernel
theorem dX0_emptyDoor_17 : decode cX0_emptyDoor 17 = .ok (.iload_n 3, 1) := by decide +kernel
theorem dX0_emptyDoor_18 : decode cX0_emptyDoor 18 = .ok (.iaload, 1) := by decide +kernel
theorem dX0_emptyDoor_19 : decode cX0_emptyDoor 19 = .ok (.iconst (-1), 1) := by decide +kernel
theorem dX0_emptyDoor_20 : decode cX0_emptyDoor 20 = .ok (.if_icmp .eq 23, 3) := by decide +kernel
theorem dX0_emptyDoor_23 : decode cX0_emptyDoor 23 = .ok (.aload_n 0, 1) := by decide +kernel
theorem dX0_emptyDoor_24 : decode cX0_emptyDoor 24 = .ok (.getfield 9, 3) := by decide +kernel
theorem dX0_emptyDoor_27 : decode cX0_emptyDoor 27 = .ok (.iload_n 3, 1) := by decide +kernel
theorem dX0_emptyDoor_28 : decode cX0_emptyDoor 28 = .ok (.iaload, 1) := by decide +kernel
theorem dX0_emptyDoor_29 : decode cX0_emptyDoor 29 = .ok (.iconst 4, 1) := by decide +kernel
theorem dX0_emptyDoor_30 : decode cX0_emptyDoor 30 = .ok (.idiv, 1) := by decide +kernel
theorem dX0_emptyDoor_31 : decode cX0_emptyDoor 31 = .ok (.iload_n 1, 1) := by decide +kernel
theorem dX0_emptyDoor_32 : decode cX0_emptyDoor 32 = .ok (.if_icmp .ne 11, 3) := by decide +kernel
theorem dX0_emptyDoor_35 : decode cX0_emptyDoor 35 = .ok (.aload_n 0, 1) := by decide +kernel
theorem dX0_emptyDoor_36 : decode cX0_emptyDoor 36 = .ok (.iload_n 3, 1) := by decide +kernel
theorem dX0_emptyDoor_37 : decode cX0_emptyDoor 37 = .ok (.invokevirtual 87, 3) := by decide +kernel
theorem dX0_emptyDoor_40 : decode cX0_emptyDoor 40 = .ok (.iinc 2 1, 3) := by decide +kernel
theorem dX0_emptyDoor_43 : decode cX0_emptyDoor 43 = .ok (.iinc 3 1, 3) := by decide +kernel
theorem dX0_emptyDoor_46 : decode cX0_emptyDoor 46 = .ok (.goto (-42), 3) := by decide +kernel
theorem dX0_emptyDoor_49 : decode cX0_emptyDoor 49 = .ok (.iload_n 2, 1) := by decide +kernel
theorem dX0_emptyDoor_50 : decode cX0_emptyDoor 50 = .ok (.ireturn, 1) := by decide +kernel
theorem dX0_refusal_0 : decode cX0_refusal 0 = .ok (.aload_n 0, 1) := by decide +kernel
theorem dX0_refusal_1 : decode cX0_refusal 1 = .ok (.getfield 18, 3) := by decide +kernel
theorem dX0_refusal_4 : decode cX0_refusal 4 = .ok (.iload_n 2, 1) := by decide +kernel
theorem dX0_refusal_5 : decode cX0_refusal 5 = .ok (.invokestatic 64, 3) := by decide +kernel
theorem dX0_refusal_8 : decode cX0_refusal 8 = .ok (.istore 4, 2) := by decide +kernel
theorem dX0_refusal_10 : decode cX0_refusal 10 = .ok (.iload 4, 2) := by decide +kernel
theorem dX0_refusal_12 : decode cX0_refusal 12 = .ok (.bipush 6, 2) := by decide +kernel
theorem dX0_refusal_14 : decode cX0_refusal 14 = .ok (.if_icmp .lt 5, 3) := by decide +kernel
theorem dX0_refusal_17 : decode cX0_refusal 17 = .ok (.iconst 1, 1) := by decide +kernel
theorem dX0_refusal_18 : decode cX0_refusal 18 = .ok (.ireturn, 1) := by decide +kernel
theorem dX0_refusal_19 : decode cX0_refusal 19 = .ok (.aload_n 0, 1) := by decide +kernel
theorem dX0_refusal_20 : decode cX0_refusal 20 = .ok (.iload_n 2, 1) := by decide +kernel
theorem dX0_refusal_21 : decode cX0_refusal 21 = .ok (.invokevirtual 91, 3) := by decide +kernel
theorem dX0_refusal_24 : decode cX0_refusal 24 = .ok (.iload_n 1, 1) := by decide +kernel
theorem dX0_refusal_25 : decode cX0_refusal 25 = .ok (.invokestatic 94, 3) := by decide +kernel
theorem dX0_refusal_28 : decode cX0_refusal 28 = .ok (.iadd, 1) := by decide +kernel
theorem dX0_refusal_29 : decode cX0_refusal 29 = .ok (.bipush 12, 2) := by decide +kernel
theorem dX0_refusal_31 : decode cX0_refusal 31 = .ok (.if_icmp .le 5, 3) := by decide +kernel
theorem dX0_refusal_34 : decode cX0_refusal 34 = .ok (.iconst 2, 1) := by decide +kernel
theorem dX0_refusal_35 : decode cX0_refusal 35 = .ok (.ireturn, 1) := by decide +kernel
theorem dX0_refusal_36 : decode cX0_refusal 36 = .ok (.aload_n 0, 1) := by decide +kernel
theorem dX0_refusal_37 : decode cX0_refusal 37 = .ok (.iload_n 1, 1) := by decide +kernel
theorem dX0_refusal_38 : decode cX0_refusal 38 = .ok (.iload_n 2, 1) := by decide +kernel
theorem dX0_refusal_39 : decode cX0_refusal 39 = .ok (.iload_n 3, 1) := by decide +kernel
theorem dX0_refusal_40 : decode cX0_refusal 40 = .ok (.invokevirtual 97, 3) := by decide +kernel
theorem dX0_refusal_43 : decode cX0_refusal 43 = .ok (.ifCond .eq 5, 3) := by decide +kernel
theorem dX0_refusal_46 : decode cX0_refusal 46 = .ok (.iconst 3, 1) := by decide +kernel
theorem dX0_refusal_47 : decode cX0_refusal 47 = .ok (.ireturn, 1) := by decide +kernel
theorem dX0_refusal_48 : decode cX0_refusal 48 = .ok (.iload_n 3, 1) := by decide +kernel
theorem dX0_refusal_49 : decode cX0_refusal 49 = .ok (.ifCond .eq 9, 3) := by decide +kernel
theorem dX0_refusal_52 : decode cX0_refusal 52 = .ok (.iload_n 3, 1) := by decide +kernel
theorem dX0_refusal_53 : decode cX0_refusal 53 = .ok (.iload 4, 2) := by decide +kernel
theorem dX0_refusal_55 : decode cX0_refusal 55 = .ok (.if_icmp .ne 7, 3) := by decide +kernel
theorem dX0_refusal_58 : decode cX0_refusal 58 = .ok (.iconst 1, 1) := by decide +kernel
theorem dX0_refusal_59 : decode cX0_refusal 59 = .ok (.goto 4, 3) := by decide +kernel
theorem dX0_refusal_62 : decode cX0_refusal 62 = .ok (.iconst 0, 1) := by decide +kernel
theorem dX0_refusal_63 : decode cX0_refusal 63 = .ok (.istore 5, 2) := by decide +kernel
theorem dX0_refusal_65 : decode cX0_refusal 65 = .ok (.iload_n 1, 1) := by decide +kernel
theorem dX0_refusal_66 : decode cX0_refusal 66 = .ok (.invokestatic 101, 3) := by decide +kernel
theorem dX0_refusal_69 : decode cX0_refusal 69 = .ok (.iconst 3, 1) := by decide +kernel
theorem dX0_refusal_70 : decode cX0_refusal 70 = .ok (.if_icmp .ne 22, 3) := by decide +kernel
theorem dX0_refusal_73 : decode cX0_refusal 73 = .ok (.iload 5, 2) := by decide +kernel
theorem dX0_refusal_75 : decode cX0_refusal 75 = .ok (.ifCond .eq 17, 3) := by decide +kernel
theorem dX0_refusal_78 : decode cX0_refusal 78 = .ok (.aload_n 0, 1) := by decide +kernel
theorem dX0_refusal_79 : decode cX0_refusal 79 = .ok (.getfield 36, 3) := by decide +kernel
theorem dX0_refusal_82 : decode cX0_refusal 82 = .ok (.iconst 0, 1) := by decide +kernel
theorem dX0_refusal_83 : decode cX0_refusal 83 = .ok (.invokestatic 64, 3) := by decide +kernel
theorem dX0_refusal_86 : decode cX0_refusal 86 = .ok (.iconst 1, 1) := by decide +kernel
theorem dX0_refusal_87 : decode cX0_refusal 87 = .ok (.if_icmp .ne 5, 3) := by decide +kernel
theorem dX0_refusal_90 : decode cX0_refusal 90 = .ok (.iconst 4, 1) := by decide +kernel
theorem dX0_refusal_91 : decode cX0_refusal 91 = .ok (.ireturn, 1) := by decide +kernel
theorem dX0_refusal_92 : decode cX0_refusal 92 = .ok (.iconst 0, 1) := by decide +kernel
theorem dX0_refusal_93 : decode cX0_refusal 93 = .ok (.ireturn, 1) := by decide +kernel
theorem dX0_wouldClash_0 : decode cX0_wouldClash 0 = .ok (.aload_n 0, 1) := by decide +kernel
theorem dX0_wouldClash_1 : decode cX0_wouldClash 1 = .ok (.getfield 18, 3) := by decide +kernel
theorem dX0_wouldClash_4 : decode cX0_wouldClash 4 = .ok (.iload_n 2, 1) := by decide +kernel
theorem dX0_wouldClash_5 : decode cX0_wouldClash 5 = .ok (.invokestatic 64, 3) := by decide +kernel
theorem dX0_wouldClash_8 : decode cX0_wouldClash 8 = .ok (.istore 4, 2) := by decide +kernel
theorem dX0_wouldClash_10 : decode cX0_wouldClash 10 = .ok (.iconst (-1), 1) := by decide +kernel
theorem dX0_wouldClash_11 : decode cX0_wouldClash 11 = .ok (.istore 5, 2) := by decide +kernel
theorem dX0_wouldClash_13 : decode cX0_wouldClash 13 = .ok (.iconst 0, 1) := by decide +kernel
theorem dX0_wouldClash_14 : decode cX0_wouldClash 14 = .ok (.istore 6, 2) := by decide +kernel
theorem dX0_wouldClash_16 : decode cX0_wouldClash 16 = .ok (.iload 6, 2) := by decide +kernel
theorem dX0_wouldClash_18 : decode cX0_wouldClash 18 = .ok (.iload 4, 2) := by decide +kernel
theorem dX0_wouldClash_20 : decode cX0_wouldClash 20 = .ok (.if_icmp .gt 62, 3) := by decide +kernel
theorem dX0_wouldClash_23 : decode cX0_wouldClash 23 = .ok (.iload 6, 2) := by decide +kernel
theorem dX0_wouldClash_25 : decode cX0_wouldClash 25 = .ok (.iload_n 3, 1) := by decide +kernel
theorem dX0_wouldClash_26 : decode cX0_wouldClash 26 = .ok (.if_icmp .ne 7, 3) := by decide +kernel
theorem dX0_wouldClash_29 : decode cX0_wouldClash 29 = .ok (.iload_n 1, 1) := by decide +kernel
theorem dX0_wouldClash_30 : decode cX0_wouldClash 30 = .ok (.goto 23, 3) := by decide +kernel
theorem dX0_wouldClash_33 : decode cX0_wouldClash 33 = .ok (.aload_n 0, 1) := by decide +kernel
theorem dX0_wouldClash_34 : decode cX0_wouldClash 34 = .ok (.iload_n 2, 1) := by decide +kernel
theorem dX0_wouldClash_35 : decode cX0_wouldClash 35 = .ok (.iload 6, 2) := by decide +kernel
theorem dX0_wouldClash_37 : decode cX0_wouldClash 37 = .ok (.iload_n 3, 1) := by decide +kernel
theorem dX0_wouldClash_38 : decode cX0_wouldClash 38 = .ok (.if_icmp .ge 8, 3) := by decide +kernel
theorem dX0_wouldClash_41 : decode cX0_wouldClash 41 = .ok (.iload 6, 2) := by decide +kernel
theorem dX0_wouldClash_43 : decode cX0_wouldClash 43 = .ok (.goto 7, 3) := by decide +kernel
theorem dX0_wouldClash_46 : decode cX0_wouldClash 46 = .ok (.iload 6, 2) := by decide +kernel
theorem dX0_wouldClash_48 : decode cX0_wouldClash 48 = .ok (.iconst 1, 1) := by decide +kernel
theorem dX0_wouldClash_49 : decode cX0_wouldClash 49 = .ok (.isub, 1) := by decide +kernel
theorem dX0_wouldClash_50 : decode cX0_wouldClash 50 = .ok (.invokevirtual 68, 3) := by decide +kernel
theorem dX0_wouldClash_53 : decode cX0_wouldClash 53 = .ok (.istore 7, 2) := by decide +kernel
theorem dX0_wouldClash_55 : decode cX0_wouldClash 55 = .ok (.iload 6, 2) := by decide +kernel
theorem dX0_wouldClash_57 : decode cX0_wouldClash 57 = .ok (.ifCond .le 15, 3) := by decide +kernel
theorem dX0_wouldClash_60 : decode cX0_wouldClash 60 = .ok (.iload 5, 2) := by decide +kernel
theorem dX0_wouldClash_62 : decode cX0_wouldClash 62 = .ok (.iload 7, 2) := by decide +kernel
theorem dX0_wouldClash_64 : decode cX0_wouldClash 64 = .ok (.invokestatic 104, 3) := by decide +kernel
theorem dX0_wouldClash_67 : decode cX0_wouldClash 67 = .ok (.ifCond .eq 5, 3) := by decide +kernel
theorem dX0_wouldClash_70 : decode cX0_wouldClash 70 = .ok (.iconst 1, 1) := by decide +kernel
theorem dX0_wouldClash_71 : decode cX0_wouldClash 71 = .ok (.ireturn, 1) := by decide +kernel
theorem dX0_wouldClash_72 : decode cX0_wouldClash 72 = .ok (.iload 7, 2) := by decide +kernel
theorem dX0_wouldClash_74 : decode cX0_wouldClash 74 = .ok (.istore 5, 2) := by decide +kernel
theorem dX0_wouldClash_76 : decode cX0_wouldClash 76 = .ok (.iinc 6 1, 3) := by decide +kernel
theorem dX0_wouldClash_79 : decode cX0_wouldClash 79 = .ok (.goto (-63), 3) := by decide +kernel
theorem dX0_wouldClash_82 : decode cX0_wouldClash 82 = .ok (.iconst 0, 1) := by decide +kernel
theorem dX0_wouldClash_83 : decode cX0_wouldClash 83 = .ok (.ireturn, 1) := by decide +kernel
theorem dX0_clashes_0 : decode cX0_clashes 0 = .ok (.iconst 1, 1) := by decide +kernel
theorem dX0_clashes_1 : decode cX0_clashes 1 = .ok (.istore_n 2, 1) := by decide +kernel
theorem dX0_clashes_2 : decode cX0_clashes 2 = .ok (.iload_n 2, 1) := by decide +kernel
theorem dX0_clashes_3 : decode cX0_clashes 3 = .ok (.aload_n 0, 1) := by decide +kernel
theorem dX0_clashes_4 : decode cX0_clashes 4 = .ok (.getfield 18, 3) := by decide +kernel
theorem dX0_clashes_7 : decode cX0_clashes 7 = .ok (.iload_n 1, 1) := by decide +kernel
theorem dX0_clashes_8 : decode cX0_clashes 8 = .ok (.invokestatic 64, 3) := by decide +kernel
theorem dX0_clashes_11 : decode cX0_clashes 11 = .ok (.if_icmp .ge 31, 3) := by decide +kernel
theorem dX0_clashes_14 : decode cX0_clashes 14 = .ok (.aload_n 0, 1) := by decide +kernel
theorem dX0_clashes_15 : decode cX0_clashes 15 = .ok (.iload_n 1, 1) := by decide +kernel
theorem dX0_clashes_16 : decode cX0_clashes 16 = .ok (.iload_n 2, 1) := by decide +kernel
theorem dX0_clashes_17 : decode cX0_clashes 17 = .ok (.iconst 1, 1) := by decide +kernel
theorem dX0_clashes_18 : decode cX0_clashes 18 = .ok (.isub, 1) := by decide +kernel
theorem dX0_clashes_19 : decode cX0_clashes 19 = .ok (.invokevirtual 68, 3) := by decide +kernel
theorem dX0_clashes_22 : decode cX0_clashes 22 = .ok (.aload_n 0, 1) := by decide +kernel
theorem dX0_clashes_23 : decode cX0_clashes 23 = .ok (.iload_n 1, 1) := by decide +kernel
theorem dX0_clashes_24 : decode cX0_clashes 24 = .ok (.iload_n 2, 1) := by decide +kernel
theorem dX0_clashes_25 : decode cX0_clashes 25 = .ok (.invokevirtual 68, 3) := by decide +kernel
theorem dX0_clashes_28 : decode cX0_clashes 28 = .ok (.invokestatic 104, 3) := by decide +kernel
theorem dX0_clashes_31 : decode cX0_clashes 31 = .ok (.ifCond .eq 5, 3) := by decide +kernel
theorem dX0_clashes_34 : decode cX0_clashes 34 = .ok (.iconst 1, 1) := by decide +kernel
theorem dX0_clashes_35 : decode cX0_clashes 35 = .ok (.ireturn, 1) := by decide +kernel
theorem dX0_clashes_36 : decode cX0_clashes 36 = .ok (.iinc 2 1, 3) := by decide +kernel
theorem dX0_clashes_39 : decode cX0_clashes 39 = .ok (.goto (-37), 3) := by decide +kernel
theorem dX0_clashes_42 : decode cX0_clashes 42 = .ok (.iconst 0, 1) := by decide +kernel
theorem dX0_clashes_43 : decode cX0_clashes 43 = .ok (.ireturn, 1) := by decide +kernel
theorem dX0_beatsOn_0 : decode cX0_beatsOn 0 = .ok (.iconst 0, 1) := by decide +kernel
theorem dX0_beatsOn_1 : decode cX0_beatsOn 1 = .ok (.istore_n 2, 1) := by decide +kernel
theorem dX0_beatsOn_2 : decode cX0_beatsOn 2 = .ok (.iconst 0, 1) := by decide +kernel
theorem dX0_beatsOn_3 : decode cX0_beatsOn 3 = .ok (.istore_n 3, 1) := by decide +kernel
theorem dX0_beatsOn_4 : decode cX0_beatsOn 4 = .ok (.iload_n 3, 1) := by decide +kernel
theorem dX0_beatsOn_5 : decode cX0_beatsOn 5 = .ok (.aload_n 0, 1) := by decide +kernel
theorem dX0_beatsOn_6 : decode cX0_beatsOn 6 = .ok (.getfield 18, 3) := by decide +kernel
theorem dX0_beatsOn_9 : decode cX0_beatsOn 9 = .ok (.iload_n 1, 1) := by decide +kernel
theorem dX0_beatsOn_10 : decode cX0_beatsOn 10 = .ok (.invokestatic 64, 3) := by decide +kernel
theorem dX0_beatsOn_13 : decode cX0_beatsOn 13 = .ok (.if_icmp .ge 21, 3) := by decide +kernel
theorem dX0_beatsOn_16 : decode cX0_beatsOn 16 = .ok (.iload_n 2, 1) := by decide +kernel
theorem dX0_beatsOn_17 : decode cX0_beatsOn 17 = .ok (.aload_n 0, 1) := by decide +kernel
theorem dX0_beatsOn_18 : decode cX0_beatsOn 18 = .ok (.iload_n 1, 1) := by decide +kernel
theorem dX0_beatsOn_19 : decode cX0_beatsOn 19 = .ok (.iload_n 3, 1) := by decide +kernel
theorem dX0_beatsOn_20 : decode cX0_beatsOn 20 = .ok (.invokevirtual 68, 3) := by decide +kernel
theorem dX0_beatsOn_23 : decode cX0_beatsOn 23 = .ok (.invokestatic 94, 3) := by decide +kernel
theorem dX0_beatsOn_26 : decode cX0_beatsOn 26 = .ok (.iadd, 1) := by decide +kernel
theorem dX0_beatsOn_27 : decode cX0_beatsOn 27 = .ok (.istore_n 2, 1) := by decide +kernel
theorem dX0_beatsOn_28 : decode cX0_beatsOn 28 = .ok (.iinc 3 1, 3) := by decide +kernel
theorem dX0_beatsOn_31 : decode cX0_beatsOn 31 = .ok (.goto (-27), 3) := by decide +kernel
theorem dX0_beatsOn_34 : decode cX0_beatsOn 34 = .ok (.iload_n 2, 1) := by decide +kernel
theorem dX0_beatsOn_35 : decode cX0_beatsOn 35 = .ok (.ireturn, 1) := by decide +kernel
theorem dX0_worthOfLine_0 : decode cX0_worthOfLine 0 = .ok (.aload_n 0, 1) := by decide +kernel
theorem dX0_worthOfLine_1 : decode cX0_worthOfLine 1 = .ok (.getfield 18, 3) := by decide +kernel
theorem dX0_worthOfLine_4 : decode cX0_worthOfLine 4 = .ok (.iload_n 1, 1) := by decide +kernel
theorem dX0_worthOfLine_5 : decode cX0_worthOfLine 5 = .ok (.invokestatic 64, 3) := by decide +kernel
theorem dX0_worthOfLine_8 : decode cX0_worthOfLine 8 = .ok (.istore_n 3, 1) := by decide +kernel
theorem dX0_worthOfLine_9 : decode cX0_worthOfLine 9 = .ok (.iconst 0, 1) := by decide +kernel
theorem dX0_worthOfLine_10 : decode cX0_worthOfLine 10 = .ok (.istore 4, 2) := by decide +kernel
theorem dX0_worthOfLine_12 : decode cX0_worthOfLine 12 = .ok (.iconst 0, 1) := by decide +kernel
theorem dX0_worthOfLine_13 : decode cX0_worthOfLine 13 = .ok (.istore 5, 2) := by decide +kernel
theorem dX0_worthOfLine_15 : decode cX0_worthOfLine 15 = .ok (.iconst 0, 1) := by decide +kernel
theorem dX0_worthOfLine_16 : decode cX0_worthOfLine 16 = .ok (.istore 6, 2) := by decide +kernel
theorem dX0_worthOfLine_18 : decode cX0_worthOfLine 18 = .ok (.iconst 0, 1) := by decide +kernel
theorem dX0_worthOfLine_19 : decode cX0_worthOfLine 19 = .ok (.istore 7, 2) := by decide +kernel
theorem dX0_worthOfLine_21 : decode cX0_worthOfLine 21 = .ok (.iload 7, 2) := by decide +kernel
theorem dX0_worthOfLine_23 : decode cX0_worthOfLine 23 = .ok (.iload_n 3, 1) := by decide +kernel
theorem dX0_worthOfLine_24 : decode cX0_worthOfLine 24 = .ok (.if_icmp .gt 85, 3) := by decide +kernel
theorem dX0_worthOfLine_27 : decode cX0_worthOfLine 27 = .ok (.iload 7, 2) := by decide +kernel
theorem dX0_worthOfLine_29 : decode cX0_worthOfLine 29 = .ok (.iload_n 3, 1) := by decide +kernel
theorem dX0_worthOfLine_30 : decode cX0_worthOfLine 30 = .ok (.if_icmp .ge 13, 3) := by decide +kernel
theorem dX0_worthOfLine_33 : decode cX0_worthOfLine 33 = .ok (.aload_n 0, 1) := by decide +kernel
theorem dX0_worthOfLine_34 : decode cX0_worthOfLine 34 = .ok (.iload_n 1, 1) := by decide +kernel
theorem dX0_worthOfLine_35 : decode cX0_worthOfLine 35 = .ok (.iload 7, 2) := by decide +kernel
theorem dX0_worthOfLine_37 : decode cX0_worthOfLine 37 = .ok (.invokevirtual 68, 3) := by decide +kernel
theorem dX0_worthOfLine_40 : decode cX0_worthOfLine 40 = .ok (.goto 4, 3) := by decide +kernel
theorem dX0_worthOfLine_43 : decode cX0_worthOfLine 43 = .ok (.iload_n 2, 1) := by decide +kernel
theorem dX0_worthOfLine_44 : decode cX0_worthOfLine 44 = .ok (.istore 8, 2) := by decide +kernel
theorem dX0_worthOfLine_46 : decode cX0_worthOfLine 46 = .ok (.iload 8, 2) := by decide +kernel
theorem dX0_worthOfLine_48 : decode cX0_worthOfLine 48 = .ok (.iconst (-1), 1) := by decide +kernel
theorem dX0_worthOfLine_49 : decode cX0_worthOfLine 49 = .ok (.if_icmp .eq 54, 3) := by decide +kernel
theorem dX0_worthOfLine_52 : decode cX0_worthOfLine 52 = .ok (.iload 4, 2) := by decide +kernel
theorem dX0_worthOfLine_54 : decode cX0_worthOfLine 54 = .ok (.iload 8, 2) := by decide +kernel
theorem dX0_worthOfLine_56 : decode cX0_worthOfLine 56 = .ok (.invokestatic 94, 3) := by decide +kernel
theorem dX0_worthOfLine_59 : decode cX0_worthOfLine 59 = .ok (.iadd, 1) := by decide +kernel
theorem dX0_worthOfLine_60 : decode cX0_worthOfLine 60 = .ok (.istore 4, 2) := by decide +kernel
theorem dX0_worthOfLine_62 : decode cX0_worthOfLine 62 = .ok (.iload 5, 2) := by decide +kernel
theorem dX0_worthOfLine_64 : decode cX0_worthOfLine 64 = .ok (.ifCond .ne 11, 3) := by decide +kernel
theorem dX0_worthOfLine_67 : decode cX0_worthOfLine 67 = .ok (.iload 8, 2) := by decide +kernel
theorem dX0_worthOfLine_69 : decode cX0_worthOfLine 69 = .ok (.invokestatic 101, 3) := by decide +kernel
theorem dX0_worthOfLine_72 : decode cX0_worthOfLine 72 = .ok (.ifCond .ne 7, 3) := by decide +kernel
theorem dX0_worthOfLine_75 : decode cX0_worthOfLine 75 = .ok (.iconst 1, 1) := by decide +kernel
theorem dX0_worthOfLine_76 : decode cX0_worthOfLine 76 = .ok (.goto 4, 3) := by decide +kernel
theorem dX0_worthOfLine_79 : decode cX0_worthOfLine 79 = .ok (.iconst 0, 1) := by decide +kernel
theorem dX0_worthOfLine_80 : decode cX0_worthOfLine 80 = .ok (.istore 5, 2) := by decide +kernel
theorem dX0_worthOfLine_82 : decode cX0_worthOfLine 82 = .ok (.iload 6, 2) := by decide +kernel
theorem dX0_worthOfLine_84 : decode cX0_worthOfLine 84 = .ok (.ifCond .ne 12, 3) := by decide +kernel
theorem dX0_worthOfLine_87 : decode cX0_worthOfLine 87 = .ok (.iload 8, 2) := by decide +kernel
theorem dX0_worthOfLine_89 : decode cX0_worthOfLine 89 = .ok (.invokestatic 101, 3) := by decide +kernel
theorem dX0_worthOfLine_92 : decode cX0_worthOfLine 92 = .ok (.iconst 1, 1) := by decide +kernel
theorem dX0_worthOfLine_93 : decode cX0_worthOfLine 93 = .ok (.if_icmp .ne 7, 3) := by decide +kernel
theorem dX0_worthOfLine_96 : decode cX0_worthOfLine 96 = .ok (.iconst 1, 1) := by decide +kernel
theorem dX0_worthOfLine_97 : decode cX0_worthOfLine 97 = .ok (.goto 4, 3) := by decide +kernel
theorem dX0_worthOfLine_100 : decode cX0_worthOfLine 100 = .ok (.iconst 0, 1) := by decide +kernel
theorem dX0_worthOfLine_101 : decode cX0_worthOfLine 101 = .ok (.istore 6, 2) := by decide +kernel
theorem dX0_worthOfLine_103 : decode cX0_worthOfLine 103 = .ok (.iinc 7 1, 3) := by decide +kernel
theorem dX0_worthOfLine_106 : decode cX0_worthOfLine 106 = .ok (.goto (-85), 3) := by decide +kernel
theorem dX0_worthOfLine_109 : decode cX0_worthOfLine 109 = .ok (.iload 4, 2) := by decide +kernel
theorem dX0_worthOfLine_111 : decode cX0_worthOfLine 111 = .ok (.iload 5, 2) := by decide +kernel
theorem dX0_worthOfLine_113 : decode cX0_worthOfLine 113 = .ok (.ifCond .eq 12, 3) := by decide +kernel
theorem dX0_worthOfLine_116 : decode cX0_worthOfLine 116 = .ok (.iload 6, 2) := by decide +kernel
theorem dX0_worthOfLine_118 : decode cX0_worthOfLine 118 = .ok (.ifCond .eq 7, 3) := by decide +kernel
theorem dX0_worthOfLine_121 : decode cX0_worthOfLine 121 = .ok (.iconst 5, 1) := by decide +kernel
theorem dX0_worthOfLine_122 : decode cX0_worthOfLine 122 = .ok (.goto 4, 3) := by decide +kernel
theorem dX0_worthOfLine_125 : decode cX0_worthOfLine 125 = .ok (.iconst 0, 1) := by decide +kernel
theorem dX0_worthOfLine_126 : decode cX0_worthOfLine 126 = .ok (.iadd, 1) := by decide +kernel
theorem dX0_worthOfLine_127 : decode cX0_worthOfLine 127 = .ok (.iload 4, 2) := by decide +kernel
theorem dX0_worthOfLine_129 : decode cX0_worthOfLine 129 = .ok (.bipush 8, 2) := by decide +kernel
theorem dX0_worthOfLine_131 : decode cX0_worthOfLine 131 = .ok (.if_icmp .ne 7, 3) := by decide +kernel
theorem dX0_worthOfLine_134 : decode cX0_worthOfLine 134 = .ok (.iconst 3, 1) := by decide +kernel
theorem dX0_worthOfLine_135 : decode cX0_worthOfLine 135 = .ok (.goto 4, 3) := by decide +kernel
theorem dX0_worthOfLine_138 : decode cX0_worthOfLine 138 = .ok (.iconst 0, 1) := by decide +kernel
theorem dX0_worthOfLine_139 : decode cX0_worthOfLine 139 = .ok (.iadd, 1) := by decide +kernel
theorem dX0_worthOfLine_140 : decode cX0_worthOfLine 140 = .ok (.ireturn, 1) := by decide +kernel
theorem dX0_endingOn_0 : decode cX0_endingOn 0 = .ok (.aload_n 0, 1) := by decide +kernel
theorem dX0_endingOn_1 : decode cX0_endingOn 1 = .ok (.getfield 21, 3) := by decide +kernel
theorem dX0_endingOn_4 : decode cX0_endingOn 4 = .ok (.iload_n 1, 1) := by decide +kernel
theorem dX0_endingOn_5 : decode cX0_endingOn 5 = .ok (.invokestatic 64, 3) := by decide +kernel
theorem dX0_endingOn_8 : decode cX0_endingOn 8 = .ok (.istore_n 2, 1) := by decide +kernel
theorem dX0_endingOn_9 : decode cX0_endingOn 9 = .ok (.iload_n 2, 1) := by decide +kernel
theorem dX0_endingOn_10 : decode cX0_endingOn 10 = .ok (.iconst (-1), 1) := by decide +kernel
theorem dX0_endingOn_11 : decode cX0_endingOn 11 = .ok (.if_icmp .ne 7, 3) := by decide +kernel
theorem dX0_endingOn_14 : decode cX0_endingOn 14 = .ok (.iload_n 1, 1) := by decide +kernel
theorem dX0_endingOn_15 : decode cX0_endingOn 15 = .ok (.goto 4, 3) := by decide +kernel
theorem dX0_endingOn_18 : decode cX0_endingOn 18 = .ok (.iload_n 2, 1) := by decide +kernel
theorem dX0_endingOn_19 : decode cX0_endingOn 19 = .ok (.istore_n 3, 1) := by decide +kernel
theorem dX0_endingOn_20 : decode cX0_endingOn 20 = .ok (.aload_n 0, 1) := by decide +kernel
theorem dX0_endingOn_21 : decode cX0_endingOn 21 = .ok (.iload_n 3, 1) := by decide +kernel
theorem dX0_endingOn_22 : decode cX0_endingOn 22 = .ok (.aload_n 0, 1) := by decide +kernel
theorem dX0_endingOn_23 : decode cX0_endingOn 23 = .ok (.getfield 18, 3) := by decide +kernel
theorem dX0_endingOn_26 : decode cX0_endingOn 26 = .ok (.iload_n 3, 1) := by decide +kernel
theorem dX0_endingOn_27 : decode cX0_endingOn 27 = .ok (.invokestatic 64, 3) := by decide +kernel
theorem dX0_endingOn_30 : decode cX0_endingOn 30 = .ok (.iconst 1, 1) := by decide +kernel
theorem dX0_endingOn_31 : decode cX0_endingOn 31 = .ok (.isub, 1) := by decide +kernel
theorem dX0_endingOn_32 : decode cX0_endingOn 32 = .ok (.invokevirtual 68, 3) := by decide +kernel
theorem dX0_endingOn_35 : decode cX0_endingOn 35 = .ok (.istore 4, 2) := by decide +kernel
theorem dX0_endingOn_37 : decode cX0_endingOn 37 = .ok (.iload 4, 2) := by decide +kernel
theorem dX0_endingOn_39 : decode cX0_endingOn 39 = .ok (.iconst (-1), 1) := by decide +kernel
theorem dX0_endingOn_40 : decode cX0_endingOn 40 = .ok (.if_icmp .ne 7, 3) := by decide +kernel
theorem dX0_endingOn_43 : decode cX0_endingOn 43 = .ok (.iconst (-1), 1) := by decide +kernel
theorem dX0_endingOn_44 : decode cX0_endingOn 44 = .ok (.goto 8, 3) := by decide +kernel
theorem dX0_endingOn_47 : decode cX0_endingOn 47 = .ok (.iload 4, 2) := by decide +kernel
theorem dX0_endingOn_49 : decode cX0_endingOn 49 = .ok (.invokestatic 108, 3) := by decide +kernel
theorem dX0_endingOn_52 : decode cX0_endingOn 52 = .ok (.ireturn, 1) := by decide +kernel
theorem dX0_rhymesOf_0 : decode cX0_rhymesOf 0 = .ok (.iload_n 2, 1) := by decide +kernel
theorem dX0_rhymesOf_1 : decode cX0_rhymesOf 1 = .ok (.iconst (-1), 1) := by decide +kernel
theorem dX0_rhymesOf_2 : decode cX0_rhymesOf 2 = .ok (.if_icmp .ne 5, 3) := by decide +kernel
theorem dX0_rhymesOf_5 : decode cX0_rhymesOf 5 = .ok (.iconst 0, 1) := by decide +kernel
theorem dX0_rhymesOf_6 : decode cX0_rhymesOf 6 = .ok (.ireturn, 1) := by decide +kernel
theorem dX0_rhymesOf_7 : decode cX0_rhymesOf 7 = .ok (.iload_n 1, 1) := by decide +kernel
theorem dX0_rhymesOf_8 : decode cX0_rhymesOf 8 = .ok (.iconst 4, 1) := by decide +kernel
theorem dX0_rhymesOf_9 : decode cX0_rhymesOf 9 = .ok (.idiv, 1) := by decide +kernel
theorem dX0_rhymesOf_10 : decode cX0_rhymesOf 10 = .ok (.istore_n 3, 1) := by decide +kernel
theorem dX0_rhymesOf_11 : decode cX0_rhymesOf 11 = .ok (.iconst 0, 1) := by decide +kernel
theorem dX0_rhymesOf_12 : decode cX0_rhymesOf 12 = .ok (.istore 4, 2) := by decide +kernel
theorem dX0_rhymesOf_14 : decode cX0_rhymesOf 14 = .ok (.iconst 0, 1) := by decide +kernel
theorem dX0_rhymesOf_15 : decode cX0_rhymesOf 15 = .ok (.istore 5, 2) := by decide +kernel
theorem dX0_rhymesOf_17 : decode cX0_rhymesOf 17 = .ok (.iload 5, 2) := by decide +kernel
theorem dX0_rhymesOf_19 : decode cX0_rhymesOf 19 = .ok (.iconst 4, 1) := by decide +kernel
theorem dX0_rhymesOf_20 : decode cX0_rhymesOf 20 = .ok (.if_icmp .ge 36, 3) := by decide +kernel
theorem dX0_rhymesOf_23 : decode cX0_rhymesOf 23 = .ok (.iload_n 3, 1) := by decide +kernel
theorem dX0_rhymesOf_24 : decode cX0_rhymesOf 24 = .ok (.iload 5, 2) := by decide +kernel
theorem dX0_rhymesOf_26 : decode cX0_rhymesOf 26 = .ok (.invokestatic 72, 3) := by decide +kernel
theorem dX0_rhymesOf_29 : decode cX0_rhymesOf 29 = .ok (.istore 6, 2) := by decide +kernel
theorem dX0_rhymesOf_31 : decode cX0_rhymesOf 31 = .ok (.iload 6, 2) := by decide +kernel
theorem dX0_rhymesOf_33 : decode cX0_rhymesOf 33 = .ok (.iload_n 1, 1) := by decide +kernel
theorem dX0_rhymesOf_34 : decode cX0_rhymesOf 34 = .ok (.if_icmp .eq 16, 3) := by decide +kernel
theorem dX0_rhymesOf_37 : decode cX0_rhymesOf 37 = .ok (.aload_n 0, 1) := by decide +kernel
theorem dX0_rhymesOf_38 : decode cX0_rhymesOf 38 = .ok (.iload 6, 2) := by decide +kernel
theorem dX0_rhymesOf_40 : decode cX0_rhymesOf 40 = .ok (.invokevirtual 111, 3) := by decide +kernel
theorem dX0_rhymesOf_43 : decode cX0_rhymesOf 43 = .ok (.iload_n 2, 1) := by decide +kernel
theorem dX0_rhymesOf_44 : decode cX0_rhymesOf 44 = .ok (.if_icmp .ne 6, 3) := by decide +kernel
theorem dX0_rhymesOf_47 : decode cX0_rhymesOf 47 = .ok (.iinc 4 1, 3) := by decide +kernel
theorem dX0_rhymesOf_50 : decode cX0_rhymesOf 50 = .ok (.iinc 5 1, 3) := by decide +kernel
theorem dX0_rhymesOf_53 : decode cX0_rhymesOf 53 = .ok (.goto (-36), 3) := by decide +kernel
theorem dX0_rhymesOf_56 : decode cX0_rhymesOf 56 = .ok (.iload 4, 2) := by decide +kernel
theorem dX0_rhymesOf_58 : decode cX0_rhymesOf 58 = .ok (.ireturn, 1) := by decide +kernel
theorem dX0_rhymesOfDoor_0 : decode cX0_rhymesOfDoor 0 = .ok (.iconst 0, 1) := by decide +kernel
theorem dX0_rhymesOfDoor_1 : decode cX0_rhymesOfDoor 1 = .ok (.istore_n 2, 1) := by decide +kernel
theorem dX0_rhymesOfDoor_2 : decode cX0_rhymesOfDoor 2 = .ok (.iconst 1, 1) := by decide +kernel
theorem dX0_rhymesOfDoor_3 : decode cX0_rhymesOfDoor 3 = .ok (.istore_n 3, 1) := by decide +kernel
theorem dX0_rhymesOfDoor_4 : decode cX0_rhymesOfDoor 4 = .ok (.iload_n 3, 1) := by decide +kernel
theorem dX0_rhymesOfDoor_5 : decode cX0_rhymesOfDoor 5 = .ok (.iconst 4, 1) := by decide +kernel
theorem dX0_rhymesOfDoor_6 : decode cX0_rhymesOfDoor 6 = .ok (.if_icmp .ge 59, 3) := by decide +kernel
theorem dX0_rhymesOfDoor_9 : decode cX0_rhymesOfDoor 9 = .ok (.aload_n 0, 1) := by decide +kernel
theorem dX0_rhymesOfDoor_10 : decode cX0_rhymesOfDoor 10 = .ok (.iload_n 1, 1) := by decide +kernel
theorem dX0_rhymesOfDoor_11 : decode cX0_rhymesOfDoor 11 = .ok (.iload_n 3, 1) := by decide +kernel
theorem dX0_rhymesOfDoor_12 : decode cX0_rhymesOfDoor 12 = .ok (.invokestatic 72, 3) := by decide +kernel
theorem dX0_rhymesOfDoor_15 : decode cX0_rhymesOfDoor 15 = .ok (.invokevirtual 111, 3) := by decide +kernel
theorem dX0_rhymesOfDoor_18 : decode cX0_rhymesOfDoor 18 = .ok (.istore 4, 2) := by decide +kernel
theorem dX0_rhymesOfDoor_20 : decode cX0_rhymesOfDoor 20 = .ok (.iconst 0, 1) := by decide +kernel
theorem dX0_rhymesOfDoor_21 : decode cX0_rhymesOfDoor 21 = .ok (.istore 5, 2) := by decide +kernel
theorem dX0_rhymesOfDoor_23 : decode cX0_rhymesOfDoor 23 = .ok (.iload 5, 2) := by decide +kernel
theorem dX0_rhymesOfDoor_25 : decode cX0_rhymesOfDoor 25 = .ok (.iload_n 3, 1) := by decide +kernel
theorem dX0_rhymesOfDoor_26 : decode cX0_rhymesOfDoor 26 = .ok (.if_icmp .ge 33, 3) := by decide +kernel
theorem dX0_rhymesOfDoor_29 : decode cX0_rhymesOfDoor 29 = .ok (.iload 4, 2) := by decide +kernel
theorem dX0_rhymesOfDoor_31 : decode cX0_rhymesOfDoor 31 = .ok (.iconst (-1), 1) := by decide +kernel
theorem dX0_rhymesOfDoor_32 : decode cX0_rhymesOfDoor 32 = .ok (.if_icmp .eq 27, 3) := by decide +kernel
theorem dX0_rhymesOfDoor_35 : decode cX0_rhymesOfDoor 35 = .ok (.aload_n 0, 1) := by decide +kernel
theorem dX0_rhymesOfDoor_36 : decode cX0_rhymesOfDoor 36 = .ok (.iload_n 1, 1) := by decide +kernel
theorem dX0_rhymesOfDoor_37 : decode cX0_rhymesOfDoor 37 = .ok (.iload 5, 2) := by decide +kernel
theorem dX0_rhymesOfDoor_39 : decode cX0_rhymesOfDoor 39 = .ok (.invokestatic 72, 3) := by decide +kernel
theorem dX0_rhymesOfDoor_42 : decode cX0_rhymesOfDoor 42 = .ok (.invokevirtual 111, 3) := by decide +kernel
theorem dX0_rhymesOfDoor_45 : decode cX0_rhymesOfDoor 45 = .ok (.iload 4, 2) := by decide +kernel
theorem dX0_rhymesOfDoor_47 : decode cX0_rhymesOfDoor 47 = .ok (.if_icmp .ne 6, 3) := by decide +kernel
theorem dX0_rhymesOfDoor_50 : decode cX0_rhymesOfDoor 50 = .ok (.iinc 2 1, 3) := by decide +kernel
theorem dX0_rhymesOfDoor_53 : decode cX0_rhymesOfDoor 53 = .ok (.iinc 5 1, 3) := by decide +kernel
theorem dX0_rhymesOfDoor_56 : decode cX0_rhymesOfDoor 56 = .ok (.goto (-33), 3) := by decide +kernel
theorem dX0_rhymesOfDoor_59 : decode cX0_rhymesOfDoor 59 = .ok (.iinc 3 1, 3) := by decide +kernel
theorem dX0_rhymesOfDoor_62 : decode cX0_rhymesOfDoor 62 = .ok (.goto (-58), 3) := by decide +kernel
theorem dX0_rhymesOfDoor_65 : decode cX0_rhymesOfDoor 65 = .ok (.iload_n 2, 1) := by decide +kernel
theorem dX0_rhymesOfDoor_66 : decode cX0_rhymesOfDoor 66 = .ok (.ireturn, 1) := by decide +kernel
theorem dX0_worthOfDoor_0 : decode cX0_worthOfDoor 0 = .ok (.iconst 4, 1) := by decide +kernel
theorem dX0_worthOfDoor_1 : decode cX0_worthOfDoor 1 = .ok (.aload_n 0, 1) := by decide +kernel
theorem dX0_worthOfDoor_2 : decode cX0_worthOfDoor 2 = .ok (.iload_n 1, 1) := by decide +kernel
theorem dX0_worthOfDoor_3 : decode cX0_worthOfDoor 3 = .ok (.invokevirtual 114, 3) := by decide +kernel
theorem dX0_worthOfDoor_6 : decode cX0_worthOfDoor 6 = .ok (.imul, 1) := by decide +kernel
theorem dX0_worthOfDoor_7 : decode cX0_worthOfDoor 7 = .ok (.istore_n 2, 1) := by decide +kernel
theorem dX0_worthOfDoor_8 : decode cX0_worthOfDoor 8 = .ok (.iconst 0, 1) := by decide +kernel
theorem dX0_worthOfDoor_9 : decode cX0_worthOfDoor 9 = .ok (.istore_n 3, 1) := by decide +kernel
theorem dX0_worthOfDoor_10 : decode cX0_worthOfDoor 10 = .ok (.iload_n 3, 1) := by decide +kernel
theorem dX0_worthOfDoor_11 : decode cX0_worthOfDoor 11 = .ok (.iconst 4, 1) := by decide +kernel
theorem dX0_worthOfDoor_12 : decode cX0_worthOfDoor 12 = .ok (.if_icmp .ge 22, 3) := by decide +kernel
theorem dX0_worthOfDoor_15 : decode cX0_worthOfDoor 15 = .ok (.iload_n 2, 1) := by decide +kernel
theorem dX0_worthOfDoor_16 : decode cX0_worthOfDoor 16 = .ok (.aload_n 0, 1) := by decide +kernel
theorem dX0_worthOfDoor_17 : decode cX0_worthOfDoor 17 = .ok (.iload_n 1, 1) := by decide +kernel
theorem dX0_worthOfDoor_18 : decode cX0_worthOfDoor 18 = .ok (.iload_n 3, 1) := by decide +kernel
theorem dX0_worthOfDoor_19 : decode cX0_worthOfDoor 19 = .ok (.invokestatic 72, 3) := by decide +kernel
theorem dX0_worthOfDoor_22 : decode cX0_worthOfDoor 22 = .ok (.iconst (-1), 1) := by decide +kernel
theorem dX0_worthOfDoor_23 : decode cX0_worthOfDoor 23 = .ok (.invokevirtual 117, 3) := by decide +kernel
theorem dX0_worthOfDoor_26 : decode cX0_worthOfDoor 26 = .ok (.iadd, 1) := by decide +kernel
theorem dX0_worthOfDoor_27 : decode cX0_worthOfDoor 27 = .ok (.istore_n 2, 1) := by decide +kernel
theorem dX0_worthOfDoor_28 : decode cX0_worthOfDoor 28 = .ok (.iinc 3 1, 3) := by decide +kernel
theorem dX0_worthOfDoor_31 : decode cX0_worthOfDoor 31 = .ok (.goto (-21), 3) := by decide +kernel
theorem dX0_worthOfDoor_34 : decode cX0_worthOfDoor 34 = .ok (.iload_n 2, 1) := by decide +kernel
theorem dX0_worthOfDoor_35 : decode cX0_worthOfDoor 35 = .ok (.ireturn, 1) := by decide +kernel
theorem dX0_worthOfAll_0 : decode cX0_worthOfAll 0 = .ok (.iconst 0, 1) := by decide +kernel
theorem dX0_worthOfAll_1 : decode cX0_worthOfAll 1 = .ok (.istore_n 1, 1) := by decide +kernel
theorem dX0_worthOfAll_2 : decode cX0_worthOfAll 2 = .ok (.iconst 0, 1) := by decide +kernel
theorem dX0_worthOfAll_3 : decode cX0_worthOfAll 3 = .ok (.istore_n 2, 1) := by decide +kernel
theorem dX0_worthOfAll_4 : decode cX0_worthOfAll 4 = .ok (.iload_n 2, 1) := by decide +kernel
theorem dX0_worthOfAll_5 : decode cX0_worthOfAll 5 = .ok (.iconst 4, 1) := by decide +kernel
theorem dX0_worthOfAll_6 : decode cX0_worthOfAll 6 = .ok (.if_icmp .ge 17, 3) := by decide +kernel
theorem dX0_worthOfAll_9 : decode cX0_worthOfAll 9 = .ok (.iload_n 1, 1) := by decide +kernel
theorem dX0_worthOfAll_10 : decode cX0_worthOfAll 10 = .ok (.aload_n 0, 1) := by decide +kernel
theorem dX0_worthOfAll_11 : decode cX0_worthOfAll 11 = .ok (.iload_n 2, 1) := by decide +kernel
theorem dX0_worthOfAll_12 : decode cX0_worthOfAll 12 = .ok (.invokevirtual 120, 3) := by decide +kernel
theorem dX0_worthOfAll_15 : decode cX0_worthOfAll 15 = .ok (.iadd, 1) := by decide +kernel
theorem dX0_worthOfAll_16 : decode cX0_worthOfAll 16 = .ok (.istore_n 1, 1) := by decide +kernel
theorem dX0_worthOfAll_17 : decode cX0_worthOfAll 17 = .ok (.iinc 2 1, 3) := by decide +kernel
theorem dX0_worthOfAll_20 : decode cX0_worthOfAll 20 = .ok (.goto (-16), 3) := by decide +kernel
theorem dX0_worthOfAll_23 : decode cX0_worthOfAll 23 = .ok (.iload_n 1, 1) := by decide +kernel
theorem dX0_worthOfAll_24 : decode cX0_worthOfAll 24 = .ok (.ireturn, 1) := by decide +kernel
theorem dX0_bestWordFor_0 : decode cX0_bestWordFor 0 = .ok (.iconst (-1), 1) := by decide +kernel
theorem dX0_bestWordFor_1 : decode cX0_bestWordFor 1 = .ok (.istore_n 2, 1) := by decide +kernel
theorem dX0_bestWordFor_2 : decode cX0_bestWordFor 2 = .ok (.iconst (-1), 1) := by decide +kernel
theorem dX0_bestWordFor_3 : decode cX0_bestWordFor 3 = .ok (.istore_n 3, 1) := by decide +kernel
theorem dX0_bestWordFor_4 : decode cX0_bestWordFor 4 = .ok (.aload_n 0, 1) := by decide +kernel
theorem dX0_bestWordFor_5 : decode cX0_bestWordFor 5 = .ok (.getfield 18, 3) := by decide +kernel
theorem dX0_bestWordFor_8 : decode cX0_bestWordFor 8 = .ok (.iload_n 1, 1) := by decide +kernel
theorem dX0_bestWordFor_9 : decode cX0_bestWordFor 9 = .ok (.invokestatic 64, 3) := by decide +kernel
theorem dX0_bestWordFor_12 : decode cX0_bestWordFor 12 = .ok (.istore 4, 2) := by decide +kernel
theorem dX0_bestWordFor_14 : decode cX0_bestWordFor 14 = .ok (.iconst 0, 1) := by decide +kernel
theorem dX0_bestWordFor_15 : decode cX0_bestWordFor 15 = .ok (.istore 5, 2) := by decide +kernel
theorem dX0_bestWordFor_17 : decode cX0_bestWordFor 17 = .ok (.iload 5, 2) := by decide +kernel
theorem dX0_bestWordFor_19 : decode cX0_bestWordFor 19 = .ok (.aload_n 0, 1) := by decide +kernel
theorem dX0_bestWordFor_20 : decode cX0_bestWordFor 20 = .ok (.getfield 9, 3) := by decide +kernel
theorem dX0_bestWordFor_23 : decode cX0_bestWordFor 23 = .ok (.arraylength, 1) := by decide +kernel
theorem dX0_bestWordFor_24 : decode cX0_bestWordFor 24 = .ok (.if_icmp .ge 66, 3) := by decide +kernel
theorem dX0_bestWordFor_27 : decode cX0_bestWordFor 27 = .ok (.aload_n 0, 1) := by decide +kernel
theorem dX0_bestWordFor_28 : decode cX0_bestWordFor 28 = .ok (.getfield 9, 3) := by decide +kernel
theorem dX0_bestWordFor_31 : decode cX0_bestWordFor 31 = .ok (.iload 5, 2) := by decide +kernel
theorem dX0_bestWordFor_33 : decode cX0_bestWordFor 33 = .ok (.iaload, 1) := by decide +kernel
theorem dX0_bestWordFor_34 : decode cX0_bestWordFor 34 = .ok (.iconst (-1), 1) := by decide +kernel
theorem dX0_bestWordFor_35 : decode cX0_bestWordFor 35 = .ok (.if_icmp .ne 49, 3) := by decide +kernel
theorem dX0_bestWordFor_38 : decode cX0_bestWordFor 38 = .ok (.aload_n 0, 1) := by decide +kernel
theorem dX0_bestWordFor_39 : decode cX0_bestWordFor 39 = .ok (.iload 5, 2) := by decide +kernel
theorem dX0_bestWordFor_41 : decode cX0_bestWordFor 41 = .ok (.iload_n 1, 1) := by decide +kernel
theorem dX0_bestWordFor_42 : decode cX0_bestWordFor 42 = .ok (.iload 4, 2) := by decide +kernel
theorem dX0_bestWordFor_44 : decode cX0_bestWordFor 44 = .ok (.invokevirtual 123, 3) := by decide +kernel
theorem dX0_bestWordFor_47 : decode cX0_bestWordFor 47 = .ok (.ifCond .ne 37, 3) := by decide +kernel
theorem dX0_bestWordFor_50 : decode cX0_bestWordFor 50 = .ok (.aload_n 0, 1) := by decide +kernel
theorem dX0_bestWordFor_51 : decode cX0_bestWordFor 51 = .ok (.iload_n 1, 1) := by decide +kernel
theorem dX0_bestWordFor_52 : decode cX0_bestWordFor 52 = .ok (.iload 5, 2) := by decide +kernel
theorem dX0_bestWordFor_54 : decode cX0_bestWordFor 54 = .ok (.invokevirtual 117, 3) := by decide +kernel
theorem dX0_bestWordFor_57 : decode cX0_bestWordFor 57 = .ok (.iconst 4, 1) := by decide +kernel
theorem dX0_bestWordFor_58 : decode cX0_bestWordFor 58 = .ok (.aload_n 0, 1) := by decide +kernel
theorem dX0_bestWordFor_59 : decode cX0_bestWordFor 59 = .ok (.iload_n 1, 1) := by decide +kernel
theorem dX0_bestWordFor_60 : decode cX0_bestWordFor 60 = .ok (.iload 5, 2) := by decide +kernel
theorem dX0_bestWordFor_62 : decode cX0_bestWordFor 62 = .ok (.invokestatic 108, 3) := by decide +kernel
theorem dX0_bestWordFor_65 : decode cX0_bestWordFor 65 = .ok (.invokevirtual 127, 3) := by decide +kernel
theorem dX0_bestWordFor_68 : decode cX0_bestWordFor 68 = .ok (.imul, 1) := by decide +kernel
theorem dX0_bestWordFor_69 : decode cX0_bestWordFor 69 = .ok (.iadd, 1) := by decide +kernel
theorem dX0_bestWordFor_70 : decode cX0_bestWordFor 70 = .ok (.istore 6, 2) := by decide +kernel
theorem dX0_bestWordFor_72 : decode cX0_bestWordFor 72 = .ok (.iload 6, 2) := by decide +kernel
theorem dX0_bestWordFor_74 : decode cX0_bestWordFor 74 = .ok (.iload_n 3, 1) := by decide +kernel
theorem dX0_bestWordFor_75 : decode cX0_bestWordFor 75 = .ok (.if_icmp .le 9, 3) := by decide +kernel
theorem dX0_bestWordFor_78 : decode cX0_bestWordFor 78 = .ok (.iload 5, 2) := by decide +kernel
theorem dX0_bestWordFor_80 : decode cX0_bestWordFor 80 = .ok (.istore_n 2, 1) := by decide +kernel
theorem dX0_bestWordFor_81 : decode cX0_bestWordFor 81 = .ok (.iload 6, 2) := by decide +kernel
theorem dX0_bestWordFor_83 : decode cX0_bestWordFor 83 = .ok (.istore_n 3, 1) := by decide +kernel
theorem dX0_bestWordFor_84 : decode cX0_bestWordFor 84 = .ok (.iinc 5 1, 3) := by decide +kernel
theorem dX0_bestWordFor_87 : decode cX0_bestWordFor 87 = .ok (.goto (-70), 3) := by decide +kernel
theorem dX0_bestWordFor_90 : decode cX0_bestWordFor 90 = .ok (.iload_n 2, 1) := by decide +kernel
theorem dX0_bestWordFor_91 : decode cX0_bestWordFor 91 = .ok (.ireturn, 1) := by decide +kernel
theorem dX0_borrows_0 : decode cX0_borrows 0 = .ok (.aload_n 0, 1) := by decide +kernel
theorem dX0_borrows_1 : decode cX0_borrows 1 = .ok (.getfield 21, 3) := by decide +kernel
theorem dX0_borrows_4 : decode cX0_borrows 4 = .ok (.iload_n 1, 1) := by decide +kernel
theorem dX0_borrows_5 : decode cX0_borrows 5 = .ok (.invokestatic 64, 3) := by decide +kernel
theorem dX0_borrows_8 : decode cX0_borrows 8 = .ok (.iconst (-1), 1) := by decide +kernel
theorem dX0_borrows_9 : decode cX0_borrows 9 = .ok (.if_icmp .eq 7, 3) := by decide +kernel
theorem dX0_borrows_12 : decode cX0_borrows 12 = .ok (.iconst 1, 1) := by decide +kernel
theorem dX0_borrows_13 : decode cX0_borrows 13 = .ok (.goto 4, 3) := by decide +kernel
theorem dX0_borrows_16 : decode cX0_borrows 16 = .ok (.iconst 0, 1) := by decide +kernel
theorem dX0_borrows_17 : decode cX0_borrows 17 = .ok (.ireturn, 1) := by decide +kernel
theorem dX0_isFreeForLoan_0 : decode cX0_isFreeForLoan 0 = .ok (.aload_n 0, 1) := by decide +kernel
theorem dX0_isFreeForLoan_1 : decode cX0_isFreeForLoan 1 = .ok (.getfield 18, 3) := by decide +kernel
theorem dX0_isFreeForLoan_4 : decode cX0_isFreeForLoan 4 = .ok (.iload_n 1, 1) := by decide +kernel
theorem dX0_isFreeForLoan_5 : decode cX0_isFreeForLoan 5 = .ok (.invokestatic 64, 3) := by decide +kernel
theorem dX0_isFreeForLoan_8 : decode cX0_isFreeForLoan 8 = .ok (.ifCond .le 31, 3) := by decide +kernel
theorem dX0_isFreeForLoan_11 : decode cX0_isFreeForLoan 11 = .ok (.aload_n 0, 1) := by decide +kernel
theorem dX0_isFreeForLoan_12 : decode cX0_isFreeForLoan 12 = .ok (.getfield 21, 3) := by decide +kernel
theorem dX0_isFreeForLoan_15 : decode cX0_isFreeForLoan 15 = .ok (.iload_n 1, 1) := by decide +kernel
theorem dX0_isFreeForLoan_16 : decode cX0_isFreeForLoan 16 = .ok (.invokestatic 64, 3) := by decide +kernel
theorem dX0_isFreeForLoan_19 : decode cX0_isFreeForLoan 19 = .ok (.iconst (-1), 1) := by decide +kernel
theorem dX0_isFreeForLoan_20 : decode cX0_isFreeForLoan 20 = .ok (.if_icmp .ne 19, 3) := by decide +kernel
theorem dX0_isFreeForLoan_23 : decode cX0_isFreeForLoan 23 = .ok (.aload_n 0, 1) := by decide +kernel
theorem dX0_isFreeForLoan_24 : decode cX0_isFreeForLoan 24 = .ok (.getfield 24, 3) := by decide +kernel
theorem dX0_isFreeForLoan_27 : decode cX0_isFreeForLoan 27 = .ok (.iload_n 1, 1) := by decide +kernel
theorem dX0_isFreeForLoan_28 : decode cX0_isFreeForLoan 28 = .ok (.invokestatic 64, 3) := by decide +kernel
theorem dX0_isFreeForLoan_31 : decode cX0_isFreeForLoan 31 = .ok (.iconst (-1), 1) := by decide +kernel
theorem dX0_isFreeForLoan_32 : decode cX0_isFreeForLoan 32 = .ok (.if_icmp .ne 7, 3) := by decide +kernel
theorem dX0_isFreeForLoan_35 : decode cX0_isFreeForLoan 35 = .ok (.iconst 1, 1) := by decide +kernel
theorem dX0_isFreeForLoan_36 : decode cX0_isFreeForLoan 36 = .ok (.goto 4, 3) := by decide +kernel
theorem dX0_isFreeForLoan_39 : decode cX0_isFreeForLoan 39 = .ok (.iconst 0, 1) := by decide +kernel
theorem dX0_isFreeForLoan_40 : decode cX0_isFreeForLoan 40 = .ok (.ireturn, 1) := by decide +kernel
theorem dX0_loans_0 : decode cX0_loans 0 = .ok (.iconst 0, 1) := by decide +kernel
theorem dX0_loans_1 : decode cX0_loans 1 = .ok (.istore_n 1, 1) := by decide +kernel
theorem dX0_loans_2 : decode cX0_loans 2 = .ok (.iconst 0, 1) := by decide +kernel
theorem dX0_loans_3 : decode cX0_loans 3 = .ok (.istore_n 2, 1) := by decide +kernel
theorem dX0_loans_4 : decode cX0_loans 4 = .ok (.iload_n 2, 1) := by decide +kernel
theorem dX0_loans_5 : decode cX0_loans 5 = .ok (.aload_n 0, 1) := by decide +kernel
theorem dX0_loans_6 : decode cX0_loans 6 = .ok (.getfield 21, 3) := by decide +kernel
theorem dX0_loans_9 : decode cX0_loans 9 = .ok (.arraylength, 1) := by decide +kernel
theorem dX0_loans_10 : decode cX0_loans 10 = .ok (.if_icmp .ge 22, 3) := by decide +kernel
theorem dX0_loans_13 : decode cX0_loans 13 = .ok (.aload_n 0, 1) := by decide +kernel
theorem dX0_loans_14 : decode cX0_loans 14 = .ok (.getfield 21, 3) := by decide +kernel
theorem dX0_loans_17 : decode cX0_loans 17 = .ok (.iload_n 2, 1) := by decide +kernel
theorem dX0_loans_18 : decode cX0_loans 18 = .ok (.iaload, 1) := by decide +kernel
theorem dX0_loans_19 : decode cX0_loans 19 = .ok (.iconst (-1), 1) := by decide +kernel
theorem dX0_loans_20 : decode cX0_loans 20 = .ok (.if_icmp .eq 6, 3) := by decide +kernel
theorem dX0_loans_23 : decode cX0_loans 23 = .ok (.iinc 1 1, 3) := by decide +kernel
theorem dX0_loans_26 : decode cX0_loans 26 = .ok (.iinc 2 1, 3) := by decide +kernel
theorem dX0_loans_29 : decode cX0_loans 29 = .ok (.goto (-25), 3) := by decide +kernel
theorem dX0_loans_32 : decode cX0_loans 32 = .ok (.iload_n 1, 1) := by decide +kernel
theorem dX0_loans_33 : decode cX0_loans 33 = .ok (.ireturn, 1) := by decide +kernel
theorem dX0_startLoan_0 : decode cX0_startLoan 0 = .ok (.aload_n 0, 1) := by decide +kernel
theorem dX0_startLoan_1 : decode cX0_startLoan 1 = .ok (.getfield 21, 3) := by decide +kernel
theorem dX0_startLoan_4 : decode cX0_startLoan 4 = .ok (.iload_n 1, 1) := by decide +kernel
theorem dX0_startLoan_5 : decode cX0_startLoan 5 = .ok (.iload_n 2, 1) := by decide +kernel
theorem dX0_startLoan_6 : decode cX0_startLoan 6 = .ok (.invokestatic 43, 3) := by decide +kernel
theorem dX0_startLoan_9 : decode cX0_startLoan 9 = .ok (.aload_n 0, 1) := by decide +kernel
theorem dX0_startLoan_10 : decode cX0_startLoan 10 = .ok (.getfield 24, 3) := by decide +kernel
theorem dX0_startLoan_13 : decode cX0_startLoan 13 = .ok (.iload_n 2, 1) := by decide +kernel
theorem dX0_startLoan_14 : decode cX0_startLoan 14 = .ok (.iload_n 1, 1) := by decide +kernel
theorem dX0_startLoan_15 : decode cX0_startLoan 15 = .ok (.invokestatic 43, 3) := by decide +kernel
theorem dX0_startLoan_18 : decode cX0_startLoan 18 = .ok (.return_, 1) := by decide +kernel
theorem dX0_endLoan_0 : decode cX0_endLoan 0 = .ok (.aload_n 0, 1) := by decide +kernel
theorem dX0_endLoan_1 : decode cX0_endLoan 1 = .ok (.getfield 21, 3) := by decide +kernel
theorem dX0_endLoan_4 : decode cX0_endLoan 4 = .ok (.iload_n 1, 1) := by decide +kernel
theorem dX0_endLoan_5 : decode cX0_endLoan 5 = .ok (.invokestatic 64, 3) := by decide +kernel
theorem dX0_endLoan_8 : decode cX0_endLoan 8 = .ok (.istore_n 2, 1) := by decide +kernel
theorem dX0_endLoan_9 : decode cX0_endLoan 9 = .ok (.aload_n 0, 1) := by decide +kernel
theorem dX0_endLoan_10 : decode cX0_endLoan 10 = .ok (.getfield 21, 3) := by decide +kernel
theorem dX0_endLoan_13 : decode cX0_endLoan 13 = .ok (.iload_n 1, 1) := by decide +kernel
theorem dX0_endLoan_14 : decode cX0_endLoan 14 = .ok (.iconst (-1), 1) := by decide +kernel
theorem dX0_endLoan_15 : decode cX0_endLoan 15 = .ok (.invokestatic 43, 3) := by decide +kernel
theorem dX0_endLoan_18 : decode cX0_endLoan 18 = .ok (.aload_n 0, 1) := by decide +kernel
theorem dX0_endLoan_19 : decode cX0_endLoan 19 = .ok (.getfield 24, 3) := by decide +kernel
theorem dX0_endLoan_22 : decode cX0_endLoan 22 = .ok (.iload_n 2, 1) := by decide +kernel
theorem dX0_endLoan_23 : decode cX0_endLoan 23 = .ok (.iconst (-1), 1) := by decide +kernel
theorem dX0_endLoan_24 : decode cX0_endLoan 24 = .ok (.invokestatic 43, 3) := by decide +kernel
theorem dX0_endLoan_27 : decode cX0_endLoan 27 = .ok (.return_, 1) := by decide +kernel
theorem dX0_endLoansOf_0 : decode cX0_endLoansOf 0 = .ok (.aload_n 0, 1) := by decide +kernel
theorem dX0_endLoansOf_1 : decode cX0_endLoansOf 1 = .ok (.iload_n 1, 1) := by decide +kernel
theorem dX0_endLoansOf_2 : decode cX0_endLoansOf 2 = .ok (.invokevirtual 130, 3) := by decide +kernel
theorem dX0_endLoansOf_5 : decode cX0_endLoansOf 5 = .ok (.iload_n 2, 1) := by decide +kernel
theorem dX0_endLoansOf_6 : decode cX0_endLoansOf 6 = .ok (.ifCond .eq 15, 3) := by decide +kernel
theorem dX0_endLoansOf_9 : decode cX0_endLoansOf 9 = .ok (.aload_n 0, 1) := by decide +kernel
theorem dX0_endLoansOf_10 : decode cX0_endLoansOf 10 = .ok (.aload_n 0, 1) := by decide +kernel
theorem dX0_endLoansOf_11 : decode cX0_endLoansOf 11 = .ok (.getfield 24, 3) := by decide +kernel
theorem dX0_endLoansOf_14 : decode cX0_endLoansOf 14 = .ok (.iload_n 1, 1) := by decide +kernel
theorem dX0_endLoansOf_15 : decode cX0_endLoansOf 15 = .ok (.invokestatic 64, 3) := by decide +kernel
theorem dX0_endLoansOf_18 : decode cX0_endLoansOf 18 = .ok (.invokevirtual 130, 3) := by decide +kernel
theorem dX0_endLoansOf_21 : decode cX0_endLoansOf 21 = .ok (.return_, 1) := by decide +kernel
theorem dX0_passNights_0 : decode cX0_passNights 0 = .ok (.aload_n 0, 1) := by decide +kernel
theorem dX0_passNights_1 : decode cX0_passNights 1 = .ok (.getfield 55, 3) := by decide +kernel
theorem dX0_passNights_4 : decode cX0_passNights 4 = .ok (.istore_n 2, 1) := by decide +kernel
theorem dX0_passNights_5 : decode cX0_passNights 5 = .ok (.iconst 0, 1) := by decide +kernel
theorem dX0_passNights_6 : decode cX0_passNights 6 = .ok (.istore_n 3, 1) := by decide +kernel
theorem dX0_passNights_7 : decode cX0_passNights 7 = .ok (.iload_n 3, 1) := by decide +kernel
theorem dX0_passNights_8 : decode cX0_passNights 8 = .ok (.iload_n 1, 1) := by decide +kernel
theorem dX0_passNights_9 : decode cX0_passNights 9 = .ok (.if_icmp .ge 47, 3) := by decide +kernel
theorem dX0_passNights_12 : decode cX0_passNights 12 = .ok (.aload_n 0, 1) := by decide +kernel
theorem dX0_passNights_13 : decode cX0_passNights 13 = .ok (.invokevirtual 133, 3) := by decide +kernel
theorem dX0_passNights_16 : decode cX0_passNights 16 = .ok (.istore 4, 2) := by decide +kernel
theorem dX0_passNights_18 : decode cX0_passNights 18 = .ok (.aload_n 0, 1) := by decide +kernel
theorem dX0_passNights_19 : decode cX0_passNights 19 = .ok (.dup, 1) := by decide +kernel
theorem dX0_passNights_20 : decode cX0_passNights 20 = .ok (.getfield 51, 3) := by decide +kernel
theorem dX0_passNights_23 : decode cX0_passNights 23 = .ok (.iconst 1, 1) := by decide +kernel
theorem dX0_passNights_24 : decode cX0_passNights 24 = .ok (.iadd, 1) := by decide +kernel
theorem dX0_passNights_25 : decode cX0_passNights 25 = .ok (.putfield 51, 3) := by decide +kernel
theorem dX0_passNights_28 : decode cX0_passNights 28 = .ok (.aload_n 0, 1) := by decide +kernel
theorem dX0_passNights_29 : decode cX0_passNights 29 = .ok (.invokevirtual 137, 3) := by decide +kernel
theorem dX0_passNights_32 : decode cX0_passNights 32 = .ok (.iload 4, 2) := by decide +kernel
theorem dX0_passNights_34 : decode cX0_passNights 34 = .ok (.iconst (-1), 1) := by decide +kernel
theorem dX0_passNights_35 : decode cX0_passNights 35 = .ok (.if_icmp .eq 15, 3) := by decide +kernel
theorem dX0_passNights_38 : decode cX0_passNights 38 = .ok (.aload_n 0, 1) := by decide +kernel
theorem dX0_passNights_39 : decode cX0_passNights 39 = .ok (.aload_n 0, 1) := by decide +kernel
theorem dX0_passNights_40 : decode cX0_passNights 40 = .ok (.iload 4, 2) := by decide +kernel
theorem dX0_passNights_42 : decode cX0_passNights 42 = .ok (.invokevirtual 140, 3) := by decide +kernel
theorem dX0_passNights_45 : decode cX0_passNights 45 = .ok (.iload 4, 2) := by decide +kernel
theorem dX0_passNights_47 : decode cX0_passNights 47 = .ok (.invokevirtual 143, 3) := by decide +kernel
theorem dX0_passNights_50 : decode cX0_passNights 50 = .ok (.iinc 3 1, 3) := by decide +kernel
theorem dX0_passNights_53 : decode cX0_passNights 53 = .ok (.goto (-46), 3) := by decide +kernel
theorem dX0_passNights_56 : decode cX0_passNights 56 = .ok (.aload_n 0, 1) := by decide +kernel
theorem dX0_passNights_57 : decode cX0_passNights 57 = .ok (.getfield 55, 3) := by decide +kernel
theorem dX0_passNights_60 : decode cX0_passNights 60 = .ok (.iload_n 2, 1) := by decide +kernel
theorem dX0_passNights_61 : decode cX0_passNights 61 = .ok (.isub, 1) := by decide +kernel
theorem dX0_passNights_62 : decode cX0_passNights 62 = .ok (.ireturn, 1) := by decide +kernel
theorem dX0_nextPrey_0 : decode cX0_nextPrey 0 = .ok (.aload_n 0, 1) := by decide +kernel
theorem dX0_nextPrey_1 : decode cX0_nextPrey 1 = .ok (.invokevirtual 133, 3) := by decide +kernel
theorem dX0_nextPrey_4 : decode cX0_nextPrey 4 = .ok (.istore_n 1, 1) := by decide +kernel
theorem dX0_nextPrey_5 : decode cX0_nextPrey 5 = .ok (.iload_n 1, 1) := by decide +kernel
theorem dX0_nextPrey_6 : decode cX0_nextPrey 6 = .ok (.iconst (-1), 1) := by decide +kernel
theorem dX0_nextPrey_7 : decode cX0_nextPrey 7 = .ok (.if_icmp .ne 7, 3) := by decide +kernel
theorem dX0_nextPrey_10 : decode cX0_nextPrey 10 = .ok (.iconst (-1), 1) := by decide +kernel
theorem dX0_nextPrey_11 : decode cX0_nextPrey 11 = .ok (.goto 8, 3) := by decide +kernel
theorem dX0_nextPrey_14 : decode cX0_nextPrey 14 = .ok (.aload_n 0, 1) := by decide +kernel
theorem dX0_nextPrey_15 : decode cX0_nextPrey 15 = .ok (.iload_n 1, 1) := by decide +kernel
theorem dX0_nextPrey_16 : decode cX0_nextPrey 16 = .ok (.invokevirtual 140, 3) := by decide +kernel
theorem dX0_nextPrey_19 : decode cX0_nextPrey 19 = .ok (.ireturn, 1) := by decide +kernel
theorem dX0_doorOfThief_0 : decode cX0_doorOfThief 0 = .ok (.iconst (-1), 1) := by decide +kernel
theorem dX0_doorOfThief_1 : decode cX0_doorOfThief 1 = .ok (.istore_n 1, 1) := by decide +kernel
theorem dX0_doorOfThief_2 : decode cX0_doorOfThief 2 = .ok (.iconst (-1), 1) := by decide +kernel
theorem dX0_doorOfThief_3 : decode cX0_doorOfThief 3 = .ok (.istore_n 2, 1) := by decide +kernel
theorem dX0_doorOfThief_4 : decode cX0_doorOfThief 4 = .ok (.iconst 0, 1) := by decide +kernel
theorem dX0_doorOfThief_5 : decode cX0_doorOfThief 5 = .ok (.istore_n 3, 1) := by decide +kernel
theorem dX0_doorOfThief_6 : decode cX0_doorOfThief 6 = .ok (.iload_n 3, 1) := by decide +kernel
theorem dX0_doorOfThief_7 : decode cX0_doorOfThief 7 = .ok (.aload_n 0, 1) := by decide +kernel
theorem dX0_doorOfThief_8 : decode cX0_doorOfThief 8 = .ok (.getfield 30, 3) := by decide +kernel
theorem dX0_doorOfThief_11 : decode cX0_doorOfThief 11 = .ok (.arraylength, 1) := by decide +kernel
theorem dX0_doorOfThief_12 : decode cX0_doorOfThief 12 = .ok (.if_icmp .ge 44, 3) := by decide +kernel
theorem dX0_doorOfThief_15 : decode cX0_doorOfThief 15 = .ok (.aload_n 0, 1) := by decide +kernel
theorem dX0_doorOfThief_16 : decode cX0_doorOfThief 16 = .ok (.getfield 30, 3) := by decide +kernel
theorem dX0_doorOfThief_19 : decode cX0_doorOfThief 19 = .ok (.iload_n 3, 1) := by decide +kernel
theorem dX0_doorOfThief_20 : decode cX0_doorOfThief 20 = .ok (.iaload, 1) := by decide +kernel
theorem dX0_doorOfThief_21 : decode cX0_doorOfThief 21 = .ok (.ifCond .ne 29, 3) := by decide +kernel
theorem dX0_doorOfThief_24 : decode cX0_doorOfThief 24 = .ok (.aload_n 0, 1) := by decide +kernel
theorem dX0_doorOfThief_25 : decode cX0_doorOfThief 25 = .ok (.iload_n 3, 1) := by decide +kernel
theorem dX0_doorOfThief_26 : decode cX0_doorOfThief 26 = .ok (.invokevirtual 147, 3) := by decide +kernel
theorem dX0_doorOfThief_29 : decode cX0_doorOfThief 29 = .ok (.ifCond .le 21, 3) := by decide +kernel
theorem dX0_doorOfThief_32 : decode cX0_doorOfThief 32 = .ok (.aload_n 0, 1) := by decide +kernel
theorem dX0_doorOfThief_33 : decode cX0_doorOfThief 33 = .ok (.iload_n 3, 1) := by decide +kernel
theorem dX0_doorOfThief_34 : decode cX0_doorOfThief 34 = .ok (.invokevirtual 120, 3) := by decide +kernel
theorem dX0_doorOfThief_37 : decode cX0_doorOfThief 37 = .ok (.istore 4, 2) := by decide +kernel
theorem dX0_doorOfThief_39 : decode cX0_doorOfThief 39 = .ok (.iload 4, 2) := by decide +kernel
theorem dX0_doorOfThief_41 : decode cX0_doorOfThief 41 = .ok (.iload_n 2, 1) := by decide +kernel
theorem dX0_doorOfThief_42 : decode cX0_doorOfThief 42 = .ok (.if_icmp .le 8, 3) := by decide +kernel
theorem dX0_doorOfThief_45 : decode cX0_doorOfThief 45 = .ok (.iload_n 3, 1) := by decide +kernel
theorem dX0_doorOfThief_46 : decode cX0_doorOfThief 46 = .ok (.istore_n 1, 1) := by decide +kernel
theorem dX0_doorOfThief_47 : decode cX0_doorOfThief 47 = .ok (.iload 4, 2) := by decide +kernel
theorem dX0_doorOfThief_49 : decode cX0_doorOfThief 49 = .ok (.istore_n 2, 1) := by decide +kernel
theorem dX0_doorOfThief_50 : decode cX0_doorOfThief 50 = .ok (.iinc 3 1, 3) := by decide +kernel
theorem dX0_doorOfThief_53 : decode cX0_doorOfThief 53 = .ok (.goto (-47), 3) := by decide +kernel
theorem dX0_doorOfThief_56 : decode cX0_doorOfThief 56 = .ok (.iload_n 2, 1) := by decide +kernel
theorem dX0_doorOfThief_57 : decode cX0_doorOfThief 57 = .ok (.aload_n 0, 1) := by decide +kernel
theorem dX0_doorOfThief_58 : decode cX0_doorOfThief 58 = .ok (.getfield 36, 3) := by decide +kernel
theorem dX0_doorOfThief_61 : decode cX0_doorOfThief 61 = .ok (.iconst 1, 1) := by decide +kernel
theorem dX0_doorOfThief_62 : decode cX0_doorOfThief 62 = .ok (.invokestatic 64, 3) := by decide +kernel
theorem dX0_doorOfThief_65 : decode cX0_doorOfThief 65 = .ok (.if_icmp .lt 7, 3) := by decide +kernel
theorem dX0_doorOfThief_68 : decode cX0_doorOfThief 68 = .ok (.iload_n 1, 1) := by decide +kernel
theorem dX0_doorOfThief_69 : decode cX0_doorOfThief 69 = .ok (.goto 4, 3) := by decide +kernel
theorem dX0_doorOfThief_72 : decode cX0_doorOfThief 72 = .ok (.iconst (-1), 1) := by decide +kernel
theorem dX0_doorOfThief_73 : decode cX0_doorOfThief 73 = .ok (.ireturn, 1) := by decide +kernel
theorem dX0_preyOn_0 : decode cX0_preyOn 0 = .ok (.iconst (-1), 1) := by decide +kernel
theorem dX0_preyOn_1 : decode cX0_preyOn 1 = .ok (.istore_n 2, 1) := by decide +kernel
theorem dX0_preyOn_2 : decode cX0_preyOn 2 = .ok (.iconst 0, 1) := by decide +kernel
theorem dX0_preyOn_3 : decode cX0_preyOn 3 = .ok (.istore_n 3, 1) := by decide +kernel
theorem dX0_preyOn_4 : decode cX0_preyOn 4 = .ok (.iconst 3, 1) := by decide +kernel
theorem dX0_preyOn_5 : decode cX0_preyOn 5 = .ok (.istore 4, 2) := by decide +kernel
theorem dX0_preyOn_7 : decode cX0_preyOn 7 = .ok (.iload 4, 2) := by decide +kernel
theorem dX0_preyOn_9 : decode cX0_preyOn 9 = .ok (.ifCond .lt 68, 3) := by decide +kernel
theorem dX0_preyOn_12 : decode cX0_preyOn 12 = .ok (.iload_n 1, 1) := by decide +kernel
theorem dX0_preyOn_13 : decode cX0_preyOn 13 = .ok (.iload 4, 2) := by decide +kernel
theorem dX0_preyOn_15 : decode cX0_preyOn 15 = .ok (.invokestatic 72, 3) := by decide +kernel
theorem dX0_preyOn_18 : decode cX0_preyOn 18 = .ok (.istore 5, 2) := by decide +kernel
theorem dX0_preyOn_20 : decode cX0_preyOn 20 = .ok (.iconst 0, 1) := by decide +kernel
theorem dX0_preyOn_21 : decode cX0_preyOn 21 = .ok (.istore 6, 2) := by decide +kernel
theorem dX0_preyOn_23 : decode cX0_preyOn 23 = .ok (.iload 6, 2) := by decide +kernel
theorem dX0_preyOn_25 : decode cX0_preyOn 25 = .ok (.aload_n 0, 1) := by decide +kernel
theorem dX0_preyOn_26 : decode cX0_preyOn 26 = .ok (.getfield 18, 3) := by decide +kernel
theorem dX0_preyOn_29 : decode cX0_preyOn 29 = .ok (.iload 5, 2) := by decide +kernel
theorem dX0_preyOn_31 : decode cX0_preyOn 31 = .ok (.invokestatic 64, 3) := by decide +kernel
theorem dX0_preyOn_34 : decode cX0_preyOn 34 = .ok (.if_icmp .ge 37, 3) := by decide +kernel
theorem dX0_preyOn_37 : decode cX0_preyOn 37 = .ok (.aload_n 0, 1) := by decide +kernel
theorem dX0_preyOn_38 : decode cX0_preyOn 38 = .ok (.iload 5, 2) := by decide +kernel
theorem dX0_preyOn_40 : decode cX0_preyOn 40 = .ok (.iload 6, 2) := by decide +kernel
theorem dX0_preyOn_42 : decode cX0_preyOn 42 = .ok (.invokevirtual 68, 3) := by decide +kernel
theorem dX0_preyOn_45 : decode cX0_preyOn 45 = .ok (.istore 7, 2) := by decide +kernel
theorem dX0_preyOn_47 : decode cX0_preyOn 47 = .ok (.iload 7, 2) := by decide +kernel
theorem dX0_preyOn_49 : decode cX0_preyOn 49 = .ok (.invokestatic 94, 3) := by decide +kernel
theorem dX0_preyOn_52 : decode cX0_preyOn 52 = .ok (.iload_n 3, 1) := by decide +kernel
theorem dX0_preyOn_53 : decode cX0_preyOn 53 = .ok (.if_icmp .le 12, 3) := by decide +kernel
theorem dX0_preyOn_56 : decode cX0_preyOn 56 = .ok (.iload 7, 2) := by decide +kernel
theorem dX0_preyOn_58 : decode cX0_preyOn 58 = .ok (.istore_n 2, 1) := by decide +kernel
theorem dX0_preyOn_59 : decode cX0_preyOn 59 = .ok (.iload 7, 2) := by decide +kernel
theorem dX0_preyOn_61 : decode cX0_preyOn 61 = .ok (.invokestatic 94, 3) := by decide +kernel
theorem dX0_preyOn_64 : decode cX0_preyOn 64 = .ok (.istore_n 3, 1) := by decide +kernel
theorem dX0_preyOn_65 : decode cX0_preyOn 65 = .ok (.iinc 6 1, 3) := by decide +kernel
theorem dX0_preyOn_68 : decode cX0_preyOn 68 = .ok (.goto (-45), 3) := by decide +kernel
theorem dX0_preyOn_71 : decode cX0_preyOn 71 = .ok (.iinc 4 (-1), 3) := by decide +kernel
theorem dX0_preyOn_74 : decode cX0_preyOn 74 = .ok (.goto (-67), 3) := by decide +kernel
theorem dX0_preyOn_77 : decode cX0_preyOn 77 = .ok (.iload_n 2, 1) := by decide +kernel
theorem dX0_preyOn_78 : decode cX0_preyOn 78 = .ok (.ireturn, 1) := by decide +kernel
theorem dX0_watchOneNightFewer_0 : decode cX0_watchOneNightFewer 0 = .ok (.iconst 0, 1) := by decide +kernel
theorem dX0_watchOneNightFewer_1 : decode cX0_watchOneNightFewer 1 = .ok (.istore_n 1, 1) := by decide +kernel
theorem dX0_watchOneNightFewer_2 : decode cX0_watchOneNightFewer 2 = .ok (.iload_n 1, 1) := by decide +kernel
theorem dX0_watchOneNightFewer_3 : decode cX0_watchOneNightFewer 3 = .ok (.aload_n 0, 1) := by decide +kernel
theorem dX0_watchOneNightFewer_4 : decode cX0_watchOneNightFewer 4 = .ok (.getfield 30, 3) := by decide +kernel
theorem dX0_watchOneNightFewer_7 : decode cX0_watchOneNightFewer 7 = .ok (.arraylength, 1) := by decide +kernel
theorem dX0_watchOneNightFewer_8 : decode cX0_watchOneNightFewer 8 = .ok (.if_icmp .ge 28, 3) := by decide +kernel
theorem dX0_watchOneNightFewer_11 : decode cX0_watchOneNightFewer 11 = .ok (.aload_n 0, 1) := by decide +kernel
theorem dX0_watchOneNightFewer_12 : decode cX0_watchOneNightFewer 12 = .ok (.getfield 30, 3) := by decide +kernel
theorem dX0_watchOneNightFewer_15 : decode cX0_watchOneNightFewer 15 = .ok (.iload_n 1, 1) := by decide +kernel
theorem dX0_watchOneNightFewer_16 : decode cX0_watchOneNightFewer 16 = .ok (.iaload, 1) := by decide +kernel
theorem dX0_watchOneNightFewer_17 : decode cX0_watchOneNightFewer 17 = .ok (.ifCond .le 13, 3) := by decide +kernel
theorem dX0_watchOneNightFewer_20 : decode cX0_watchOneNightFewer 20 = .ok (.aload_n 0, 1) := by decide +kernel
theorem dX0_watchOneNightFewer_21 : decode cX0_watchOneNightFewer 21 = .ok (.getfield 30, 3) := by decide +kernel
theorem dX0_watchOneNightFewer_24 : decode cX0_watchOneNightFewer 24 = .ok (.iload_n 1, 1) := by decide +kernel
theorem dX0_watchOneNightFewer_25 : decode cX0_watchOneNightFewer 25 = .ok (.dup2, 1) := by decide +kernel
theorem dX0_watchOneNightFewer_26 : decode cX0_watchOneNightFewer 26 = .ok (.iaload, 1) := by decide +kernel
theorem dX0_watchOneNightFewer_27 : decode cX0_watchOneNightFewer 27 = .ok (.iconst 1, 1) := by decide +kernel
theorem dX0_watchOneNightFewer_28 : decode cX0_watchOneNightFewer 28 = .ok (.isub, 1) := by decide +kernel
theorem dX0_watchOneNightFewer_29 : decode cX0_watchOneNightFewer 29 = .ok (.iastore, 1) := by decide +kernel
theorem dX0_watchOneNightFewer_30 : decode cX0_watchOneNightFewer 30 = .ok (.iinc 1 1, 3) := by decide +kernel
theorem dX0_watchOneNightFewer_33 : decode cX0_watchOneNightFewer 33 = .ok (.goto (-31), 3) := by decide +kernel
theorem dX0_watchOneNightFewer_36 : decode cX0_watchOneNightFewer 36 = .ok (.return_, 1) := by decide +kernel
theorem dX0_steal_0 : decode cX0_steal 0 = .ok (.aload_n 0, 1) := by decide +kernel
theorem dX0_steal_1 : decode cX0_steal 1 = .ok (.iload_n 1, 1) := by decide +kernel
theorem dX0_steal_2 : decode cX0_steal 2 = .ok (.invokevirtual 87, 3) := by decide +kernel
theorem dX0_steal_5 : decode cX0_steal 5 = .ok (.aload_n 0, 1) := by decide +kernel
theorem dX0_steal_6 : decode cX0_steal 6 = .ok (.dup, 1) := by decide +kernel
theorem dX0_steal_7 : decode cX0_steal 7 = .ok (.getfield 55, 3) := by decide +kernel
theorem dX0_steal_10 : decode cX0_steal 10 = .ok (.iconst 1, 1) := by decide +kernel
theorem dX0_steal_11 : decode cX0_steal 11 = .ok (.iadd, 1) := by decide +kernel
theorem dX0_steal_12 : decode cX0_steal 12 = .ok (.putfield 55, 3) := by decide +kernel
theorem dX0_steal_15 : decode cX0_steal 15 = .ok (.aload_n 0, 1) := by decide +kernel
theorem dX0_steal_16 : decode cX0_steal 16 = .ok (.getfield 27, 3) := by decide +kernel
theorem dX0_steal_19 : decode cX0_steal 19 = .ok (.iload_n 1, 1) := by decide +kernel
theorem dX0_steal_20 : decode cX0_steal 20 = .ok (.aload_n 0, 1) := by decide +kernel
theorem dX0_steal_21 : decode cX0_steal 21 = .ok (.getfield 27, 3) := by decide +kernel
theorem dX0_steal_24 : decode cX0_steal 24 = .ok (.iload_n 1, 1) := by decide +kernel
theorem dX0_steal_25 : decode cX0_steal 25 = .ok (.invokestatic 64, 3) := by decide +kernel
theorem dX0_steal_28 : decode cX0_steal 28 = .ok (.iconst 1, 1) := by decide +kernel
theorem dX0_steal_29 : decode cX0_steal 29 = .ok (.iadd, 1) := by decide +kernel
theorem dX0_steal_30 : decode cX0_steal 30 = .ok (.invokestatic 43, 3) := by decide +kernel
end
section
theorem dX0_steal_33 : decode cX0_steal 33 = .ok (.aload_n 0, 1) := by decide +kernel
theorem dX0_steal_34 : decode cX0_steal 34 = .ok (.getfield 33, 3) := by decide +kernel
theorem dX0_steal_37 : decode cX0_steal 37 = .ok (.iload_n 2, 1) := by decide +kernel
theorem dX0_steal_38 : decode cX0_steal 38 = .ok (.aload_n 0, 1) := by decide +kernel
theorem dX0_steal_39 : decode cX0_steal 39 = .ok (.getfield 33, 3) := by decide +kernel
theorem dX0_steal_42 : decode cX0_steal 42 = .ok (.iload_n 2, 1) := by decide +kernel
theorem dX0_steal_43 : decode cX0_steal 43 = .ok (.invokestatic 64, 3) := by decide +kernel
theorem dX0_steal_46 : decode cX0_steal 46 = .ok (.iconst 1, 1) := by decide +kernel
theorem dX0_steal_47 : decode cX0_steal 47 = .ok (.iadd, 1) := by decide +kernel
theorem dX0_steal_48 : decode cX0_steal 48 = .ok (.invokestatic 43, 3) := by decide +kernel
theorem dX0_steal_51 : decode cX0_steal 51 = .ok (.aload_n 0, 1) := by decide +kernel
theorem dX0_steal_52 : decode cX0_steal 52 = .ok (.getfield 30, 3) := by decide +kernel
theorem dX0_steal_55 : decode cX0_steal 55 = .ok (.iload_n 2, 1) := by decide +kernel
theorem dX0_steal_56 : decode cX0_steal 56 = .ok (.aload_n 0, 1) := by decide +kernel
theorem dX0_steal_57 : decode cX0_steal 57 = .ok (.getfield 36, 3) := by decide +kernel
theorem dX0_steal_60 : decode cX0_steal 60 = .ok (.iconst 2, 1) := by decide +kernel
theorem dX0_steal_61 : decode cX0_steal 61 = .ok (.invokestatic 64, 3) := by decide +kernel
theorem dX0_steal_64 : decode cX0_steal 64 = .ok (.invokestatic 43, 3) := by decide +kernel
theorem dX0_steal_67 : decode cX0_steal 67 = .ok (.return_, 1) := by decide +kernel
theorem dX0_settingValue_0 : decode cX0_settingValue 0 = .ok (.aload_n 0, 1) := by decide +kernel
theorem dX0_settingValue_1 : decode cX0_settingValue 1 = .ok (.getfield 36, 3) := by decide +kernel
theorem dX0_settingValue_4 : decode cX0_settingValue 4 = .ok (.iload_n 1, 1) := by decide +kernel
theorem dX0_settingValue_5 : decode cX0_settingValue 5 = .ok (.invokestatic 64, 3) := by decide +kernel
theorem dX0_settingValue_8 : decode cX0_settingValue 8 = .ok (.ireturn, 1) := by decide +kernel
theorem dX0_changeSetting_0 : decode cX0_changeSetting 0 = .ok (.aload_n 0, 1) := by decide +kernel
theorem dX0_changeSetting_1 : decode cX0_changeSetting 1 = .ok (.getfield 36, 3) := by decide +kernel
theorem dX0_changeSetting_4 : decode cX0_changeSetting 4 = .ok (.iload_n 1, 1) := by decide +kernel
theorem dX0_changeSetting_5 : decode cX0_changeSetting 5 = .ok (.iload_n 2, 1) := by decide +kernel
theorem dX0_changeSetting_6 : decode cX0_changeSetting 6 = .ok (.invokestatic 43, 3) := by decide +kernel
theorem dX0_changeSetting_9 : decode cX0_changeSetting 9 = .ok (.return_, 1) := by decide +kernel
theorem dX0_wordProperty_0 : decode cX0_wordProperty 0 = .ok (.aload_n 0, 1) := by decide +kernel
theorem dX0_wordProperty_1 : decode cX0_wordProperty 1 = .ok (.getfield 9, 3) := by decide +kernel
theorem dX0_wordProperty_4 : decode cX0_wordProperty 4 = .ok (.iload_n 1, 1) := by decide +kernel
theorem dX0_wordProperty_5 : decode cX0_wordProperty 5 = .ok (.invokestatic 64, 3) := by decide +kernel
theorem dX0_wordProperty_8 : decode cX0_wordProperty 8 = .ok (.istore_n 3, 1) := by decide +kernel
theorem dX0_wordProperty_9 : decode cX0_wordProperty 9 = .ok (.iload_n 2, 1) := by decide +kernel
theorem dX0_wordProperty_10 : decode cX0_wordProperty 10 = .ok (.tableswitch 85 0 5 #[38, 43, 48, 53, 66, 79], 38) := by decide +kernel
theorem dX0_wordProperty_48 : decode cX0_wordProperty 48 = .ok (.iload_n 1, 1) := by decide +kernel
theorem dX0_wordProperty_49 : decode cX0_wordProperty 49 = .ok (.invokestatic 101, 3) := by decide +kernel
theorem dX0_wordProperty_52 : decode cX0_wordProperty 52 = .ok (.ireturn, 1) := by decide +kernel
theorem dX0_wordProperty_53 : decode cX0_wordProperty 53 = .ok (.iload_n 1, 1) := by decide +kernel
theorem dX0_wordProperty_54 : decode cX0_wordProperty 54 = .ok (.invokestatic 108, 3) := by decide +kernel
theorem dX0_wordProperty_57 : decode cX0_wordProperty 57 = .ok (.ireturn, 1) := by decide +kernel
theorem dX0_wordProperty_58 : decode cX0_wordProperty 58 = .ok (.iload_n 1, 1) := by decide +kernel
theorem dX0_wordProperty_59 : decode cX0_wordProperty 59 = .ok (.invokestatic 94, 3) := by decide +kernel
theorem dX0_wordProperty_62 : decode cX0_wordProperty 62 = .ok (.ireturn, 1) := by decide +kernel
theorem dX0_wordProperty_63 : decode cX0_wordProperty 63 = .ok (.iload_n 3, 1) := by decide +kernel
theorem dX0_wordProperty_64 : decode cX0_wordProperty 64 = .ok (.iconst (-1), 1) := by decide +kernel
theorem dX0_wordProperty_65 : decode cX0_wordProperty 65 = .ok (.if_icmp .ne 7, 3) := by decide +kernel
theorem dX0_wordProperty_68 : decode cX0_wordProperty 68 = .ok (.iconst (-1), 1) := by decide +kernel
theorem dX0_wordProperty_69 : decode cX0_wordProperty 69 = .ok (.goto 6, 3) := by decide +kernel
theorem dX0_wordProperty_72 : decode cX0_wordProperty 72 = .ok (.iload_n 3, 1) := by decide +kernel
theorem dX0_wordProperty_73 : decode cX0_wordProperty 73 = .ok (.iconst 4, 1) := by decide +kernel
theorem dX0_wordProperty_74 : decode cX0_wordProperty 74 = .ok (.idiv, 1) := by decide +kernel
theorem dX0_wordProperty_75 : decode cX0_wordProperty 75 = .ok (.ireturn, 1) := by decide +kernel
theorem dX0_wordProperty_76 : decode cX0_wordProperty 76 = .ok (.iload_n 3, 1) := by decide +kernel
theorem dX0_wordProperty_77 : decode cX0_wordProperty 77 = .ok (.iconst (-1), 1) := by decide +kernel
theorem dX0_wordProperty_78 : decode cX0_wordProperty 78 = .ok (.if_icmp .ne 7, 3) := by decide +kernel
theorem dX0_wordProperty_81 : decode cX0_wordProperty 81 = .ok (.iconst (-1), 1) := by decide +kernel
theorem dX0_wordProperty_82 : decode cX0_wordProperty 82 = .ok (.goto 6, 3) := by decide +kernel
theorem dX0_wordProperty_85 : decode cX0_wordProperty 85 = .ok (.iload_n 3, 1) := by decide +kernel
theorem dX0_wordProperty_86 : decode cX0_wordProperty 86 = .ok (.iconst 4, 1) := by decide +kernel
theorem dX0_wordProperty_87 : decode cX0_wordProperty 87 = .ok (.irem, 1) := by decide +kernel
theorem dX0_wordProperty_88 : decode cX0_wordProperty 88 = .ok (.ireturn, 1) := by decide +kernel
theorem dX0_wordProperty_89 : decode cX0_wordProperty 89 = .ok (.aload_n 0, 1) := by decide +kernel
theorem dX0_wordProperty_90 : decode cX0_wordProperty 90 = .ok (.iload_n 1, 1) := by decide +kernel
theorem dX0_wordProperty_91 : decode cX0_wordProperty 91 = .ok (.invokevirtual 83, 3) := by decide +kernel
theorem dX0_wordProperty_94 : decode cX0_wordProperty 94 = .ok (.ireturn, 1) := by decide +kernel
theorem dX0_wordProperty_95 : decode cX0_wordProperty 95 = .ok (.aload_n 0, 1) := by decide +kernel
theorem dX0_wordProperty_96 : decode cX0_wordProperty 96 = .ok (.getfield 27, 3) := by decide +kernel
theorem dX0_wordProperty_99 : decode cX0_wordProperty 99 = .ok (.iload_n 1, 1) := by decide +kernel
theorem dX0_wordProperty_100 : decode cX0_wordProperty 100 = .ok (.invokestatic 64, 3) := by decide +kernel
theorem dX0_wordProperty_103 : decode cX0_wordProperty 103 = .ok (.ireturn, 1) := by decide +kernel
theorem dX0_lineProperty_0 : decode cX0_lineProperty 0 = .ok (.iload_n 2, 1) := by decide +kernel
theorem dX0_lineProperty_1 : decode cX0_lineProperty 1 = .ok (.tableswitch 106 0 6 #[43, 52, 58, 65, 71, 83, 95], 43) := by decide +kernel
theorem dX0_lineProperty_44 : decode cX0_lineProperty 44 = .ok (.aload_n 0, 1) := by decide +kernel
theorem dX0_lineProperty_45 : decode cX0_lineProperty 45 = .ok (.getfield 18, 3) := by decide +kernel
theorem dX0_lineProperty_48 : decode cX0_lineProperty 48 = .ok (.iload_n 1, 1) := by decide +kernel
theorem dX0_lineProperty_49 : decode cX0_lineProperty 49 = .ok (.invokestatic 64, 3) := by decide +kernel
theorem dX0_lineProperty_52 : decode cX0_lineProperty 52 = .ok (.ireturn, 1) := by decide +kernel
theorem dX0_lineProperty_53 : decode cX0_lineProperty 53 = .ok (.aload_n 0, 1) := by decide +kernel
theorem dX0_lineProperty_54 : decode cX0_lineProperty 54 = .ok (.iload_n 1, 1) := by decide +kernel
theorem dX0_lineProperty_55 : decode cX0_lineProperty 55 = .ok (.invokevirtual 91, 3) := by decide +kernel
theorem dX0_lineProperty_58 : decode cX0_lineProperty 58 = .ok (.ireturn, 1) := by decide +kernel
theorem dX0_lineProperty_59 : decode cX0_lineProperty 59 = .ok (.aload_n 0, 1) := by decide +kernel
theorem dX0_lineProperty_60 : decode cX0_lineProperty 60 = .ok (.iload_n 1, 1) := by decide +kernel
theorem dX0_lineProperty_61 : decode cX0_lineProperty 61 = .ok (.iconst (-1), 1) := by decide +kernel
theorem dX0_lineProperty_62 : decode cX0_lineProperty 62 = .ok (.invokevirtual 117, 3) := by decide +kernel
theorem dX0_lineProperty_65 : decode cX0_lineProperty 65 = .ok (.ireturn, 1) := by decide +kernel
theorem dX0_lineProperty_66 : decode cX0_lineProperty 66 = .ok (.aload_n 0, 1) := by decide +kernel
theorem dX0_lineProperty_67 : decode cX0_lineProperty 67 = .ok (.iload_n 1, 1) := by decide +kernel
theorem dX0_lineProperty_68 : decode cX0_lineProperty 68 = .ok (.invokevirtual 111, 3) := by decide +kernel
theorem dX0_lineProperty_71 : decode cX0_lineProperty 71 = .ok (.ireturn, 1) := by decide +kernel
theorem dX0_lineProperty_72 : decode cX0_lineProperty 72 = .ok (.aload_n 0, 1) := by decide +kernel
theorem dX0_lineProperty_73 : decode cX0_lineProperty 73 = .ok (.getfield 21, 3) := by decide +kernel
theorem dX0_lineProperty_76 : decode cX0_lineProperty 76 = .ok (.iload_n 1, 1) := by decide +kernel
theorem dX0_lineProperty_77 : decode cX0_lineProperty 77 = .ok (.invokestatic 64, 3) := by decide +kernel
theorem dX0_lineProperty_80 : decode cX0_lineProperty 80 = .ok (.invokestatic 150, 3) := by decide +kernel
theorem dX0_lineProperty_83 : decode cX0_lineProperty 83 = .ok (.ireturn, 1) := by decide +kernel
theorem dX0_lineProperty_84 : decode cX0_lineProperty 84 = .ok (.aload_n 0, 1) := by decide +kernel
theorem dX0_lineProperty_85 : decode cX0_lineProperty 85 = .ok (.getfield 24, 3) := by decide +kernel
theorem dX0_lineProperty_88 : decode cX0_lineProperty 88 = .ok (.iload_n 1, 1) := by decide +kernel
theorem dX0_lineProperty_89 : decode cX0_lineProperty 89 = .ok (.invokestatic 64, 3) := by decide +kernel
theorem dX0_lineProperty_92 : decode cX0_lineProperty 92 = .ok (.invokestatic 150, 3) := by decide +kernel
theorem dX0_lineProperty_95 : decode cX0_lineProperty 95 = .ok (.ireturn, 1) := by decide +kernel
theorem dX0_lineProperty_96 : decode cX0_lineProperty 96 = .ok (.aload_n 0, 1) := by decide +kernel
theorem dX0_lineProperty_97 : decode cX0_lineProperty 97 = .ok (.iload_n 1, 1) := by decide +kernel
theorem dX0_lineProperty_98 : decode cX0_lineProperty 98 = .ok (.aload_n 0, 1) := by decide +kernel
theorem dX0_lineProperty_99 : decode cX0_lineProperty 99 = .ok (.iload_n 1, 1) := by decide +kernel
theorem dX0_lineProperty_100 : decode cX0_lineProperty 100 = .ok (.invokevirtual 111, 3) := by decide +kernel
theorem dX0_lineProperty_103 : decode cX0_lineProperty 103 = .ok (.invokevirtual 127, 3) := by decide +kernel
theorem dX0_lineProperty_106 : decode cX0_lineProperty 106 = .ok (.ireturn, 1) := by decide +kernel
theorem dX0_lineProperty_107 : decode cX0_lineProperty 107 = .ok (.aload_n 0, 1) := by decide +kernel
theorem dX0_lineProperty_108 : decode cX0_lineProperty 108 = .ok (.iload_n 1, 1) := by decide +kernel
theorem dX0_lineProperty_109 : decode cX0_lineProperty 109 = .ok (.invokevirtual 153, 3) := by decide +kernel
theorem dX0_lineProperty_112 : decode cX0_lineProperty 112 = .ok (.ifCond .eq 7, 3) := by decide +kernel
theorem dX0_lineProperty_115 : decode cX0_lineProperty 115 = .ok (.iconst 0, 1) := by decide +kernel
theorem dX0_lineProperty_116 : decode cX0_lineProperty 116 = .ok (.goto 4, 3) := by decide +kernel
theorem dX0_lineProperty_119 : decode cX0_lineProperty 119 = .ok (.iconst 1, 1) := by decide +kernel
theorem dX0_lineProperty_120 : decode cX0_lineProperty 120 = .ok (.ireturn, 1) := by decide +kernel
theorem dX0_doorProperty_0 : decode cX0_doorProperty 0 = .ok (.iload_n 2, 1) := by decide +kernel
theorem dX0_doorProperty_1 : decode cX0_doorProperty 1 = .ok (.tableswitch 58 0 3 #[31, 37, 43, 49], 31) := by decide +kernel
theorem dX0_doorProperty_32 : decode cX0_doorProperty 32 = .ok (.aload_n 0, 1) := by decide +kernel
theorem dX0_doorProperty_33 : decode cX0_doorProperty 33 = .ok (.iload_n 1, 1) := by decide +kernel
theorem dX0_doorProperty_34 : decode cX0_doorProperty 34 = .ok (.invokevirtual 120, 3) := by decide +kernel
theorem dX0_doorProperty_37 : decode cX0_doorProperty 37 = .ok (.ireturn, 1) := by decide +kernel
theorem dX0_doorProperty_38 : decode cX0_doorProperty 38 = .ok (.aload_n 0, 1) := by decide +kernel
theorem dX0_doorProperty_39 : decode cX0_doorProperty 39 = .ok (.iload_n 1, 1) := by decide +kernel
theorem dX0_doorProperty_40 : decode cX0_doorProperty 40 = .ok (.invokevirtual 147, 3) := by decide +kernel
theorem dX0_doorProperty_43 : decode cX0_doorProperty 43 = .ok (.ireturn, 1) := by decide +kernel
theorem dX0_doorProperty_44 : decode cX0_doorProperty 44 = .ok (.aload_n 0, 1) := by decide +kernel
theorem dX0_doorProperty_45 : decode cX0_doorProperty 45 = .ok (.iload_n 1, 1) := by decide +kernel
theorem dX0_doorProperty_46 : decode cX0_doorProperty 46 = .ok (.invokevirtual 114, 3) := by decide +kernel
theorem dX0_doorProperty_49 : decode cX0_doorProperty 49 = .ok (.ireturn, 1) := by decide +kernel
theorem dX0_doorProperty_50 : decode cX0_doorProperty 50 = .ok (.aload_n 0, 1) := by decide +kernel
theorem dX0_doorProperty_51 : decode cX0_doorProperty 51 = .ok (.getfield 30, 3) := by decide +kernel
theorem dX0_doorProperty_54 : decode cX0_doorProperty 54 = .ok (.iload_n 1, 1) := by decide +kernel
theorem dX0_doorProperty_55 : decode cX0_doorProperty 55 = .ok (.invokestatic 64, 3) := by decide +kernel
theorem dX0_doorProperty_58 : decode cX0_doorProperty 58 = .ok (.ireturn, 1) := by decide +kernel
theorem dX0_doorProperty_59 : decode cX0_doorProperty 59 = .ok (.aload_n 0, 1) := by decide +kernel
theorem dX0_doorProperty_60 : decode cX0_doorProperty 60 = .ok (.getfield 33, 3) := by decide +kernel
theorem dX0_doorProperty_63 : decode cX0_doorProperty 63 = .ok (.iload_n 1, 1) := by decide +kernel
theorem dX0_doorProperty_64 : decode cX0_doorProperty 64 = .ok (.invokestatic 64, 3) := by decide +kernel
theorem dX0_doorProperty_67 : decode cX0_doorProperty 67 = .ok (.ireturn, 1) := by decide +kernel
theorem dX1_init_0 : decode cX1_init 0 = .ok (.aload_n 0, 1) := by decide +kernel
theorem dX1_init_1 : decode cX1_init 1 = .ok (.invokespecial 3, 3) := by decide +kernel
theorem dX1_init_4 : decode cX1_init 4 = .ok (.aload_n 0, 1) := by decide +kernel
theorem dX1_init_5 : decode cX1_init 5 = .ok (.bipush 6, 2) := by decide +kernel
theorem dX1_init_7 : decode cX1_init 7 = .ok (.anewarray 9, 3) := by decide +kernel
theorem dX1_init_10 : decode cX1_init 10 = .ok (.putfield 11, 3) := by decide +kernel
theorem dX1_init_13 : decode cX1_init 13 = .ok (.iconst 0, 1) := by decide +kernel
theorem dX1_init_14 : decode cX1_init 14 = .ok (.istore_n 1, 1) := by decide +kernel
theorem dX1_init_15 : decode cX1_init 15 = .ok (.iload_n 1, 1) := by decide +kernel
theorem dX1_init_16 : decode cX1_init 16 = .ok (.aload_n 0, 1) := by decide +kernel
theorem dX1_init_17 : decode cX1_init 17 = .ok (.getfield 11, 3) := by decide +kernel
theorem dX1_init_20 : decode cX1_init 20 = .ok (.arraylength, 1) := by decide +kernel
theorem dX1_init_21 : decode cX1_init 21 = .ok (.if_icmp .ge 22, 3) := by decide +kernel
theorem dX1_init_24 : decode cX1_init 24 = .ok (.aload_n 0, 1) := by decide +kernel
theorem dX1_init_25 : decode cX1_init 25 = .ok (.getfield 11, 3) := by decide +kernel
theorem dX1_init_28 : decode cX1_init 28 = .ok (.iload_n 1, 1) := by decide +kernel
theorem dX1_init_29 : decode cX1_init 29 = .ok (.new 9, 3) := by decide +kernel
theorem dX1_init_32 : decode cX1_init 32 = .ok (.dup, 1) := by decide +kernel
theorem dX1_init_33 : decode cX1_init 33 = .ok (.invokespecial 17, 3) := by decide +kernel
theorem dX1_init_36 : decode cX1_init 36 = .ok (.aastore, 1) := by decide +kernel
theorem dX1_init_37 : decode cX1_init 37 = .ok (.iinc 1 1, 3) := by decide +kernel
theorem dX1_init_40 : decode cX1_init 40 = .ok (.goto (-25), 3) := by decide +kernel
theorem dX1_init_43 : decode cX1_init 43 = .ok (.return_, 1) := by decide +kernel
theorem dX1_save_0 : decode cX1_save 0 = .ok (.aload_n 0, 1) := by decide +kernel
theorem dX1_save_1 : decode cX1_save 1 = .ok (.getfield 18, 3) := by decide +kernel
theorem dX1_save_4 : decode cX1_save 4 = .ok (.bipush 6, 2) := by decide +kernel
theorem dX1_save_6 : decode cX1_save 6 = .ok (.if_icmp .lt 26, 3) := by decide +kernel
theorem dX1_save_9 : decode cX1_save 9 = .ok (.aload_n 0, 1) := by decide +kernel
theorem dX1_save_10 : decode cX1_save 10 = .ok (.aload_n 0, 1) := by decide +kernel
theorem dX1_save_11 : decode cX1_save 11 = .ok (.getfield 22, 3) := by decide +kernel
theorem dX1_save_14 : decode cX1_save 14 = .ok (.iconst 1, 1) := by decide +kernel
theorem dX1_save_15 : decode cX1_save 15 = .ok (.iadd, 1) := by decide +kernel
theorem dX1_save_16 : decode cX1_save 16 = .ok (.bipush 6, 2) := by decide +kernel
theorem dX1_save_18 : decode cX1_save 18 = .ok (.irem, 1) := by decide +kernel
theorem dX1_save_19 : decode cX1_save 19 = .ok (.putfield 22, 3) := by decide +kernel
theorem dX1_save_22 : decode cX1_save 22 = .ok (.aload_n 0, 1) := by decide +kernel
theorem dX1_save_23 : decode cX1_save 23 = .ok (.dup, 1) := by decide +kernel
theorem dX1_save_24 : decode cX1_save 24 = .ok (.getfield 18, 3) := by decide +kernel
theorem dX1_save_27 : decode cX1_save 27 = .ok (.iconst 1, 1) := by decide +kernel
theorem dX1_save_28 : decode cX1_save 28 = .ok (.isub, 1) := by decide +kernel
theorem dX1_save_29 : decode cX1_save 29 = .ok (.putfield 18, 3) := by decide +kernel
theorem dX1_save_32 : decode cX1_save 32 = .ok (.aload_n 0, 1) := by decide +kernel
theorem dX1_save_33 : decode cX1_save 33 = .ok (.aload_n 0, 1) := by decide +kernel
theorem dX1_save_34 : decode cX1_save 34 = .ok (.getfield 18, 3) := by decide +kernel
theorem dX1_save_37 : decode cX1_save 37 = .ok (.invokevirtual 25, 3) := by decide +kernel
theorem dX1_save_40 : decode cX1_save 40 = .ok (.astore_n 2, 1) := by decide +kernel
theorem dX1_save_41 : decode cX1_save 41 = .ok (.aload_n 2, 1) := by decide +kernel
theorem dX1_save_42 : decode cX1_save 42 = .ok (.ifnull 18, 3) := by decide +kernel
theorem dX1_save_45 : decode cX1_save 45 = .ok (.aload_n 2, 1) := by decide +kernel
theorem dX1_save_46 : decode cX1_save 46 = .ok (.aload_n 1, 1) := by decide +kernel
theorem dX1_save_47 : decode cX1_save 47 = .ok (.invokevirtual 29, 3) := by decide +kernel
theorem dX1_save_50 : decode cX1_save 50 = .ok (.aload_n 0, 1) := by decide +kernel
theorem dX1_save_51 : decode cX1_save 51 = .ok (.dup, 1) := by decide +kernel
theorem dX1_save_52 : decode cX1_save 52 = .ok (.getfield 18, 3) := by decide +kernel
theorem dX1_save_55 : decode cX1_save 55 = .ok (.iconst 1, 1) := by decide +kernel
theorem dX1_save_56 : decode cX1_save 56 = .ok (.iadd, 1) := by decide +kernel
theorem dX1_save_57 : decode cX1_save 57 = .ok (.putfield 18, 3) := by decide +kernel
theorem dX1_save_60 : decode cX1_save 60 = .ok (.return_, 1) := by decide +kernel
theorem dX1_stateAt_0 : decode cX1_stateAt 0 = .ok (.aload_n 0, 1) := by decide +kernel
theorem dX1_stateAt_1 : decode cX1_stateAt 1 = .ok (.getfield 22, 3) := by decide +kernel
theorem dX1_stateAt_4 : decode cX1_stateAt 4 = .ok (.iload_n 1, 1) := by decide +kernel
theorem dX1_stateAt_5 : decode cX1_stateAt 5 = .ok (.iadd, 1) := by decide +kernel
theorem dX1_stateAt_6 : decode cX1_stateAt 6 = .ok (.bipush 6, 2) := by decide +kernel
theorem dX1_stateAt_8 : decode cX1_stateAt 8 = .ok (.irem, 1) := by decide +kernel
theorem dX1_stateAt_9 : decode cX1_stateAt 9 = .ok (.istore_n 2, 1) := by decide +kernel
theorem dX1_stateAt_10 : decode cX1_stateAt 10 = .ok (.iload_n 1, 1) := by decide +kernel
theorem dX1_stateAt_11 : decode cX1_stateAt 11 = .ok (.ifCond .lt 25, 3) := by decide +kernel
theorem dX1_stateAt_14 : decode cX1_stateAt 14 = .ok (.iload_n 2, 1) := by decide +kernel
theorem dX1_stateAt_15 : decode cX1_stateAt 15 = .ok (.ifCond .lt 21, 3) := by decide +kernel
theorem dX1_stateAt_18 : decode cX1_stateAt 18 = .ok (.iload_n 2, 1) := by decide +kernel
theorem dX1_stateAt_19 : decode cX1_stateAt 19 = .ok (.aload_n 0, 1) := by decide +kernel
theorem dX1_stateAt_20 : decode cX1_stateAt 20 = .ok (.getfield 11, 3) := by decide +kernel
theorem dX1_stateAt_23 : decode cX1_stateAt 23 = .ok (.arraylength, 1) := by decide +kernel
theorem dX1_stateAt_24 : decode cX1_stateAt 24 = .ok (.if_icmp .ge 12, 3) := by decide +kernel
theorem dX1_stateAt_27 : decode cX1_stateAt 27 = .ok (.aload_n 0, 1) := by decide +kernel
theorem dX1_stateAt_28 : decode cX1_stateAt 28 = .ok (.getfield 11, 3) := by decide +kernel
theorem dX1_stateAt_31 : decode cX1_stateAt 31 = .ok (.iload_n 2, 1) := by decide +kernel
theorem dX1_stateAt_32 : decode cX1_stateAt 32 = .ok (.aaload, 1) := by decide +kernel
theorem dX1_stateAt_33 : decode cX1_stateAt 33 = .ok (.goto 4, 3) := by decide +kernel
theorem dX1_stateAt_36 : decode cX1_stateAt 36 = .ok (.aconst_null, 1) := by decide +kernel
theorem dX1_stateAt_37 : decode cX1_stateAt 37 = .ok (.areturn, 1) := by decide +kernel
theorem dX2_init_0 : decode cX2_init 0 = .ok (.aload_n 0, 1) := by decide +kernel
theorem dX2_init_1 : decode cX2_init 1 = .ok (.invokespecial 3, 3) := by decide +kernel
theorem dX2_init_4 : decode cX2_init 4 = .ok (.aload_n 0, 1) := by decide +kernel
theorem dX2_init_5 : decode cX2_init 5 = .ok (.bipush 40, 2) := by decide +kernel
theorem dX2_init_7 : decode cX2_init 7 = .ok (.newarray .boolean, 2) := by decide +kernel
theorem dX2_init_9 : decode cX2_init 9 = .ok (.putfield 9, 3) := by decide +kernel
theorem dX2_init_12 : decode cX2_init 12 = .ok (.aload_n 0, 1) := by decide +kernel
theorem dX2_init_13 : decode cX2_init 13 = .ok (.bipush 24, 2) := by decide +kernel
theorem dX2_init_15 : decode cX2_init 15 = .ok (.newarray .int, 2) := by decide +kernel
theorem dX2_init_17 : decode cX2_init 17 = .ok (.putfield 15, 3) := by decide +kernel
theorem dX2_init_20 : decode cX2_init 20 = .ok (.aload_n 0, 1) := by decide +kernel
theorem dX2_init_21 : decode cX2_init 21 = .ok (.bipush 24, 2) := by decide +kernel
theorem dX2_init_23 : decode cX2_init 23 = .ok (.newarray .int, 2) := by decide +kernel
theorem dX2_init_25 : decode cX2_init 25 = .ok (.putfield 19, 3) := by decide +kernel
theorem dX2_init_28 : decode cX2_init 28 = .ok (.return_, 1) := by decide +kernel
theorem dX3_init_0 : decode cX3_init 0 = .ok (.aload_n 0, 1) := by decide +kernel
theorem dX3_init_1 : decode cX3_init 1 = .ok (.invokespecial 1, 3) := by decide +kernel
theorem dX3_init_4 : decode cX3_init 4 = .ok (.aload_n 0, 1) := by decide +kernel
theorem dX3_init_5 : decode cX3_init 5 = .ok (.new 7, 3) := by decide +kernel
theorem dX3_init_8 : decode cX3_init 8 = .ok (.dup, 1) := by decide +kernel
theorem dX3_init_9 : decode cX3_init 9 = .ok (.invokespecial 9, 3) := by decide +kernel
theorem dX3_init_12 : decode cX3_init 12 = .ok (.putfield 10, 3) := by decide +kernel
theorem dX3_init_15 : decode cX3_init 15 = .ok (.aload_n 0, 1) := by decide +kernel
theorem dX3_init_16 : decode cX3_init 16 = .ok (.new 7, 3) := by decide +kernel
theorem dX3_init_19 : decode cX3_init 19 = .ok (.dup, 1) := by decide +kernel
theorem dX3_init_20 : decode cX3_init 20 = .ok (.invokespecial 9, 3) := by decide +kernel
theorem dX3_init_23 : decode cX3_init 23 = .ok (.putfield 16, 3) := by decide +kernel
theorem dX3_init_26 : decode cX3_init 26 = .ok (.aload_n 0, 1) := by decide +kernel
theorem dX3_init_27 : decode cX3_init 27 = .ok (.new 19, 3) := by decide +kernel
theorem dX3_init_30 : decode cX3_init 30 = .ok (.dup, 1) := by decide +kernel
theorem dX3_init_31 : decode cX3_init 31 = .ok (.invokespecial 21, 3) := by decide +kernel
theorem dX3_init_34 : decode cX3_init 34 = .ok (.putfield 22, 3) := by decide +kernel
theorem dX3_init_37 : decode cX3_init 37 = .ok (.aload_n 0, 1) := by decide +kernel
theorem dX3_init_38 : decode cX3_init 38 = .ok (.iconst 2, 1) := by decide +kernel
theorem dX3_init_39 : decode cX3_init 39 = .ok (.anewarray 7, 3) := by decide +kernel
theorem dX3_init_42 : decode cX3_init 42 = .ok (.putfield 26, 3) := by decide +kernel
theorem dX3_init_45 : decode cX3_init 45 = .ok (.aload_n 0, 1) := by decide +kernel
theorem dX3_init_46 : decode cX3_init 46 = .ok (.iconst 2, 1) := by decide +kernel
theorem dX3_init_47 : decode cX3_init 47 = .ok (.newarray .boolean, 2) := by decide +kernel
theorem dX3_init_49 : decode cX3_init 49 = .ok (.putfield 30, 3) := by decide +kernel
theorem dX3_init_52 : decode cX3_init 52 = .ok (.aload_n 0, 1) := by decide +kernel
theorem dX3_init_53 : decode cX3_init 53 = .ok (.bipush 60, 2) := by decide +kernel
theorem dX3_init_55 : decode cX3_init 55 = .ok (.newarray .int, 2) := by decide +kernel
theorem dX3_init_57 : decode cX3_init 57 = .ok (.putfield 34, 3) := by decide +kernel
theorem dX3_init_60 : decode cX3_init 60 = .ok (.aload_n 0, 1) := by decide +kernel
theorem dX3_init_61 : decode cX3_init 61 = .ok (.new 38, 3) := by decide +kernel
theorem dX3_init_64 : decode cX3_init 64 = .ok (.dup, 1) := by decide +kernel
theorem dX3_init_65 : decode cX3_init 65 = .ok (.invokespecial 40, 3) := by decide +kernel
theorem dX3_init_68 : decode cX3_init 68 = .ok (.putfield 41, 3) := by decide +kernel
theorem dX3_init_71 : decode cX3_init 71 = .ok (.iconst 0, 1) := by decide +kernel
theorem dX3_init_72 : decode cX3_init 72 = .ok (.istore_n 1, 1) := by decide +kernel
theorem dX3_init_73 : decode cX3_init 73 = .ok (.iload_n 1, 1) := by decide +kernel
theorem dX3_init_74 : decode cX3_init 74 = .ok (.aload_n 0, 1) := by decide +kernel
theorem dX3_init_75 : decode cX3_init 75 = .ok (.getfield 26, 3) := by decide +kernel
theorem dX3_init_78 : decode cX3_init 78 = .ok (.arraylength, 1) := by decide +kernel
theorem dX3_init_79 : decode cX3_init 79 = .ok (.if_icmp .ge 22, 3) := by decide +kernel
theorem dX3_init_82 : decode cX3_init 82 = .ok (.aload_n 0, 1) := by decide +kernel
theorem dX3_init_83 : decode cX3_init 83 = .ok (.getfield 26, 3) := by decide +kernel
theorem dX3_init_86 : decode cX3_init 86 = .ok (.iload_n 1, 1) := by decide +kernel
theorem dX3_init_87 : decode cX3_init 87 = .ok (.new 7, 3) := by decide +kernel
theorem dX3_init_90 : decode cX3_init 90 = .ok (.dup, 1) := by decide +kernel
theorem dX3_init_91 : decode cX3_init 91 = .ok (.invokespecial 9, 3) := by decide +kernel
theorem dX3_init_94 : decode cX3_init 94 = .ok (.aastore, 1) := by decide +kernel
theorem dX3_init_95 : decode cX3_init 95 = .ok (.iinc 1 1, 3) := by decide +kernel
theorem dX3_init_98 : decode cX3_init 98 = .ok (.goto (-25), 3) := by decide +kernel
theorem dX3_init_101 : decode cX3_init 101 = .ok (.return_, 1) := by decide +kernel
theorem dX3_put_0 : decode cX3_put 0 = .ok (.iload_n 1, 1) := by decide +kernel
theorem dX3_put_1 : decode cX3_put 1 = .ok (.invokestatic 45, 3) := by decide +kernel
theorem dX3_put_4 : decode cX3_put 4 = .ok (.ifCond .eq 14, 3) := by decide +kernel
theorem dX3_put_7 : decode cX3_put 7 = .ok (.aload_n 0, 1) := by decide +kernel
theorem dX3_put_8 : decode cX3_put 8 = .ok (.iload_n 2, 1) := by decide +kernel
theorem dX3_put_9 : decode cX3_put 9 = .ok (.iload_n 3, 1) := by decide +kernel
theorem dX3_put_10 : decode cX3_put 10 = .ok (.iload 4, 2) := by decide +kernel
theorem dX3_put_12 : decode cX3_put 12 = .ok (.invokevirtual 49, 3) := by decide +kernel
theorem dX3_put_15 : decode cX3_put 15 = .ok (.ifCond .ne 13, 3) := by decide +kernel
theorem dX3_put_18 : decode cX3_put 18 = .ok (.new 53, 3) := by decide +kernel
theorem dX3_put_21 : decode cX3_put 21 = .ok (.dup, 1) := by decide +kernel
theorem dX3_put_22 : decode cX3_put 22 = .ok (.ldc 55, 2) := by decide +kernel
theorem dX3_put_24 : decode cX3_put 24 = .ok (.invokespecial 57, 3) := by decide +kernel
theorem dX3_put_27 : decode cX3_put 27 = .ok (.athrow, 1) := by decide +kernel
theorem dX3_put_28 : decode cX3_put 28 = .ok (.aload_n 0, 1) := by decide +kernel
theorem dX3_put_29 : decode cX3_put 29 = .ok (.getfield 10, 3) := by decide +kernel
theorem dX3_put_32 : decode cX3_put 32 = .ok (.iload_n 1, 1) := by decide +kernel
theorem dX3_put_33 : decode cX3_put 33 = .ok (.invokevirtual 60, 3) := by decide +kernel
theorem dX3_put_36 : decode cX3_put 36 = .ok (.ifCond .ne 13, 3) := by decide +kernel
theorem dX3_put_39 : decode cX3_put 39 = .ok (.new 63, 3) := by decide +kernel
theorem dX3_put_42 : decode cX3_put 42 = .ok (.dup, 1) := by decide +kernel
theorem dX3_put_43 : decode cX3_put 43 = .ok (.ldc 65, 2) := by decide +kernel
theorem dX3_put_45 : decode cX3_put 45 = .ok (.invokespecial 67, 3) := by decide +kernel
theorem dX3_put_48 : decode cX3_put 48 = .ok (.athrow, 1) := by decide +kernel
theorem dX3_put_49 : decode cX3_put 49 = .ok (.aload_n 0, 1) := by decide +kernel
theorem dX3_put_50 : decode cX3_put 50 = .ok (.getfield 22, 3) := by decide +kernel
theorem dX3_put_53 : decode cX3_put 53 = .ok (.aload_n 0, 1) := by decide +kernel
theorem dX3_put_54 : decode cX3_put 54 = .ok (.getfield 10, 3) := by decide +kernel
theorem dX3_put_57 : decode cX3_put 57 = .ok (.invokevirtual 68, 3) := by decide +kernel
theorem dX3_put_60 : decode cX3_put 60 = .ok (.iload_n 2, 1) := by decide +kernel
theorem dX3_put_61 : decode cX3_put 61 = .ok (.iload_n 3, 1) := by decide +kernel
theorem dX3_put_62 : decode cX3_put 62 = .ok (.invokestatic 72, 3) := by decide +kernel
theorem dX3_put_65 : decode cX3_put 65 = .ok (.istore 5, 2) := by decide +kernel
theorem dX3_put_67 : decode cX3_put 67 = .ok (.aload_n 0, 1) := by decide +kernel
theorem dX3_put_68 : decode cX3_put 68 = .ok (.getfield 10, 3) := by decide +kernel
theorem dX3_put_71 : decode cX3_put 71 = .ok (.iload_n 1, 1) := by decide +kernel
theorem dX3_put_72 : decode cX3_put 72 = .ok (.iload 5, 2) := by decide +kernel
theorem dX3_put_74 : decode cX3_put 74 = .ok (.iload 4, 2) := by decide +kernel
theorem dX3_put_76 : decode cX3_put 76 = .ok (.invokevirtual 76, 3) := by decide +kernel
theorem dX3_put_79 : decode cX3_put 79 = .ok (.istore 6, 2) := by decide +kernel
theorem dX3_put_81 : decode cX3_put 81 = .ok (.iload 6, 2) := by decide +kernel
theorem dX3_put_83 : decode cX3_put 83 = .ok (.ifCond .eq 19, 3) := by decide +kernel
theorem dX3_put_86 : decode cX3_put 86 = .ok (.aload_n 0, 1) := by decide +kernel
theorem dX3_put_87 : decode cX3_put 87 = .ok (.getfield 10, 3) := by decide +kernel
theorem dX3_put_90 : decode cX3_put 90 = .ok (.dup, 1) := by decide +kernel
theorem dX3_put_91 : decode cX3_put 91 = .ok (.getfield 80, 3) := by decide +kernel
theorem dX3_put_94 : decode cX3_put 94 = .ok (.iconst 1, 1) := by decide +kernel
theorem dX3_put_95 : decode cX3_put 95 = .ok (.iadd, 1) := by decide +kernel
theorem dX3_put_96 : decode cX3_put 96 = .ok (.putfield 80, 3) := by decide +kernel
theorem dX3_put_99 : decode cX3_put 99 = .ok (.iload 6, 2) := by decide +kernel
theorem dX3_put_101 : decode cX3_put 101 = .ok (.ireturn, 1) := by decide +kernel
theorem dX3_put_102 : decode cX3_put 102 = .ok (.aload_n 0, 1) := by decide +kernel
theorem dX3_put_103 : decode cX3_put 103 = .ok (.getfield 10, 3) := by decide +kernel
theorem dX3_put_106 : decode cX3_put 106 = .ok (.iload_n 1, 1) := by decide +kernel
theorem dX3_put_107 : decode cX3_put 107 = .ok (.iload 5, 2) := by decide +kernel
theorem dX3_put_109 : decode cX3_put 109 = .ok (.iload 4, 2) := by decide +kernel
theorem dX3_put_111 : decode cX3_put 111 = .ok (.invokevirtual 84, 3) := by decide +kernel
theorem dX3_put_114 : decode cX3_put 114 = .ok (.aload_n 0, 1) := by decide +kernel
theorem dX3_put_115 : decode cX3_put 115 = .ok (.getfield 10, 3) := by decide +kernel
theorem dX3_put_118 : decode cX3_put 118 = .ok (.dup, 1) := by decide +kernel
theorem dX3_put_119 : decode cX3_put 119 = .ok (.getfield 88, 3) := by decide +kernel
theorem dX3_put_122 : decode cX3_put 122 = .ok (.iconst 1, 1) := by decide +kernel
theorem dX3_put_123 : decode cX3_put 123 = .ok (.iadd, 1) := by decide +kernel
theorem dX3_put_124 : decode cX3_put 124 = .ok (.putfield 88, 3) := by decide +kernel
theorem dX3_put_127 : decode cX3_put 127 = .ok (.iconst 0, 1) := by decide +kernel
theorem dX3_put_128 : decode cX3_put 128 = .ok (.ireturn, 1) := by decide +kernel
theorem dX3_takeOff_0 : decode cX3_takeOff 0 = .ok (.iload_n 1, 1) := by decide +kernel
theorem dX3_takeOff_1 : decode cX3_takeOff 1 = .ok (.invokestatic 45, 3) := by decide +kernel
theorem dX3_takeOff_4 : decode cX3_takeOff 4 = .ok (.ifCond .ne 13, 3) := by decide +kernel
theorem dX3_takeOff_7 : decode cX3_takeOff 7 = .ok (.new 53, 3) := by decide +kernel
theorem dX3_takeOff_10 : decode cX3_takeOff 10 = .ok (.dup, 1) := by decide +kernel
theorem dX3_takeOff_11 : decode cX3_takeOff 11 = .ok (.ldc 91, 2) := by decide +kernel
theorem dX3_takeOff_13 : decode cX3_takeOff 13 = .ok (.invokespecial 57, 3) := by decide +kernel
theorem dX3_takeOff_16 : decode cX3_takeOff 16 = .ok (.athrow, 1) := by decide +kernel
theorem dX3_takeOff_17 : decode cX3_takeOff 17 = .ok (.aload_n 0, 1) := by decide +kernel
theorem dX3_takeOff_18 : decode cX3_takeOff 18 = .ok (.getfield 10, 3) := by decide +kernel
theorem dX3_takeOff_21 : decode cX3_takeOff 21 = .ok (.iload_n 1, 1) := by decide +kernel
theorem dX3_takeOff_22 : decode cX3_takeOff 22 = .ok (.invokevirtual 60, 3) := by decide +kernel
theorem dX3_takeOff_25 : decode cX3_takeOff 25 = .ok (.ifCond .eq 13, 3) := by decide +kernel
theorem dX3_takeOff_28 : decode cX3_takeOff 28 = .ok (.new 63, 3) := by decide +kernel
theorem dX3_takeOff_31 : decode cX3_takeOff 31 = .ok (.dup, 1) := by decide +kernel
theorem dX3_takeOff_32 : decode cX3_takeOff 32 = .ok (.ldc 93, 2) := by decide +kernel
theorem dX3_takeOff_34 : decode cX3_takeOff 34 = .ok (.invokespecial 67, 3) := by decide +kernel
theorem dX3_takeOff_37 : decode cX3_takeOff 37 = .ok (.athrow, 1) := by decide +kernel
theorem dX3_takeOff_38 : decode cX3_takeOff 38 = .ok (.aload_n 0, 1) := by decide +kernel
theorem dX3_takeOff_39 : decode cX3_takeOff 39 = .ok (.getfield 22, 3) := by decide +kernel
theorem dX3_takeOff_42 : decode cX3_takeOff 42 = .ok (.aload_n 0, 1) := by decide +kernel
theorem dX3_takeOff_43 : decode cX3_takeOff 43 = .ok (.getfield 10, 3) := by decide +kernel
theorem dX3_takeOff_46 : decode cX3_takeOff 46 = .ok (.invokevirtual 68, 3) := by decide +kernel
theorem dX3_takeOff_49 : decode cX3_takeOff 49 = .ok (.aload_n 0, 1) := by decide +kernel
theorem dX3_takeOff_50 : decode cX3_takeOff 50 = .ok (.getfield 10, 3) := by decide +kernel
theorem dX3_takeOff_53 : decode cX3_takeOff 53 = .ok (.iload_n 1, 1) := by decide +kernel
theorem dX3_takeOff_54 : decode cX3_takeOff 54 = .ok (.invokevirtual 95, 3) := by decide +kernel
theorem dX3_takeOff_57 : decode cX3_takeOff 57 = .ok (.istore_n 2, 1) := by decide +kernel
theorem dX3_takeOff_58 : decode cX3_takeOff 58 = .ok (.aload_n 0, 1) := by decide +kernel
theorem dX3_takeOff_59 : decode cX3_takeOff 59 = .ok (.getfield 10, 3) := by decide +kernel
theorem dX3_takeOff_62 : decode cX3_takeOff 62 = .ok (.iload_n 1, 1) := by decide +kernel
theorem dX3_takeOff_63 : decode cX3_takeOff 63 = .ok (.invokevirtual 99, 3) := by decide +kernel
theorem dX3_takeOff_66 : decode cX3_takeOff 66 = .ok (.iload_n 2, 1) := by decide +kernel
theorem dX3_takeOff_67 : decode cX3_takeOff 67 = .ok (.invokestatic 103, 3) := by decide +kernel
theorem dX3_takeOff_70 : decode cX3_takeOff 70 = .ok (.ireturn, 1) := by decide +kernel
theorem dX3_move_0 : decode cX3_move 0 = .ok (.iload_n 1, 1) := by decide +kernel
theorem dX3_move_1 : decode cX3_move 1 = .ok (.invokestatic 45, 3) := by decide +kernel
theorem dX3_move_4 : decode cX3_move 4 = .ok (.ifCond .eq 11, 3) := by decide +kernel
theorem dX3_move_7 : decode cX3_move 7 = .ok (.iload_n 2, 1) := by decide +kernel
theorem dX3_move_8 : decode cX3_move 8 = .ok (.iload_n 3, 1) := by decide +kernel
theorem dX3_move_9 : decode cX3_move 9 = .ok (.invokestatic 106, 3) := by decide +kernel
theorem dX3_move_12 : decode cX3_move 12 = .ok (.ifCond .ne 13, 3) := by decide +kernel
theorem dX3_move_15 : decode cX3_move 15 = .ok (.new 53, 3) := by decide +kernel
theorem dX3_move_18 : decode cX3_move 18 = .ok (.dup, 1) := by decide +kernel
theorem dX3_move_19 : decode cX3_move 19 = .ok (.ldc 110, 2) := by decide +kernel
theorem dX3_move_21 : decode cX3_move 21 = .ok (.invokespecial 57, 3) := by decide +kernel
theorem dX3_move_24 : decode cX3_move 24 = .ok (.athrow, 1) := by decide +kernel
theorem dX3_move_25 : decode cX3_move 25 = .ok (.iload_n 2, 1) := by decide +kernel
theorem dX3_move_26 : decode cX3_move 26 = .ok (.iload_n 3, 1) := by decide +kernel
theorem dX3_move_27 : decode cX3_move 27 = .ok (.invokestatic 72, 3) := by decide +kernel
theorem dX3_move_30 : decode cX3_move 30 = .ok (.istore 4, 2) := by decide +kernel
theorem dX3_move_32 : decode cX3_move 32 = .ok (.aload_n 0, 1) := by decide +kernel
theorem dX3_move_33 : decode cX3_move 33 = .ok (.getfield 10, 3) := by decide +kernel
theorem dX3_move_36 : decode cX3_move 36 = .ok (.iload_n 1, 1) := by decide +kernel
theorem dX3_move_37 : decode cX3_move 37 = .ok (.invokevirtual 60, 3) := by decide +kernel
theorem dX3_move_40 : decode cX3_move 40 = .ok (.ifCond .ne 16, 3) := by decide +kernel
theorem dX3_move_43 : decode cX3_move 43 = .ok (.aload_n 0, 1) := by decide +kernel
theorem dX3_move_44 : decode cX3_move 44 = .ok (.getfield 10, 3) := by decide +kernel
theorem dX3_move_47 : decode cX3_move 47 = .ok (.iload_n 1, 1) := by decide +kernel
theorem dX3_move_48 : decode cX3_move 48 = .ok (.invokevirtual 95, 3) := by decide +kernel
theorem dX3_move_51 : decode cX3_move 51 = .ok (.iload 4, 2) := by decide +kernel
theorem dX3_move_53 : decode cX3_move 53 = .ok (.if_icmp .ne 13, 3) := by decide +kernel
theorem dX3_move_56 : decode cX3_move 56 = .ok (.new 63, 3) := by decide +kernel
theorem dX3_move_59 : decode cX3_move 59 = .ok (.dup, 1) := by decide +kernel
theorem dX3_move_60 : decode cX3_move 60 = .ok (.ldc 112, 2) := by decide +kernel
theorem dX3_move_62 : decode cX3_move 62 = .ok (.invokespecial 67, 3) := by decide +kernel
theorem dX3_move_65 : decode cX3_move 65 = .ok (.athrow, 1) := by decide +kernel
theorem dX3_move_66 : decode cX3_move 66 = .ok (.aload_n 0, 1) := by decide +kernel
theorem dX3_move_67 : decode cX3_move 67 = .ok (.getfield 22, 3) := by decide +kernel
theorem dX3_move_70 : decode cX3_move 70 = .ok (.aload_n 0, 1) := by decide +kernel
theorem dX3_move_71 : decode cX3_move 71 = .ok (.getfield 10, 3) := by decide +kernel
theorem dX3_move_74 : decode cX3_move 74 = .ok (.invokevirtual 68, 3) := by decide +kernel
theorem dX3_move_77 : decode cX3_move 77 = .ok (.aload_n 0, 1) := by decide +kernel
theorem dX3_move_78 : decode cX3_move 78 = .ok (.getfield 10, 3) := by decide +kernel
theorem dX3_move_81 : decode cX3_move 81 = .ok (.iload 4, 2) := by decide +kernel
theorem dX3_move_83 : decode cX3_move 83 = .ok (.invokevirtual 114, 3) := by decide +kernel
theorem dX3_move_86 : decode cX3_move 86 = .ok (.istore 5, 2) := by decide +kernel
theorem dX3_move_88 : decode cX3_move 88 = .ok (.aload_n 0, 1) := by decide +kernel
theorem dX3_move_89 : decode cX3_move 89 = .ok (.getfield 10, 3) := by decide +kernel
theorem dX3_move_92 : decode cX3_move 92 = .ok (.iload_n 1, 1) := by decide +kernel
theorem dX3_move_93 : decode cX3_move 93 = .ok (.iload 4, 2) := by decide +kernel
theorem dX3_move_95 : decode cX3_move 95 = .ok (.iload 5, 2) := by decide +kernel
theorem dX3_move_97 : decode cX3_move 97 = .ok (.invokevirtual 76, 3) := by decide +kernel
theorem dX3_move_100 : decode cX3_move 100 = .ok (.istore 6, 2) := by decide +kernel
theorem dX3_move_102 : decode cX3_move 102 = .ok (.iload 6, 2) := by decide +kernel
theorem dX3_move_104 : decode cX3_move 104 = .ok (.ifCond .eq 19, 3) := by decide +kernel
theorem dX3_move_107 : decode cX3_move 107 = .ok (.aload_n 0, 1) := by decide +kernel
theorem dX3_move_108 : decode cX3_move 108 = .ok (.getfield 10, 3) := by decide +kernel
theorem dX3_move_111 : decode cX3_move 111 = .ok (.dup, 1) := by decide +kernel
theorem dX3_move_112 : decode cX3_move 112 = .ok (.getfield 80, 3) := by decide +kernel
theorem dX3_move_115 : decode cX3_move 115 = .ok (.iconst 1, 1) := by decide +kernel
theorem dX3_move_116 : decode cX3_move 116 = .ok (.iadd, 1) := by decide +kernel
theorem dX3_move_117 : decode cX3_move 117 = .ok (.putfield 80, 3) := by decide +kernel
theorem dX3_move_120 : decode cX3_move 120 = .ok (.iload 6, 2) := by decide +kernel
theorem dX3_move_122 : decode cX3_move 122 = .ok (.ireturn, 1) := by decide +kernel
theorem dX3_move_123 : decode cX3_move 123 = .ok (.aload_n 0, 1) := by decide +kernel
theorem dX3_move_124 : decode cX3_move 124 = .ok (.getfield 10, 3) := by decide +kernel
theorem dX3_move_127 : decode cX3_move 127 = .ok (.iload_n 1, 1) := by decide +kernel
theorem dX3_move_128 : decode cX3_move 128 = .ok (.invokevirtual 99, 3) := by decide +kernel
theorem dX3_move_131 : decode cX3_move 131 = .ok (.aload_n 0, 1) := by decide +kernel
theorem dX3_move_132 : decode cX3_move 132 = .ok (.getfield 10, 3) := by decide +kernel
theorem dX3_move_135 : decode cX3_move 135 = .ok (.iload_n 1, 1) := by decide +kernel
theorem dX3_move_136 : decode cX3_move 136 = .ok (.iload 4, 2) := by decide +kernel
theorem dX3_move_138 : decode cX3_move 138 = .ok (.iload 5, 2) := by decide +kernel
theorem dX3_move_140 : decode cX3_move 140 = .ok (.invokevirtual 84, 3) := by decide +kernel
theorem dX3_move_143 : decode cX3_move 143 = .ok (.aload_n 0, 1) := by decide +kernel
theorem dX3_move_144 : decode cX3_move 144 = .ok (.getfield 10, 3) := by decide +kernel
theorem dX3_move_147 : decode cX3_move 147 = .ok (.dup, 1) := by decide +kernel
theorem dX3_move_148 : decode cX3_move 148 = .ok (.getfield 88, 3) := by decide +kernel
theorem dX3_move_151 : decode cX3_move 151 = .ok (.iconst 1, 1) := by decide +kernel
theorem dX3_move_152 : decode cX3_move 152 = .ok (.iadd, 1) := by decide +kernel
theorem dX3_move_153 : decode cX3_move 153 = .ok (.putfield 88, 3) := by decide +kernel
theorem dX3_move_156 : decode cX3_move 156 = .ok (.iconst 0, 1) := by decide +kernel
theorem dX3_move_157 : decode cX3_move 157 = .ok (.ireturn, 1) := by decide +kernel
theorem dX3_clearDoor_0 : decode cX3_clearDoor 0 = .ok (.iload_n 1, 1) := by decide +kernel
theorem dX3_clearDoor_1 : decode cX3_clearDoor 1 = .ok (.invokestatic 117, 3) := by decide +kernel
theorem dX3_clearDoor_4 : decode cX3_clearDoor 4 = .ok (.ifCond .ne 13, 3) := by decide +kernel
theorem dX3_clearDoor_7 : decode cX3_clearDoor 7 = .ok (.new 53, 3) := by decide +kernel
theorem dX3_clearDoor_10 : decode cX3_clearDoor 10 = .ok (.dup, 1) := by decide +kernel
theorem dX3_clearDoor_11 : decode cX3_clearDoor 11 = .ok (.ldc 120, 2) := by decide +kernel
theorem dX3_clearDoor_13 : decode cX3_clearDoor 13 = .ok (.invokespecial 57, 3) := by decide +kernel
theorem dX3_clearDoor_16 : decode cX3_clearDoor 16 = .ok (.athrow, 1) := by decide +kernel
theorem dX3_clearDoor_17 : decode cX3_clearDoor 17 = .ok (.aload_n 0, 1) := by decide +kernel
theorem dX3_clearDoor_18 : decode cX3_clearDoor 18 = .ok (.getfield 22, 3) := by decide +kernel
theorem dX3_clearDoor_21 : decode cX3_clearDoor 21 = .ok (.aload_n 0, 1) := by decide +kernel
theorem dX3_clearDoor_22 : decode cX3_clearDoor 22 = .ok (.getfield 10, 3) := by decide +kernel
theorem dX3_clearDoor_25 : decode cX3_clearDoor 25 = .ok (.invokevirtual 68, 3) := by decide +kernel
theorem dX3_clearDoor_28 : decode cX3_clearDoor 28 = .ok (.aload_n 0, 1) := by decide +kernel
theorem dX3_clearDoor_29 : decode cX3_clearDoor 29 = .ok (.getfield 10, 3) := by decide +kernel
theorem dX3_clearDoor_32 : decode cX3_clearDoor 32 = .ok (.iload_n 1, 1) := by decide +kernel
theorem dX3_clearDoor_33 : decode cX3_clearDoor 33 = .ok (.invokevirtual 122, 3) := by decide +kernel
theorem dX3_clearDoor_36 : decode cX3_clearDoor 36 = .ok (.ireturn, 1) := by decide +kernel
theorem dX3_borrow_0 : decode cX3_borrow 0 = .ok (.iload_n 1, 1) := by decide +kernel
theorem dX3_borrow_1 : decode cX3_borrow 1 = .ok (.iload_n 2, 1) := by decide +kernel
theorem dX3_borrow_2 : decode cX3_borrow 2 = .ok (.invokestatic 106, 3) := by decide +kernel
theorem dX3_borrow_5 : decode cX3_borrow 5 = .ok (.ifCond .eq 12, 3) := by decide +kernel
theorem dX3_borrow_8 : decode cX3_borrow 8 = .ok (.iload_n 3, 1) := by decide +kernel
theorem dX3_borrow_9 : decode cX3_borrow 9 = .ok (.iload 4, 2) := by decide +kernel
theorem dX3_borrow_11 : decode cX3_borrow 11 = .ok (.invokestatic 106, 3) := by decide +kernel
theorem dX3_borrow_14 : decode cX3_borrow 14 = .ok (.ifCond .ne 13, 3) := by decide +kernel
theorem dX3_borrow_17 : decode cX3_borrow 17 = .ok (.new 53, 3) := by decide +kernel
theorem dX3_borrow_20 : decode cX3_borrow 20 = .ok (.dup, 1) := by decide +kernel
theorem dX3_borrow_21 : decode cX3_borrow 21 = .ok (.ldc 125, 2) := by decide +kernel
theorem dX3_borrow_23 : decode cX3_borrow 23 = .ok (.invokespecial 57, 3) := by decide +kernel
theorem dX3_borrow_26 : decode cX3_borrow 26 = .ok (.athrow, 1) := by decide +kernel
theorem dX3_borrow_27 : decode cX3_borrow 27 = .ok (.iload_n 1, 1) := by decide +kernel
theorem dX3_borrow_28 : decode cX3_borrow 28 = .ok (.iload_n 3, 1) := by decide +kernel
theorem dX3_borrow_29 : decode cX3_borrow 29 = .ok (.if_icmp .ne 13, 3) := by decide +kernel
theorem dX3_borrow_32 : decode cX3_borrow 32 = .ok (.new 127, 3) := by decide +kernel
theorem dX3_borrow_35 : decode cX3_borrow 35 = .ok (.dup, 1) := by decide +kernel
theorem dX3_borrow_36 : decode cX3_borrow 36 = .ok (.ldc 129, 2) := by decide +kernel
theorem dX3_borrow_38 : decode cX3_borrow 38 = .ok (.invokespecial 131, 3) := by decide +kernel
theorem dX3_borrow_41 : decode cX3_borrow 41 = .ok (.athrow, 1) := by decide +kernel
theorem dX3_borrow_42 : decode cX3_borrow 42 = .ok (.iload_n 1, 1) := by decide +kernel
theorem dX3_borrow_43 : decode cX3_borrow 43 = .ok (.iload_n 2, 1) := by decide +kernel
theorem dX3_borrow_44 : decode cX3_borrow 44 = .ok (.invokestatic 72, 3) := by decide +kernel
theorem dX3_borrow_47 : decode cX3_borrow 47 = .ok (.istore 5, 2) := by decide +kernel
theorem dX3_borrow_49 : decode cX3_borrow 49 = .ok (.iload_n 3, 1) := by decide +kernel
theorem dX3_borrow_50 : decode cX3_borrow 50 = .ok (.iload 4, 2) := by decide +kernel
theorem dX3_borrow_52 : decode cX3_borrow 52 = .ok (.invokestatic 72, 3) := by decide +kernel
theorem dX3_borrow_55 : decode cX3_borrow 55 = .ok (.istore 6, 2) := by decide +kernel
theorem dX3_borrow_57 : decode cX3_borrow 57 = .ok (.aload_n 0, 1) := by decide +kernel
theorem dX3_borrow_58 : decode cX3_borrow 58 = .ok (.getfield 10, 3) := by decide +kernel
theorem dX3_borrow_61 : decode cX3_borrow 61 = .ok (.iload 5, 2) := by decide +kernel
theorem dX3_borrow_63 : decode cX3_borrow 63 = .ok (.invokevirtual 132, 3) := by decide +kernel
theorem dX3_borrow_66 : decode cX3_borrow 66 = .ok (.ifCond .eq 15, 3) := by decide +kernel
theorem dX3_borrow_69 : decode cX3_borrow 69 = .ok (.aload_n 0, 1) := by decide +kernel
theorem dX3_borrow_70 : decode cX3_borrow 70 = .ok (.getfield 10, 3) := by decide +kernel
theorem dX3_borrow_73 : decode cX3_borrow 73 = .ok (.iload 6, 2) := by decide +kernel
theorem dX3_borrow_75 : decode cX3_borrow 75 = .ok (.invokevirtual 132, 3) := by decide +kernel
theorem dX3_borrow_78 : decode cX3_borrow 78 = .ok (.ifCond .ne 13, 3) := by decide +kernel
theorem dX3_borrow_81 : decode cX3_borrow 81 = .ok (.new 63, 3) := by decide +kernel
theorem dX3_borrow_84 : decode cX3_borrow 84 = .ok (.dup, 1) := by decide +kernel
theorem dX3_borrow_85 : decode cX3_borrow 85 = .ok (.ldc 135, 2) := by decide +kernel
theorem dX3_borrow_87 : decode cX3_borrow 87 = .ok (.invokespecial 67, 3) := by decide +kernel
theorem dX3_borrow_90 : decode cX3_borrow 90 = .ok (.athrow, 1) := by decide +kernel
theorem dX3_borrow_91 : decode cX3_borrow 91 = .ok (.aload_n 0, 1) := by decide +kernel
theorem dX3_borrow_92 : decode cX3_borrow 92 = .ok (.getfield 22, 3) := by decide +kernel
theorem dX3_borrow_95 : decode cX3_borrow 95 = .ok (.aload_n 0, 1) := by decide +kernel
theorem dX3_borrow_96 : decode cX3_borrow 96 = .ok (.getfield 10, 3) := by decide +kernel
theorem dX3_borrow_99 : decode cX3_borrow 99 = .ok (.invokevirtual 68, 3) := by decide +kernel
theorem dX3_borrow_102 : decode cX3_borrow 102 = .ok (.aload_n 0, 1) := by decide +kernel
theorem dX3_borrow_103 : decode cX3_borrow 103 = .ok (.getfield 10, 3) := by decide +kernel
theorem dX3_borrow_106 : decode cX3_borrow 106 = .ok (.iload 5, 2) := by decide +kernel
theorem dX3_borrow_108 : decode cX3_borrow 108 = .ok (.iload 6, 2) := by decide +kernel
theorem dX3_borrow_110 : decode cX3_borrow 110 = .ok (.invokevirtual 137, 3) := by decide +kernel
theorem dX3_borrow_113 : decode cX3_borrow 113 = .ok (.aload_n 0, 1) := by decide +kernel
theorem dX3_borrow_114 : decode cX3_borrow 114 = .ok (.getfield 10, 3) := by decide +kernel
theorem dX3_borrow_117 : decode cX3_borrow 117 = .ok (.iload 5, 2) := by decide +kernel
theorem dX3_borrow_119 : decode cX3_borrow 119 = .ok (.invokevirtual 141, 3) := by decide +kernel
theorem dX3_borrow_122 : decode cX3_borrow 122 = .ok (.ireturn, 1) := by decide +kernel
theorem dX3_bringBack_0 : decode cX3_bringBack 0 = .ok (.iload_n 1, 1) := by decide +kernel
theorem dX3_bringBack_1 : decode cX3_bringBack 1 = .ok (.iload_n 2, 1) := by decide +kernel
theorem dX3_bringBack_2 : decode cX3_bringBack 2 = .ok (.invokestatic 106, 3) := by decide +kernel
theorem dX3_bringBack_5 : decode cX3_bringBack 5 = .ok (.ifCond .ne 13, 3) := by decide +kernel
theorem dX3_bringBack_8 : decode cX3_bringBack 8 = .ok (.new 53, 3) := by decide +kernel
theorem dX3_bringBack_11 : decode cX3_bringBack 11 = .ok (.dup, 1) := by decide +kernel
theorem dX3_bringBack_12 : decode cX3_bringBack 12 = .ok (.ldc 125, 2) := by decide +kernel
theorem dX3_bringBack_14 : decode cX3_bringBack 14 = .ok (.invokespecial 57, 3) := by decide +kernel
theorem dX3_bringBack_17 : decode cX3_bringBack 17 = .ok (.athrow, 1) := by decide +kernel
theorem dX3_bringBack_18 : decode cX3_bringBack 18 = .ok (.iload_n 1, 1) := by decide +kernel
theorem dX3_bringBack_19 : decode cX3_bringBack 19 = .ok (.iload_n 2, 1) := by decide +kernel
theorem dX3_bringBack_20 : decode cX3_bringBack 20 = .ok (.invokestatic 72, 3) := by decide +kernel
theorem dX3_bringBack_23 : decode cX3_bringBack 23 = .ok (.istore_n 3, 1) := by decide +kernel
theorem dX3_bringBack_24 : decode cX3_bringBack 24 = .ok (.aload_n 0, 1) := by decide +kernel
theorem dX3_bringBack_25 : decode cX3_bringBack 25 = .ok (.getfield 10, 3) := by decide +kernel
theorem dX3_bringBack_28 : decode cX3_bringBack 28 = .ok (.iload_n 3, 1) := by decide +kernel
theorem dX3_bringBack_29 : decode cX3_bringBack 29 = .ok (.invokevirtual 144, 3) := by decide +kernel
theorem dX3_bringBack_32 : decode cX3_bringBack 32 = .ok (.ifCond .ne 13, 3) := by decide +kernel
theorem dX3_bringBack_35 : decode cX3_bringBack 35 = .ok (.new 63, 3) := by decide +kernel
theorem dX3_bringBack_38 : decode cX3_bringBack 38 = .ok (.dup, 1) := by decide +kernel
theorem dX3_bringBack_39 : decode cX3_bringBack 39 = .ok (.ldc 147, 2) := by decide +kernel
theorem dX3_bringBack_41 : decode cX3_bringBack 41 = .ok (.invokespecial 67, 3) := by decide +kernel
theorem dX3_bringBack_44 : decode cX3_bringBack 44 = .ok (.athrow, 1) := by decide +kernel
theorem dX3_bringBack_45 : decode cX3_bringBack 45 = .ok (.aload_n 0, 1) := by decide +kernel
theorem dX3_bringBack_46 : decode cX3_bringBack 46 = .ok (.getfield 22, 3) := by decide +kernel
theorem dX3_bringBack_49 : decode cX3_bringBack 49 = .ok (.aload_n 0, 1) := by decide +kernel
theorem dX3_bringBack_50 : decode cX3_bringBack 50 = .ok (.getfield 10, 3) := by decide +kernel
theorem dX3_bringBack_53 : decode cX3_bringBack 53 = .ok (.invokevirtual 68, 3) := by decide +kernel
theorem dX3_bringBack_56 : decode cX3_bringBack 56 = .ok (.aload_n 0, 1) := by decide +kernel
theorem dX3_bringBack_57 : decode cX3_bringBack 57 = .ok (.getfield 10, 3) := by decide +kernel
theorem dX3_bringBack_60 : decode cX3_bringBack 60 = .ok (.iload_n 3, 1) := by decide +kernel
theorem dX3_bringBack_61 : decode cX3_bringBack 61 = .ok (.invokevirtual 149, 3) := by decide +kernel
theorem dX3_bringBack_64 : decode cX3_bringBack 64 = .ok (.aload_n 0, 1) := by decide +kernel
theorem dX3_bringBack_65 : decode cX3_bringBack 65 = .ok (.getfield 10, 3) := by decide +kernel
theorem dX3_bringBack_68 : decode cX3_bringBack 68 = .ok (.iload_n 3, 1) := by decide +kernel
theorem dX3_bringBack_69 : decode cX3_bringBack 69 = .ok (.invokevirtual 141, 3) := by decide +kernel
theorem dX3_bringBack_72 : decode cX3_bringBack 72 = .ok (.ireturn, 1) := by decide +kernel
theorem dX3_sleep_0 : decode cX3_sleep 0 = .ok (.iload_n 1, 1) := by decide +kernel
theorem dX3_sleep_1 : decode cX3_sleep 1 = .ok (.invokestatic 152, 3) := by decide +kernel
theorem dX3_sleep_4 : decode cX3_sleep 4 = .ok (.ifCond .ne 13, 3) := by decide +kernel
theorem dX3_sleep_7 : decode cX3_sleep 7 = .ok (.new 127, 3) := by decide +kernel
theorem dX3_sleep_10 : decode cX3_sleep 10 = .ok (.dup, 1) := by decide +kernel
theorem dX3_sleep_11 : decode cX3_sleep 11 = .ok (.ldc 155, 2) := by decide +kernel
theorem dX3_sleep_13 : decode cX3_sleep 13 = .ok (.invokespecial 131, 3) := by decide +kernel
theorem dX3_sleep_16 : decode cX3_sleep 16 = .ok (.athrow, 1) := by decide +kernel
theorem dX3_sleep_17 : decode cX3_sleep 17 = .ok (.aload_n 0, 1) := by decide +kernel
theorem dX3_sleep_18 : decode cX3_sleep 18 = .ok (.getfield 10, 3) := by decide +kernel
theorem dX3_sleep_21 : decode cX3_sleep 21 = .ok (.getfield 157, 3) := by decide +kernel
theorem dX3_sleep_24 : decode cX3_sleep 24 = .ok (.iload_n 1, 1) := by decide +kernel
theorem dX3_sleep_25 : decode cX3_sleep 25 = .ok (.iadd, 1) := by decide +kernel
theorem dX3_sleep_26 : decode cX3_sleep 26 = .ok (.sipush 9999, 3) := by decide +kernel
theorem dX3_sleep_29 : decode cX3_sleep 29 = .ok (.if_icmp .le 13, 3) := by decide +kernel
theorem dX3_sleep_32 : decode cX3_sleep 32 = .ok (.new 63, 3) := by decide +kernel
theorem dX3_sleep_35 : decode cX3_sleep 35 = .ok (.dup, 1) := by decide +kernel
theorem dX3_sleep_36 : decode cX3_sleep 36 = .ok (.ldc 160, 2) := by decide +kernel
theorem dX3_sleep_38 : decode cX3_sleep 38 = .ok (.invokespecial 67, 3) := by decide +kernel
theorem dX3_sleep_41 : decode cX3_sleep 41 = .ok (.athrow, 1) := by decide +kernel
theorem dX3_sleep_42 : decode cX3_sleep 42 = .ok (.aload_n 0, 1) := by decide +kernel
theorem dX3_sleep_43 : decode cX3_sleep 43 = .ok (.getfield 22, 3) := by decide +kernel
theorem dX3_sleep_46 : decode cX3_sleep 46 = .ok (.aload_n 0, 1) := by decide +kernel
theorem dX3_sleep_47 : decode cX3_sleep 47 = .ok (.getfield 10, 3) := by decide +kernel
theorem dX3_sleep_50 : decode cX3_sleep 50 = .ok (.invokevirtual 68, 3) := by decide +kernel
theorem dX3_sleep_53 : decode cX3_sleep 53 = .ok (.aload_n 0, 1) := by decide +kernel
theorem dX3_sleep_54 : decode cX3_sleep 54 = .ok (.getfield 10, 3) := by decide +kernel
theorem dX3_sleep_57 : decode cX3_sleep 57 = .ok (.iload_n 1, 1) := by decide +kernel
theorem dX3_sleep_58 : decode cX3_sleep 58 = .ok (.invokevirtual 162, 3) := by decide +kernel
theorem dX3_sleep_61 : decode cX3_sleep 61 = .ok (.ireturn, 1) := by decide +kernel
theorem dX3_set_0 : decode cX3_set 0 = .ok (.iload_n 1, 1) := by decide +kernel
theorem dX3_set_1 : decode cX3_set 1 = .ok (.invokestatic 165, 3) := by decide +kernel
theorem dX3_set_4 : decode cX3_set 4 = .ok (.ifCond .ne 13, 3) := by decide +kernel
theorem dX3_set_7 : decode cX3_set 7 = .ok (.new 53, 3) := by decide +kernel
theorem dX3_set_10 : decode cX3_set 10 = .ok (.dup, 1) := by decide +kernel
theorem dX3_set_11 : decode cX3_set 11 = .ok (.ldc 168, 2) := by decide +kernel
theorem dX3_set_13 : decode cX3_set 13 = .ok (.invokespecial 57, 3) := by decide +kernel
theorem dX3_set_16 : decode cX3_set 16 = .ok (.athrow, 1) := by decide +kernel
theorem dX3_set_17 : decode cX3_set 17 = .ok (.iload_n 2, 1) := by decide +kernel
theorem dX3_set_18 : decode cX3_set 18 = .ok (.ifCond .lt 11, 3) := by decide +kernel
theorem dX3_set_21 : decode cX3_set 21 = .ok (.iload_n 2, 1) := by decide +kernel
theorem dX3_set_22 : decode cX3_set 22 = .ok (.iload_n 1, 1) := by decide +kernel
theorem dX3_set_23 : decode cX3_set 23 = .ok (.invokestatic 170, 3) := by decide +kernel
theorem dX3_set_26 : decode cX3_set 26 = .ok (.if_icmp .le 13, 3) := by decide +kernel
theorem dX3_set_29 : decode cX3_set 29 = .ok (.new 127, 3) := by decide +kernel
theorem dX3_set_32 : decode cX3_set 32 = .ok (.dup, 1) := by decide +kernel
theorem dX3_set_33 : decode cX3_set 33 = .ok (.ldc 173, 2) := by decide +kernel
theorem dX3_set_35 : decode cX3_set 35 = .ok (.invokespecial 131, 3) := by decide +kernel
theorem dX3_set_38 : decode cX3_set 38 = .ok (.athrow, 1) := by decide +kernel
theorem dX3_set_39 : decode cX3_set 39 = .ok (.aload_n 0, 1) := by decide +kernel
theorem dX3_set_40 : decode cX3_set 40 = .ok (.getfield 22, 3) := by decide +kernel
theorem dX3_set_43 : decode cX3_set 43 = .ok (.aload_n 0, 1) := by decide +kernel
theorem dX3_set_44 : decode cX3_set 44 = .ok (.getfield 10, 3) := by decide +kernel
theorem dX3_set_47 : decode cX3_set 47 = .ok (.invokevirtual 68, 3) := by decide +kernel
theorem dX3_set_50 : decode cX3_set 50 = .ok (.aload_n 0, 1) := by decide +kernel
theorem dX3_set_51 : decode cX3_set 51 = .ok (.getfield 10, 3) := by decide +kernel
theorem dX3_set_54 : decode cX3_set 54 = .ok (.iload_n 1, 1) := by decide +kernel
theorem dX3_set_55 : decode cX3_set 55 = .ok (.invokevirtual 175, 3) := by decide +kernel
theorem dX3_set_58 : decode cX3_set 58 = .ok (.istore_n 3, 1) := by decide +kernel
theorem dX3_set_59 : decode cX3_set 59 = .ok (.aload_n 0, 1) := by decide +kernel
theorem dX3_set_60 : decode cX3_set 60 = .ok (.getfield 10, 3) := by decide +kernel
theorem dX3_set_63 : decode cX3_set 63 = .ok (.iload_n 1, 1) := by decide +kernel
theorem dX3_set_64 : decode cX3_set 64 = .ok (.iload_n 2, 1) := by decide +kernel
theorem dX3_set_65 : decode cX3_set 65 = .ok (.invokevirtual 178, 3) := by decide +kernel
theorem dX3_set_68 : decode cX3_set 68 = .ok (.iload_n 3, 1) := by decide +kernel
theorem dX3_set_69 : decode cX3_set 69 = .ok (.ireturn, 1) := by decide +kernel
theorem dX3_wordOf_0 : decode cX3_wordOf 0 = .ok (.iload_n 1, 1) := by decide +kernel
theorem dX3_wordOf_1 : decode cX3_wordOf 1 = .ok (.invokestatic 45, 3) := by decide +kernel
theorem dX3_wordOf_4 : decode cX3_wordOf 4 = .ok (.ifCond .ne 13, 3) := by decide +kernel
theorem dX3_wordOf_7 : decode cX3_wordOf 7 = .ok (.new 53, 3) := by decide +kernel
theorem dX3_wordOf_10 : decode cX3_wordOf 10 = .ok (.dup, 1) := by decide +kernel
theorem dX3_wordOf_11 : decode cX3_wordOf 11 = .ok (.ldc 91, 2) := by decide +kernel
theorem dX3_wordOf_13 : decode cX3_wordOf 13 = .ok (.invokespecial 57, 3) := by decide +kernel
theorem dX3_wordOf_16 : decode cX3_wordOf 16 = .ok (.athrow, 1) := by decide +kernel
theorem dX3_wordOf_17 : decode cX3_wordOf 17 = .ok (.iload_n 2, 1) := by decide +kernel
theorem dX3_wordOf_18 : decode cX3_wordOf 18 = .ok (.ifCond .lt 9, 3) := by decide +kernel
theorem dX3_wordOf_21 : decode cX3_wordOf 21 = .ok (.iload_n 2, 1) := by decide +kernel
theorem dX3_wordOf_22 : decode cX3_wordOf 22 = .ok (.bipush 7, 2) := by decide +kernel
theorem dX3_wordOf_24 : decode cX3_wordOf 24 = .ok (.if_icmp .lt 13, 3) := by decide +kernel
theorem dX3_wordOf_27 : decode cX3_wordOf 27 = .ok (.new 127, 3) := by decide +kernel
theorem dX3_wordOf_30 : decode cX3_wordOf 30 = .ok (.dup, 1) := by decide +kernel
theorem dX3_wordOf_31 : decode cX3_wordOf 31 = .ok (.ldc 231, 2) := by decide +kernel
theorem dX3_wordOf_33 : decode cX3_wordOf 33 = .ok (.invokespecial 131, 3) := by decide +kernel
theorem dX3_wordOf_36 : decode cX3_wordOf 36 = .ok (.athrow, 1) := by decide +kernel
theorem dX3_wordOf_37 : decode cX3_wordOf 37 = .ok (.aload_n 0, 1) := by decide +kernel
theorem dX3_wordOf_38 : decode cX3_wordOf 38 = .ok (.getfield 10, 3) := by decide +kernel
theorem dX3_wordOf_41 : decode cX3_wordOf 41 = .ok (.iload_n 1, 1) := by decide +kernel
theorem dX3_wordOf_42 : decode cX3_wordOf 42 = .ok (.iload_n 2, 1) := by decide +kernel
theorem dX3_wordOf_43 : decode cX3_wordOf 43 = .ok (.invokevirtual 233, 3) := by decide +kernel
theorem dX3_wordOf_46 : decode cX3_wordOf 46 = .ok (.ireturn, 1) := by decide +kernel
theorem dX3_at_0 : decode cX3_at 0 = .ok (.iload_n 1, 1) := by decide +kernel
theorem dX3_at_1 : decode cX3_at 1 = .ok (.iload_n 2, 1) := by decide +kernel
theorem dX3_at_2 : decode cX3_at 2 = .ok (.invokestatic 106, 3) := by decide +kernel
theorem dX3_at_5 : decode cX3_at 5 = .ok (.ifCond .eq 13, 3) := by decide +kernel
theorem dX3_at_8 : decode cX3_at 8 = .ok (.iload_n 3, 1) := by decide +kernel
theorem dX3_at_9 : decode cX3_at 9 = .ok (.ifCond .lt 9, 3) := by decide +kernel
theorem dX3_at_12 : decode cX3_at 12 = .ok (.iload_n 3, 1) := by decide +kernel
theorem dX3_at_13 : decode cX3_at 13 = .ok (.bipush 6, 2) := by decide +kernel
theorem dX3_at_15 : decode cX3_at 15 = .ok (.if_icmp .lt 13, 3) := by decide +kernel
theorem dX3_at_18 : decode cX3_at 18 = .ok (.new 53, 3) := by decide +kernel
theorem dX3_at_21 : decode cX3_at 21 = .ok (.dup, 1) := by decide +kernel
theorem dX3_at_22 : decode cX3_at 22 = .ok (.ldc 236, 2) := by decide +kernel
theorem dX3_at_24 : decode cX3_at 24 = .ok (.invokespecial 57, 3) := by decide +kernel
theorem dX3_at_27 : decode cX3_at 27 = .ok (.athrow, 1) := by decide +kernel
theorem dX3_at_28 : decode cX3_at 28 = .ok (.aload_n 0, 1) := by decide +kernel
theorem dX3_at_29 : decode cX3_at 29 = .ok (.getfield 10, 3) := by decide +kernel
theorem dX3_at_32 : decode cX3_at 32 = .ok (.iload_n 1, 1) := by decide +kernel
theorem dX3_at_33 : decode cX3_at 33 = .ok (.iload_n 2, 1) := by decide +kernel
theorem dX3_at_34 : decode cX3_at 34 = .ok (.invokestatic 72, 3) := by decide +kernel
theorem dX3_at_37 : decode cX3_at 37 = .ok (.iload_n 3, 1) := by decide +kernel
theorem dX3_at_38 : decode cX3_at 38 = .ok (.invokevirtual 238, 3) := by decide +kernel
theorem dX3_at_41 : decode cX3_at 41 = .ok (.ireturn, 1) := by decide +kernel
theorem dX3_lineOf_0 : decode cX3_lineOf 0 = .ok (.iload_n 1, 1) := by decide +kernel
theorem dX3_lineOf_1 : decode cX3_lineOf 1 = .ok (.iload_n 2, 1) := by decide +kernel
theorem dX3_lineOf_2 : decode cX3_lineOf 2 = .ok (.invokestatic 106, 3) := by decide +kernel
theorem dX3_lineOf_5 : decode cX3_lineOf 5 = .ok (.ifCond .ne 13, 3) := by decide +kernel
theorem dX3_lineOf_8 : decode cX3_lineOf 8 = .ok (.new 53, 3) := by decide +kernel
theorem dX3_lineOf_11 : decode cX3_lineOf 11 = .ok (.dup, 1) := by decide +kernel
theorem dX3_lineOf_12 : decode cX3_lineOf 12 = .ok (.ldc 125, 2) := by decide +kernel
theorem dX3_lineOf_14 : decode cX3_lineOf 14 = .ok (.invokespecial 57, 3) := by decide +kernel
theorem dX3_lineOf_17 : decode cX3_lineOf 17 = .ok (.athrow, 1) := by decide +kernel
theorem dX3_lineOf_18 : decode cX3_lineOf 18 = .ok (.iload_n 3, 1) := by decide +kernel
theorem dX3_lineOf_19 : decode cX3_lineOf 19 = .ok (.ifCond .lt 9, 3) := by decide +kernel
theorem dX3_lineOf_22 : decode cX3_lineOf 22 = .ok (.iload_n 3, 1) := by decide +kernel
theorem dX3_lineOf_23 : decode cX3_lineOf 23 = .ok (.bipush 8, 2) := by decide +kernel
theorem dX3_lineOf_25 : decode cX3_lineOf 25 = .ok (.if_icmp .lt 13, 3) := by decide +kernel
theorem dX3_lineOf_28 : decode cX3_lineOf 28 = .ok (.new 127, 3) := by decide +kernel
theorem dX3_lineOf_31 : decode cX3_lineOf 31 = .ok (.dup, 1) := by decide +kernel
theorem dX3_lineOf_32 : decode cX3_lineOf 32 = .ok (.ldc 241, 2) := by decide +kernel
theorem dX3_lineOf_34 : decode cX3_lineOf 34 = .ok (.invokespecial 131, 3) := by decide +kernel
theorem dX3_lineOf_37 : decode cX3_lineOf 37 = .ok (.athrow, 1) := by decide +kernel
theorem dX3_lineOf_38 : decode cX3_lineOf 38 = .ok (.aload_n 0, 1) := by decide +kernel
theorem dX3_lineOf_39 : decode cX3_lineOf 39 = .ok (.getfield 10, 3) := by decide +kernel
theorem dX3_lineOf_42 : decode cX3_lineOf 42 = .ok (.iload_n 1, 1) := by decide +kernel
theorem dX3_lineOf_43 : decode cX3_lineOf 43 = .ok (.iload_n 2, 1) := by decide +kernel
theorem dX3_lineOf_44 : decode cX3_lineOf 44 = .ok (.invokestatic 72, 3) := by decide +kernel
theorem dX3_lineOf_47 : decode cX3_lineOf 47 = .ok (.iload_n 3, 1) := by decide +kernel
theorem dX3_lineOf_48 : decode cX3_lineOf 48 = .ok (.invokevirtual 243, 3) := by decide +kernel
theorem dX3_lineOf_51 : decode cX3_lineOf 51 = .ok (.ireturn, 1) := by decide +kernel
theorem dX3_doorOf_0 : decode cX3_doorOf 0 = .ok (.iload_n 1, 1) := by decide +kernel
theorem dX3_doorOf_1 : decode cX3_doorOf 1 = .ok (.invokestatic 117, 3) := by decide +kernel
theorem dX3_doorOf_4 : decode cX3_doorOf 4 = .ok (.ifCond .ne 13, 3) := by decide +kernel
theorem dX3_doorOf_7 : decode cX3_doorOf 7 = .ok (.new 53, 3) := by decide +kernel
theorem dX3_doorOf_10 : decode cX3_doorOf 10 = .ok (.dup, 1) := by decide +kernel
theorem dX3_doorOf_11 : decode cX3_doorOf 11 = .ok (.ldc 120, 2) := by decide +kernel
theorem dX3_doorOf_13 : decode cX3_doorOf 13 = .ok (.invokespecial 57, 3) := by decide +kernel
theorem dX3_doorOf_16 : decode cX3_doorOf 16 = .ok (.athrow, 1) := by decide +kernel
theorem dX3_doorOf_17 : decode cX3_doorOf 17 = .ok (.iload_n 2, 1) := by decide +kernel
theorem dX3_doorOf_18 : decode cX3_doorOf 18 = .ok (.ifCond .lt 8, 3) := by decide +kernel
theorem dX3_doorOf_21 : decode cX3_doorOf 21 = .ok (.iload_n 2, 1) := by decide +kernel
theorem dX3_doorOf_22 : decode cX3_doorOf 22 = .ok (.iconst 5, 1) := by decide +kernel
theorem dX3_doorOf_23 : decode cX3_doorOf 23 = .ok (.if_icmp .lt 13, 3) := by decide +kernel
theorem dX3_doorOf_26 : decode cX3_doorOf 26 = .ok (.new 127, 3) := by decide +kernel
theorem dX3_doorOf_29 : decode cX3_doorOf 29 = .ok (.dup, 1) := by decide +kernel
theorem dX3_doorOf_30 : decode cX3_doorOf 30 = .ok (.ldc 246, 2) := by decide +kernel
theorem dX3_doorOf_32 : decode cX3_doorOf 32 = .ok (.invokespecial 131, 3) := by decide +kernel
theorem dX3_doorOf_35 : decode cX3_doorOf 35 = .ok (.athrow, 1) := by decide +kernel
theorem dX3_doorOf_36 : decode cX3_doorOf 36 = .ok (.aload_n 0, 1) := by decide +kernel
theorem dX3_doorOf_37 : decode cX3_doorOf 37 = .ok (.getfield 10, 3) := by decide +kernel
theorem dX3_doorOf_40 : decode cX3_doorOf 40 = .ok (.iload_n 1, 1) := by decide +kernel
theorem dX3_doorOf_41 : decode cX3_doorOf 41 = .ok (.iload_n 2, 1) := by decide +kernel
theorem dX3_doorOf_42 : decode cX3_doorOf 42 = .ok (.invokevirtual 248, 3) := by decide +kernel
theorem dX3_doorOf_45 : decode cX3_doorOf 45 = .ok (.ireturn, 1) := by decide +kernel
theorem dX3_count_0 : decode cX3_count 0 = .ok (.iload_n 1, 1) := by decide +kernel
theorem dX3_count_1 : decode cX3_count 1 = .ok (.ifCond .lt 9, 3) := by decide +kernel
theorem dX3_count_4 : decode cX3_count 4 = .ok (.iload_n 1, 1) := by decide +kernel
theorem dX3_count_5 : decode cX3_count 5 = .ok (.bipush 9, 2) := by decide +kernel
theorem dX3_count_7 : decode cX3_count 7 = .ok (.if_icmp .lt 13, 3) := by decide +kernel
theorem dX3_count_10 : decode cX3_count 10 = .ok (.new 127, 3) := by decide +kernel
theorem dX3_count_13 : decode cX3_count 13 = .ok (.dup, 1) := by decide +kernel
theorem dX3_count_14 : decode cX3_count 14 = .ok (.ldc 251, 2) := by decide +kernel
theorem dX3_count_16 : decode cX3_count 16 = .ok (.invokespecial 131, 3) := by decide +kernel
theorem dX3_count_19 : decode cX3_count 19 = .ok (.athrow, 1) := by decide +kernel
theorem dX3_count_20 : decode cX3_count 20 = .ok (.aload_n 0, 1) := by decide +kernel
theorem dX3_count_21 : decode cX3_count 21 = .ok (.iload_n 1, 1) := by decide +kernel
theorem dX3_count_22 : decode cX3_count 22 = .ok (.invokevirtual 253, 3) := by decide +kernel
theorem dX3_count_25 : decode cX3_count 25 = .ok (.ireturn, 1) := by decide +kernel
theorem dX3_setting_0 : decode cX3_setting 0 = .ok (.iload_n 1, 1) := by decide +kernel
theorem dX3_setting_1 : decode cX3_setting 1 = .ok (.invokestatic 165, 3) := by decide +kernel
theorem dX3_setting_4 : decode cX3_setting 4 = .ok (.ifCond .ne 13, 3) := by decide +kernel
theorem dX3_setting_7 : decode cX3_setting 7 = .ok (.new 53, 3) := by decide +kernel
theorem dX3_setting_10 : decode cX3_setting 10 = .ok (.dup, 1) := by decide +kernel
theorem dX3_setting_11 : decode cX3_setting 11 = .ok (.ldc 168, 2) := by decide +kernel
theorem dX3_setting_13 : decode cX3_setting 13 = .ok (.invokespecial 57, 3) := by decide +kernel
theorem dX3_setting_16 : decode cX3_setting 16 = .ok (.athrow, 1) := by decide +kernel
theorem dX3_setting_17 : decode cX3_setting 17 = .ok (.aload_n 0, 1) := by decide +kernel
theorem dX3_setting_18 : decode cX3_setting 18 = .ok (.getfield 10, 3) := by decide +kernel
theorem dX3_setting_21 : decode cX3_setting 21 = .ok (.iload_n 1, 1) := by decide +kernel
theorem dX3_setting_22 : decode cX3_setting 22 = .ok (.invokevirtual 175, 3) := by decide +kernel
theorem dX3_setting_25 : decode cX3_setting 25 = .ok (.ireturn, 1) := by decide +kernel
theorem dX3_whyNot_0 : decode cX3_whyNot 0 = .ok (.iload_n 1, 1) := by decide +kernel
theorem dX3_whyNot_1 : decode cX3_whyNot 1 = .ok (.invokestatic 45, 3) := by decide +kernel
theorem dX3_whyNot_4 : decode cX3_whyNot 4 = .ok (.ifCond .eq 14, 3) := by decide +kernel
theorem dX3_whyNot_7 : decode cX3_whyNot 7 = .ok (.aload_n 0, 1) := by decide +kernel
theorem dX3_whyNot_8 : decode cX3_whyNot 8 = .ok (.iload_n 2, 1) := by decide +kernel
theorem dX3_whyNot_9 : decode cX3_whyNot 9 = .ok (.iload_n 3, 1) := by decide +kernel
theorem dX3_whyNot_10 : decode cX3_whyNot 10 = .ok (.iload 4, 2) := by decide +kernel
theorem dX3_whyNot_12 : decode cX3_whyNot 12 = .ok (.invokevirtual 49, 3) := by decide +kernel
theorem dX3_whyNot_15 : decode cX3_whyNot 15 = .ok (.ifCond .ne 13, 3) := by decide +kernel
theorem dX3_whyNot_18 : decode cX3_whyNot 18 = .ok (.new 53, 3) := by decide +kernel
theorem dX3_whyNot_21 : decode cX3_whyNot 21 = .ok (.dup, 1) := by decide +kernel
theorem dX3_whyNot_22 : decode cX3_whyNot 22 = .ok (.ldc 55, 2) := by decide +kernel
theorem dX3_whyNot_24 : decode cX3_whyNot 24 = .ok (.invokespecial 57, 3) := by decide +kernel
theorem dX3_whyNot_27 : decode cX3_whyNot 27 = .ok (.athrow, 1) := by decide +kernel
theorem dX3_whyNot_28 : decode cX3_whyNot 28 = .ok (.iload_n 2, 1) := by decide +kernel
theorem dX3_whyNot_29 : decode cX3_whyNot 29 = .ok (.iload_n 3, 1) := by decide +kernel
theorem dX3_whyNot_30 : decode cX3_whyNot 30 = .ok (.invokestatic 72, 3) := by decide +kernel
theorem dX3_whyNot_33 : decode cX3_whyNot 33 = .ok (.istore 5, 2) := by decide +kernel
theorem dX3_whyNot_35 : decode cX3_whyNot 35 = .ok (.aload_n 0, 1) := by decide +kernel
theorem dX3_whyNot_36 : decode cX3_whyNot 36 = .ok (.getfield 10, 3) := by decide +kernel
theorem dX3_whyNot_39 : decode cX3_whyNot 39 = .ok (.iload_n 1, 1) := by decide +kernel
theorem dX3_whyNot_40 : decode cX3_whyNot 40 = .ok (.invokevirtual 95, 3) := by decide +kernel
theorem dX3_whyNot_43 : decode cX3_whyNot 43 = .ok (.iload 5, 2) := by decide +kernel
theorem dX3_whyNot_45 : decode cX3_whyNot 45 = .ok (.if_icmp .ne 7, 3) := by decide +kernel
theorem dX3_whyNot_48 : decode cX3_whyNot 48 = .ok (.iconst (-1), 1) := by decide +kernel
theorem dX3_whyNot_49 : decode cX3_whyNot 49 = .ok (.goto 15, 3) := by decide +kernel
theorem dX3_whyNot_52 : decode cX3_whyNot 52 = .ok (.aload_n 0, 1) := by decide +kernel
theorem dX3_whyNot_53 : decode cX3_whyNot 53 = .ok (.getfield 10, 3) := by decide +kernel
theorem dX3_whyNot_56 : decode cX3_whyNot 56 = .ok (.iload_n 1, 1) := by decide +kernel
theorem dX3_whyNot_57 : decode cX3_whyNot 57 = .ok (.iload 5, 2) := by decide +kernel
theorem dX3_whyNot_59 : decode cX3_whyNot 59 = .ok (.iload 4, 2) := by decide +kernel
theorem dX3_whyNot_61 : decode cX3_whyNot 61 = .ok (.invokevirtual 76, 3) := by decide +kernel
theorem dX3_whyNot_64 : decode cX3_whyNot 64 = .ok (.ireturn, 1) := by decide +kernel
theorem dX3_bestWord_0 : decode cX3_bestWord 0 = .ok (.iload_n 1, 1) := by decide +kernel
theorem dX3_bestWord_1 : decode cX3_bestWord 1 = .ok (.iload_n 2, 1) := by decide +kernel
theorem dX3_bestWord_2 : decode cX3_bestWord 2 = .ok (.invokestatic 106, 3) := by decide +kernel
theorem dX3_bestWord_5 : decode cX3_bestWord 5 = .ok (.ifCond .ne 13, 3) := by decide +kernel
theorem dX3_bestWord_8 : decode cX3_bestWord 8 = .ok (.new 53, 3) := by decide +kernel
theorem dX3_bestWord_11 : decode cX3_bestWord 11 = .ok (.dup, 1) := by decide +kernel
theorem dX3_bestWord_12 : decode cX3_bestWord 12 = .ok (.ldc 125, 2) := by decide +kernel
theorem dX3_bestWord_14 : decode cX3_bestWord 14 = .ok (.invokespecial 57, 3) := by decide +kernel
theorem dX3_bestWord_17 : decode cX3_bestWord 17 = .ok (.athrow, 1) := by decide +kernel
theorem dX3_bestWord_18 : decode cX3_bestWord 18 = .ok (.aload_n 0, 1) := by decide +kernel
theorem dX3_bestWord_19 : decode cX3_bestWord 19 = .ok (.getfield 10, 3) := by decide +kernel
theorem dX3_bestWord_22 : decode cX3_bestWord 22 = .ok (.iload_n 1, 1) := by decide +kernel
theorem dX3_bestWord_23 : decode cX3_bestWord 23 = .ok (.iload_n 2, 1) := by decide +kernel
theorem dX3_bestWord_24 : decode cX3_bestWord 24 = .ok (.invokestatic 72, 3) := by decide +kernel
theorem dX3_bestWord_27 : decode cX3_bestWord 27 = .ok (.invokevirtual 256, 3) := by decide +kernel
theorem dX3_bestWord_30 : decode cX3_bestWord 30 = .ok (.ireturn, 1) := by decide +kernel
theorem dX3_prey_0 : decode cX3_prey 0 = .ok (.aload_n 0, 1) := by decide +kernel
theorem dX3_prey_1 : decode cX3_prey 1 = .ok (.getfield 10, 3) := by decide +kernel
theorem dX3_prey_4 : decode cX3_prey 4 = .ok (.invokevirtual 259, 3) := by decide +kernel
theorem dX3_prey_7 : decode cX3_prey 7 = .ok (.ireturn, 1) := by decide +kernel
theorem dX3_ifSlept_0 : decode cX3_ifSlept 0 = .ok (.iload_n 2, 1) := by decide +kernel
theorem dX3_ifSlept_1 : decode cX3_ifSlept 1 = .ok (.invokestatic 117, 3) := by decide +kernel
theorem dX3_ifSlept_4 : decode cX3_ifSlept 4 = .ok (.ifCond .ne 13, 3) := by decide +kernel
theorem dX3_ifSlept_7 : decode cX3_ifSlept 7 = .ok (.new 53, 3) := by decide +kernel
theorem dX3_ifSlept_10 : decode cX3_ifSlept 10 = .ok (.dup, 1) := by decide +kernel
theorem dX3_ifSlept_11 : decode cX3_ifSlept 11 = .ok (.ldc 120, 2) := by decide +kernel
theorem dX3_ifSlept_13 : decode cX3_ifSlept 13 = .ok (.invokespecial 57, 3) := by decide +kernel
theorem dX3_ifSlept_16 : decode cX3_ifSlept 16 = .ok (.athrow, 1) := by decide +kernel
theorem dX3_ifSlept_17 : decode cX3_ifSlept 17 = .ok (.iload_n 1, 1) := by decide +kernel
theorem dX3_ifSlept_18 : decode cX3_ifSlept 18 = .ok (.invokestatic 152, 3) := by decide +kernel
theorem dX3_ifSlept_21 : decode cX3_ifSlept 21 = .ok (.ifCond .ne 13, 3) := by decide +kernel
theorem dX3_ifSlept_24 : decode cX3_ifSlept 24 = .ok (.new 127, 3) := by decide +kernel
theorem dX3_ifSlept_27 : decode cX3_ifSlept 27 = .ok (.dup, 1) := by decide +kernel
theorem dX3_ifSlept_28 : decode cX3_ifSlept 28 = .ok (.ldc 155, 2) := by decide +kernel
theorem dX3_ifSlept_30 : decode cX3_ifSlept 30 = .ok (.invokespecial 131, 3) := by decide +kernel
theorem dX3_ifSlept_33 : decode cX3_ifSlept 33 = .ok (.athrow, 1) := by decide +kernel
theorem dX3_ifSlept_34 : decode cX3_ifSlept 34 = .ok (.aload_n 0, 1) := by decide +kernel
theorem dX3_ifSlept_35 : decode cX3_ifSlept 35 = .ok (.getfield 16, 3) := by decide +kernel
theorem dX3_ifSlept_38 : decode cX3_ifSlept 38 = .ok (.aload_n 0, 1) := by decide +kernel
theorem dX3_ifSlept_39 : decode cX3_ifSlept 39 = .ok (.getfield 10, 3) := by decide +kernel
theorem dX3_ifSlept_42 : decode cX3_ifSlept 42 = .ok (.invokevirtual 215, 3) := by decide +kernel
theorem dX3_ifSlept_45 : decode cX3_ifSlept 45 = .ok (.aload_n 0, 1) := by decide +kernel
theorem dX3_ifSlept_46 : decode cX3_ifSlept 46 = .ok (.getfield 16, 3) := by decide +kernel
theorem dX3_ifSlept_49 : decode cX3_ifSlept 49 = .ok (.iload_n 1, 1) := by decide +kernel
theorem dX3_ifSlept_50 : decode cX3_ifSlept 50 = .ok (.invokevirtual 162, 3) := by decide +kernel
theorem dX3_ifSlept_53 : decode cX3_ifSlept 53 = .ok (.pop, 1) := by decide +kernel
theorem dX3_ifSlept_54 : decode cX3_ifSlept 54 = .ok (.aload_n 0, 1) := by decide +kernel
theorem dX3_ifSlept_55 : decode cX3_ifSlept 55 = .ok (.getfield 16, 3) := by decide +kernel
theorem dX3_ifSlept_58 : decode cX3_ifSlept 58 = .ok (.iload_n 2, 1) := by decide +kernel
theorem dX3_ifSlept_59 : decode cX3_ifSlept 59 = .ok (.invokevirtual 262, 3) := by decide +kernel
theorem dX3_ifSlept_62 : decode cX3_ifSlept 62 = .ok (.ireturn, 1) := by decide +kernel
theorem dX3_shownShare_0 : decode cX3_shownShare 0 = .ok (.aload_n 0, 1) := by decide +kernel
theorem dX3_shownShare_1 : decode cX3_shownShare 1 = .ok (.invokevirtual 265, 3) := by decide +kernel
theorem dX3_shownShare_4 : decode cX3_shownShare 4 = .ok (.dreturn, 1) := by decide +kernel
theorem dX3_share_0 : decode cX3_share 0 = .ok (.bipush 40, 2) := by decide +kernel
theorem dX3_share_2 : decode cX3_share 2 = .ok (.aload_n 0, 1) := by decide +kernel
theorem dX3_share_3 : decode cX3_share 3 = .ok (.getfield 10, 3) := by decide +kernel
theorem dX3_share_6 : decode cX3_share 6 = .ok (.invokevirtual 218, 3) := by decide +kernel
theorem dX3_share_9 : decode cX3_share 9 = .ok (.isub, 1) := by decide +kernel
theorem dX3_share_10 : decode cX3_share 10 = .ok (.i2d, 1) := by decide +kernel
theorem dX3_share_11 : decode cX3_share 11 = .ok (.ldc2_w 293, 3) := by decide +kernel
theorem dX3_share_14 : decode cX3_share 14 = .ok (.ddiv, 1) := by decide +kernel
theorem dX3_share_15 : decode cX3_share 15 = .ok (.dreturn, 1) := by decide +kernel
theorem dX3_numberOf_0 : decode cX3_numberOf 0 = .ok (.iload_n 1, 1) := by decide +kernel
theorem dX3_numberOf_1 : decode cX3_numberOf 1 = .ok (.tableswitch 111 0 7 #[47, 55, 63, 71, 79, 87, 95, 103], 47) := by decide +kernel
theorem dX3_numberOf_48 : decode cX3_numberOf 48 = .ok (.aload_n 0, 1) := by decide +kernel
theorem dX3_numberOf_49 : decode cX3_numberOf 49 = .ok (.getfield 10, 3) := by decide +kernel
theorem dX3_numberOf_52 : decode cX3_numberOf 52 = .ok (.invokevirtual 218, 3) := by decide +kernel
theorem dX3_numberOf_55 : decode cX3_numberOf 55 = .ok (.ireturn, 1) := by decide +kernel
theorem dX3_numberOf_56 : decode cX3_numberOf 56 = .ok (.aload_n 0, 1) := by decide +kernel
theorem dX3_numberOf_57 : decode cX3_numberOf 57 = .ok (.getfield 10, 3) := by decide +kernel
theorem dX3_numberOf_60 : decode cX3_numberOf 60 = .ok (.invokevirtual 295, 3) := by decide +kernel
theorem dX3_numberOf_63 : decode cX3_numberOf 63 = .ok (.ireturn, 1) := by decide +kernel
theorem dX3_numberOf_64 : decode cX3_numberOf 64 = .ok (.aload_n 0, 1) := by decide +kernel
theorem dX3_numberOf_65 : decode cX3_numberOf 65 = .ok (.getfield 10, 3) := by decide +kernel
theorem dX3_numberOf_68 : decode cX3_numberOf 68 = .ok (.getfield 157, 3) := by decide +kernel
theorem dX3_numberOf_71 : decode cX3_numberOf 71 = .ok (.ireturn, 1) := by decide +kernel
theorem dX3_numberOf_72 : decode cX3_numberOf 72 = .ok (.aload_n 0, 1) := by decide +kernel
theorem dX3_numberOf_73 : decode cX3_numberOf 73 = .ok (.getfield 10, 3) := by decide +kernel
theorem dX3_numberOf_76 : decode cX3_numberOf 76 = .ok (.getfield 298, 3) := by decide +kernel
theorem dX3_numberOf_79 : decode cX3_numberOf 79 = .ok (.ireturn, 1) := by decide +kernel
theorem dX3_numberOf_80 : decode cX3_numberOf 80 = .ok (.aload_n 0, 1) := by decide +kernel
theorem dX3_numberOf_81 : decode cX3_numberOf 81 = .ok (.getfield 10, 3) := by decide +kernel
theorem dX3_numberOf_84 : decode cX3_numberOf 84 = .ok (.getfield 88, 3) := by decide +kernel
theorem dX3_numberOf_87 : decode cX3_numberOf 87 = .ok (.ireturn, 1) := by decide +kernel
theorem dX3_numberOf_88 : decode cX3_numberOf 88 = .ok (.aload_n 0, 1) := by decide +kernel
theorem dX3_numberOf_89 : decode cX3_numberOf 89 = .ok (.getfield 10, 3) := by decide +kernel
theorem dX3_numberOf_92 : decode cX3_numberOf 92 = .ok (.getfield 80, 3) := by decide +kernel
theorem dX3_numberOf_95 : decode cX3_numberOf 95 = .ok (.ireturn, 1) := by decide +kernel
theorem dX3_numberOf_96 : decode cX3_numberOf 96 = .ok (.aload_n 0, 1) := by decide +kernel
theorem dX3_numberOf_97 : decode cX3_numberOf 97 = .ok (.getfield 10, 3) := by decide +kernel
theorem dX3_numberOf_100 : decode cX3_numberOf 100 = .ok (.invokevirtual 301, 3) := by decide +kernel
theorem dX3_numberOf_103 : decode cX3_numberOf 103 = .ok (.ireturn, 1) := by decide +kernel
theorem dX3_numberOf_104 : decode cX3_numberOf 104 = .ok (.aload_n 0, 1) := by decide +kernel
theorem dX3_numberOf_105 : decode cX3_numberOf 105 = .ok (.getfield 10, 3) := by decide +kernel
theorem dX3_numberOf_108 : decode cX3_numberOf 108 = .ok (.invokevirtual 304, 3) := by decide +kernel
theorem dX3_numberOf_111 : decode cX3_numberOf 111 = .ok (.ireturn, 1) := by decide +kernel
theorem dX3_numberOf_112 : decode cX3_numberOf 112 = .ok (.aload_n 0, 1) := by decide +kernel
theorem dX3_numberOf_113 : decode cX3_numberOf 113 = .ok (.getfield 22, 3) := by decide +kernel
theorem dX3_numberOf_116 : decode cX3_numberOf 116 = .ok (.getfield 223, 3) := by decide +kernel
theorem dX3_numberOf_119 : decode cX3_numberOf 119 = .ok (.ireturn, 1) := by decide +kernel
theorem dX3_isWord_0 : decode cX3_isWord 0 = .ok (.iload_n 0, 1) := by decide +kernel
theorem dX3_isWord_1 : decode cX3_isWord 1 = .ok (.ifCond .lt 13, 3) := by decide +kernel
theorem dX3_isWord_4 : decode cX3_isWord 4 = .ok (.iload_n 0, 1) := by decide +kernel
theorem dX3_isWord_5 : decode cX3_isWord 5 = .ok (.bipush 40, 2) := by decide +kernel
theorem dX3_isWord_7 : decode cX3_isWord 7 = .ok (.if_icmp .ge 7, 3) := by decide +kernel
theorem dX3_isWord_10 : decode cX3_isWord 10 = .ok (.iconst 1, 1) := by decide +kernel
theorem dX3_isWord_11 : decode cX3_isWord 11 = .ok (.goto 4, 3) := by decide +kernel
theorem dX3_isWord_14 : decode cX3_isWord 14 = .ok (.iconst 0, 1) := by decide +kernel
theorem dX3_isWord_15 : decode cX3_isWord 15 = .ok (.ireturn, 1) := by decide +kernel
theorem dX3_isDoor_0 : decode cX3_isDoor 0 = .ok (.iload_n 0, 1) := by decide +kernel
theorem dX3_isDoor_1 : decode cX3_isDoor 1 = .ok (.ifCond .lt 12, 3) := by decide +kernel
theorem dX3_isDoor_4 : decode cX3_isDoor 4 = .ok (.iload_n 0, 1) := by decide +kernel
theorem dX3_isDoor_5 : decode cX3_isDoor 5 = .ok (.iconst 4, 1) := by decide +kernel
theorem dX3_isDoor_6 : decode cX3_isDoor 6 = .ok (.if_icmp .ge 7, 3) := by decide +kernel
theorem dX3_isDoor_9 : decode cX3_isDoor 9 = .ok (.iconst 1, 1) := by decide +kernel
theorem dX3_isDoor_10 : decode cX3_isDoor 10 = .ok (.goto 4, 3) := by decide +kernel
theorem dX3_isDoor_13 : decode cX3_isDoor 13 = .ok (.iconst 0, 1) := by decide +kernel
theorem dX3_isDoor_14 : decode cX3_isDoor 14 = .ok (.ireturn, 1) := by decide +kernel
theorem dX3_isLine_0 : decode cX3_isLine 0 = .ok (.iload_n 0, 1) := by decide +kernel
theorem dX3_isLine_1 : decode cX3_isLine 1 = .ok (.invokestatic 117, 3) := by decide +kernel
theorem dX3_isLine_4 : decode cX3_isLine 4 = .ok (.ifCond .eq 16, 3) := by decide +kernel
theorem dX3_isLine_7 : decode cX3_isLine 7 = .ok (.iload_n 1, 1) := by decide +kernel
theorem dX3_isLine_8 : decode cX3_isLine 8 = .ok (.ifCond .lt 12, 3) := by decide +kernel
theorem dX3_isLine_11 : decode cX3_isLine 11 = .ok (.iload_n 1, 1) := by decide +kernel
theorem dX3_isLine_12 : decode cX3_isLine 12 = .ok (.iconst 4, 1) := by decide +kernel
theorem dX3_isLine_13 : decode cX3_isLine 13 = .ok (.if_icmp .ge 7, 3) := by decide +kernel
theorem dX3_isLine_16 : decode cX3_isLine 16 = .ok (.iconst 1, 1) := by decide +kernel
theorem dX3_isLine_17 : decode cX3_isLine 17 = .ok (.goto 4, 3) := by decide +kernel
theorem dX3_isLine_20 : decode cX3_isLine 20 = .ok (.iconst 0, 1) := by decide +kernel
theorem dX3_isLine_21 : decode cX3_isLine 21 = .ok (.ireturn, 1) := by decide +kernel
theorem dX3_isPlaceToPut_0 : decode cX3_isPlaceToPut 0 = .ok (.iload_n 1, 1) := by decide +kernel
theorem dX3_isPlaceToPut_1 : decode cX3_isPlaceToPut 1 = .ok (.iload_n 2, 1) := by decide +kernel
theorem dX3_isPlaceToPut_2 : decode cX3_isPlaceToPut 2 = .ok (.invokestatic 106, 3) := by decide +kernel
theorem dX3_isPlaceToPut_5 : decode cX3_isPlaceToPut 5 = .ok (.ifCond .eq 27, 3) := by decide +kernel
theorem dX3_isPlaceToPut_8 : decode cX3_isPlaceToPut 8 = .ok (.iload_n 3, 1) := by decide +kernel
theorem dX3_isPlaceToPut_9 : decode cX3_isPlaceToPut 9 = .ok (.ifCond .lt 23, 3) := by decide +kernel
theorem dX3_isPlaceToPut_12 : decode cX3_isPlaceToPut 12 = .ok (.iload_n 3, 1) := by decide +kernel
theorem dX3_isPlaceToPut_13 : decode cX3_isPlaceToPut 13 = .ok (.aload_n 0, 1) := by decide +kernel
theorem dX3_isPlaceToPut_14 : decode cX3_isPlaceToPut 14 = .ok (.getfield 10, 3) := by decide +kernel
theorem dX3_isPlaceToPut_17 : decode cX3_isPlaceToPut 17 = .ok (.iload_n 1, 1) := by decide +kernel
theorem dX3_isPlaceToPut_18 : decode cX3_isPlaceToPut 18 = .ok (.iload_n 2, 1) := by decide +kernel
theorem dX3_isPlaceToPut_19 : decode cX3_isPlaceToPut 19 = .ok (.invokestatic 72, 3) := by decide +kernel
theorem dX3_isPlaceToPut_22 : decode cX3_isPlaceToPut 22 = .ok (.invokevirtual 114, 3) := by decide +kernel
theorem dX3_isPlaceToPut_25 : decode cX3_isPlaceToPut 25 = .ok (.if_icmp .gt 7, 3) := by decide +kernel
theorem dX3_isPlaceToPut_28 : decode cX3_isPlaceToPut 28 = .ok (.iconst 1, 1) := by decide +kernel
theorem dX3_isPlaceToPut_29 : decode cX3_isPlaceToPut 29 = .ok (.goto 4, 3) := by decide +kernel
theorem dX3_isPlaceToPut_32 : decode cX3_isPlaceToPut 32 = .ok (.iconst 0, 1) := by decide +kernel
theorem dX3_isPlaceToPut_33 : decode cX3_isPlaceToPut 33 = .ok (.ireturn, 1) := by decide +kernel
theorem dX3_isNights_0 : decode cX3_isNights 0 = .ok (.iload_n 0, 1) := by decide +kernel
theorem dX3_isNights_1 : decode cX3_isNights 1 = .ok (.iconst 1, 1) := by decide +kernel
theorem dX3_isNights_2 : decode cX3_isNights 2 = .ok (.if_icmp .lt 13, 3) := by decide +kernel
theorem dX3_isNights_5 : decode cX3_isNights 5 = .ok (.iload_n 0, 1) := by decide +kernel
theorem dX3_isNights_6 : decode cX3_isNights 6 = .ok (.bipush 20, 2) := by decide +kernel
theorem dX3_isNights_8 : decode cX3_isNights 8 = .ok (.if_icmp .gt 7, 3) := by decide +kernel
theorem dX3_isNights_11 : decode cX3_isNights 11 = .ok (.iconst 1, 1) := by decide +kernel
theorem dX3_isNights_12 : decode cX3_isNights 12 = .ok (.goto 4, 3) := by decide +kernel
theorem dX3_isNights_15 : decode cX3_isNights 15 = .ok (.iconst 0, 1) := by decide +kernel
theorem dX3_isNights_16 : decode cX3_isNights 16 = .ok (.ireturn, 1) := by decide +kernel
theorem dX3_isSetting_0 : decode cX3_isSetting 0 = .ok (.iload_n 0, 1) := by decide +kernel
theorem dX3_isSetting_1 : decode cX3_isSetting 1 = .ok (.ifCond .lt 12, 3) := by decide +kernel
theorem dX3_isSetting_4 : decode cX3_isSetting 4 = .ok (.iload_n 0, 1) := by decide +kernel
theorem dX3_isSetting_5 : decode cX3_isSetting 5 = .ok (.iconst 3, 1) := by decide +kernel
theorem dX3_isSetting_6 : decode cX3_isSetting 6 = .ok (.if_icmp .ge 7, 3) := by decide +kernel
theorem dX3_isSetting_9 : decode cX3_isSetting 9 = .ok (.iconst 1, 1) := by decide +kernel
theorem dX3_isSetting_10 : decode cX3_isSetting 10 = .ok (.goto 4, 3) := by decide +kernel
theorem dX3_isSetting_13 : decode cX3_isSetting 13 = .ok (.iconst 0, 1) := by decide +kernel
theorem dX3_isSetting_14 : decode cX3_isSetting 14 = .ok (.ireturn, 1) := by decide +kernel
theorem dX3_greatestOf_0 : decode cX3_greatestOf 0 = .ok (.iload_n 0, 1) := by decide +kernel
theorem dX3_greatestOf_1 : decode cX3_greatestOf 1 = .ok (.lookupswitch 33 #[(0, 27), (1, 29)], 27) := by decide +kernel
theorem dX3_greatestOf_28 : decode cX3_greatestOf 28 = .ok (.iconst 1, 1) := by decide +kernel
theorem dX3_greatestOf_29 : decode cX3_greatestOf 29 = .ok (.ireturn, 1) := by decide +kernel
theorem dX3_greatestOf_30 : decode cX3_greatestOf 30 = .ok (.sipush 200, 3) := by decide +kernel
theorem dX3_greatestOf_33 : decode cX3_greatestOf 33 = .ok (.ireturn, 1) := by decide +kernel
theorem dX3_greatestOf_34 : decode cX3_greatestOf 34 = .ok (.bipush 9, 2) := by decide +kernel
theorem dX3_greatestOf_36 : decode cX3_greatestOf 36 = .ok (.ireturn, 1) := by decide +kernel
theorem dX3_kindOf_0 : decode cX3_kindOf 0 = .ok (.iload_n 0, 1) := by decide +kernel
theorem dX3_kindOf_1 : decode cX3_kindOf 1 = .ok (.iconst 4, 1) := by decide +kernel
theorem dX3_kindOf_2 : decode cX3_kindOf 2 = .ok (.irem, 1) := by decide +kernel
theorem dX3_kindOf_3 : decode cX3_kindOf 3 = .ok (.ireturn, 1) := by decide +kernel
theorem dX3_endingOf_0 : decode cX3_endingOf 0 = .ok (.iload_n 0, 1) := by decide +kernel
theorem dX3_endingOf_1 : decode cX3_endingOf 1 = .ok (.iconst 4, 1) := by decide +kernel
theorem dX3_endingOf_2 : decode cX3_endingOf 2 = .ok (.idiv, 1) := by decide +kernel
theorem dX3_endingOf_3 : decode cX3_endingOf 3 = .ok (.iconst 5, 1) := by decide +kernel
theorem dX3_endingOf_4 : decode cX3_endingOf 4 = .ok (.irem, 1) := by decide +kernel
theorem dX3_endingOf_5 : decode cX3_endingOf 5 = .ok (.ireturn, 1) := by decide +kernel
theorem dX3_beatsOf_0 : decode cX3_beatsOf 0 = .ok (.iload_n 0, 1) := by decide +kernel
theorem dX3_beatsOf_1 : decode cX3_beatsOf 1 = .ok (.iconst 3, 1) := by decide +kernel
theorem dX3_beatsOf_2 : decode cX3_beatsOf 2 = .ok (.irem, 1) := by decide +kernel
theorem dX3_beatsOf_3 : decode cX3_beatsOf 3 = .ok (.iconst 1, 1) := by decide +kernel
theorem dX3_beatsOf_4 : decode cX3_beatsOf 4 = .ok (.iadd, 1) := by decide +kernel
theorem dX3_beatsOf_5 : decode cX3_beatsOf 5 = .ok (.ireturn, 1) := by decide +kernel
theorem dX3_clash_0 : decode cX3_clash 0 = .ok (.iload_n 0, 1) := by decide +kernel
theorem dX3_clash_1 : decode cX3_clash 1 = .ok (.invokestatic 325, 3) := by decide +kernel
theorem dX3_clash_4 : decode cX3_clash 4 = .ok (.iload_n 1, 1) := by decide +kernel
theorem dX3_clash_5 : decode cX3_clash 5 = .ok (.invokestatic 325, 3) := by decide +kernel
theorem dX3_clash_8 : decode cX3_clash 8 = .ok (.if_icmp .ne 15, 3) := by decide +kernel
theorem dX3_clash_11 : decode cX3_clash 11 = .ok (.iload_n 0, 1) := by decide +kernel
theorem dX3_clash_12 : decode cX3_clash 12 = .ok (.invokestatic 325, 3) := by decide +kernel
theorem dX3_clash_15 : decode cX3_clash 15 = .ok (.iconst 2, 1) := by decide +kernel
theorem dX3_clash_16 : decode cX3_clash 16 = .ok (.if_icmp .eq 7, 3) := by decide +kernel
theorem dX3_clash_19 : decode cX3_clash 19 = .ok (.iconst 1, 1) := by decide +kernel
theorem dX3_clash_20 : decode cX3_clash 20 = .ok (.goto 4, 3) := by decide +kernel
theorem dX3_clash_23 : decode cX3_clash 23 = .ok (.iconst 0, 1) := by decide +kernel
theorem dX3_clash_24 : decode cX3_clash 24 = .ok (.ireturn, 1) := by decide +kernel
theorem dX3_lineNumber_0 : decode cX3_lineNumber 0 = .ok (.iload_n 0, 1) := by decide +kernel
theorem dX3_lineNumber_1 : decode cX3_lineNumber 1 = .ok (.iconst 4, 1) := by decide +kernel
theorem dX3_lineNumber_2 : decode cX3_lineNumber 2 = .ok (.imul, 1) := by decide +kernel
theorem dX3_lineNumber_3 : decode cX3_lineNumber 3 = .ok (.iload_n 1, 1) := by decide +kernel
theorem dX3_lineNumber_4 : decode cX3_lineNumber 4 = .ok (.iadd, 1) := by decide +kernel
theorem dX3_lineNumber_5 : decode cX3_lineNumber 5 = .ok (.ireturn, 1) := by decide +kernel
theorem dX3_lineCode_0 : decode cX3_lineCode 0 = .ok (.iload_n 0, 1) := by decide +kernel
theorem dX3_lineCode_1 : decode cX3_lineCode 1 = .ok (.iconst (-1), 1) := by decide +kernel
theorem dX3_lineCode_2 : decode cX3_lineCode 2 = .ok (.if_icmp .ne 7, 3) := by decide +kernel
theorem dX3_lineCode_5 : decode cX3_lineCode 5 = .ok (.iconst (-1), 1) := by decide +kernel
theorem dX3_lineCode_6 : decode cX3_lineCode 6 = .ok (.goto 13, 3) := by decide +kernel
theorem dX3_lineCode_9 : decode cX3_lineCode 9 = .ok (.bipush 10, 2) := by decide +kernel
theorem dX3_lineCode_11 : decode cX3_lineCode 11 = .ok (.iload_n 0, 1) := by decide +kernel
theorem dX3_lineCode_12 : decode cX3_lineCode 12 = .ok (.iconst 4, 1) := by decide +kernel
theorem dX3_lineCode_13 : decode cX3_lineCode 13 = .ok (.idiv, 1) := by decide +kernel
theorem dX3_lineCode_14 : decode cX3_lineCode 14 = .ok (.imul, 1) := by decide +kernel
theorem dX3_lineCode_15 : decode cX3_lineCode 15 = .ok (.iload_n 0, 1) := by decide +kernel
theorem dX3_lineCode_16 : decode cX3_lineCode 16 = .ok (.iconst 4, 1) := by decide +kernel
theorem dX3_lineCode_17 : decode cX3_lineCode 17 = .ok (.irem, 1) := by decide +kernel
theorem dX3_lineCode_18 : decode cX3_lineCode 18 = .ok (.iadd, 1) := by decide +kernel
theorem dX3_lineCode_19 : decode cX3_lineCode 19 = .ok (.ireturn, 1) := by decide +kernel
theorem dX3_cell_0 : decode cX3_cell 0 = .ok (.iload_n 1, 1) := by decide +kernel
theorem dX3_cell_1 : decode cX3_cell 1 = .ok (.ifCond .lt 15, 3) := by decide +kernel
theorem dX3_cell_4 : decode cX3_cell 4 = .ok (.iload_n 1, 1) := by decide +kernel
theorem dX3_cell_5 : decode cX3_cell 5 = .ok (.aload_n 0, 1) := by decide +kernel
theorem dX3_cell_6 : decode cX3_cell 6 = .ok (.arraylength, 1) := by decide +kernel
theorem dX3_cell_7 : decode cX3_cell 7 = .ok (.if_icmp .ge 9, 3) := by decide +kernel
theorem dX3_cell_10 : decode cX3_cell 10 = .ok (.aload_n 0, 1) := by decide +kernel
theorem dX3_cell_11 : decode cX3_cell 11 = .ok (.iload_n 1, 1) := by decide +kernel
theorem dX3_cell_12 : decode cX3_cell 12 = .ok (.iaload, 1) := by decide +kernel
theorem dX3_cell_13 : decode cX3_cell 13 = .ok (.goto 4, 3) := by decide +kernel
theorem dX3_cell_16 : decode cX3_cell 16 = .ok (.iconst (-1), 1) := by decide +kernel
theorem dX3_cell_17 : decode cX3_cell 17 = .ok (.ireturn, 1) := by decide +kernel
theorem dX3_setCell_0 : decode cX3_setCell 0 = .ok (.iload_n 1, 1) := by decide +kernel
theorem dX3_setCell_1 : decode cX3_setCell 1 = .ok (.ifCond .lt 13, 3) := by decide +kernel
theorem dX3_setCell_4 : decode cX3_setCell 4 = .ok (.iload_n 1, 1) := by decide +kernel
theorem dX3_setCell_5 : decode cX3_setCell 5 = .ok (.aload_n 0, 1) := by decide +kernel
theorem dX3_setCell_6 : decode cX3_setCell 6 = .ok (.arraylength, 1) := by decide +kernel
theorem dX3_setCell_7 : decode cX3_setCell 7 = .ok (.if_icmp .ge 7, 3) := by decide +kernel
theorem dX3_setCell_10 : decode cX3_setCell 10 = .ok (.aload_n 0, 1) := by decide +kernel
theorem dX3_setCell_11 : decode cX3_setCell 11 = .ok (.iload_n 1, 1) := by decide +kernel
theorem dX3_setCell_12 : decode cX3_setCell 12 = .ok (.iload_n 2, 1) := by decide +kernel
theorem dX3_setCell_13 : decode cX3_setCell 13 = .ok (.iastore, 1) := by decide +kernel
theorem dX3_setCell_14 : decode cX3_setCell 14 = .ok (.return_, 1) := by decide +kernel
theorem dX3_copyRow_0 : decode cX3_copyRow 0 = .ok (.iconst 0, 1) := by decide +kernel
theorem dX3_copyRow_1 : decode cX3_copyRow 1 = .ok (.istore_n 2, 1) := by decide +kernel
theorem dX3_copyRow_2 : decode cX3_copyRow 2 = .ok (.iload_n 2, 1) := by decide +kernel
theorem dX3_copyRow_3 : decode cX3_copyRow 3 = .ok (.aload_n 0, 1) := by decide +kernel
theorem dX3_copyRow_4 : decode cX3_copyRow 4 = .ok (.arraylength, 1) := by decide +kernel
theorem dX3_copyRow_5 : decode cX3_copyRow 5 = .ok (.if_icmp .ge 21, 3) := by decide +kernel
theorem dX3_copyRow_8 : decode cX3_copyRow 8 = .ok (.iload_n 2, 1) := by decide +kernel
theorem dX3_copyRow_9 : decode cX3_copyRow 9 = .ok (.aload_n 1, 1) := by decide +kernel
theorem dX3_copyRow_10 : decode cX3_copyRow 10 = .ok (.arraylength, 1) := by decide +kernel
theorem dX3_copyRow_11 : decode cX3_copyRow 11 = .ok (.if_icmp .ge 15, 3) := by decide +kernel
theorem dX3_copyRow_14 : decode cX3_copyRow 14 = .ok (.aload_n 1, 1) := by decide +kernel
theorem dX3_copyRow_15 : decode cX3_copyRow 15 = .ok (.iload_n 2, 1) := by decide +kernel
theorem dX3_copyRow_16 : decode cX3_copyRow 16 = .ok (.aload_n 0, 1) := by decide +kernel
theorem dX3_copyRow_17 : decode cX3_copyRow 17 = .ok (.iload_n 2, 1) := by decide +kernel
theorem dX3_copyRow_18 : decode cX3_copyRow 18 = .ok (.iaload, 1) := by decide +kernel
theorem dX3_copyRow_19 : decode cX3_copyRow 19 = .ok (.iastore, 1) := by decide +kernel
theorem dX3_copyRow_20 : decode cX3_copyRow 20 = .ok (.iinc 2 1, 3) := by decide +kernel
theorem dX3_copyRow_23 : decode cX3_copyRow 23 = .ok (.goto (-21), 3) := by decide +kernel
theorem dX3_copyRow_26 : decode cX3_copyRow 26 = .ok (.return_, 1) := by decide +kernel
theorem dX3_fillRow_0 : decode cX3_fillRow 0 = .ok (.iconst 0, 1) := by decide +kernel
theorem dX3_fillRow_1 : decode cX3_fillRow 1 = .ok (.istore_n 2, 1) := by decide +kernel
theorem dX3_fillRow_2 : decode cX3_fillRow 2 = .ok (.iload_n 2, 1) := by decide +kernel
theorem dX3_fillRow_3 : decode cX3_fillRow 3 = .ok (.aload_n 0, 1) := by decide +kernel
theorem dX3_fillRow_4 : decode cX3_fillRow 4 = .ok (.arraylength, 1) := by decide +kernel
theorem dX3_fillRow_5 : decode cX3_fillRow 5 = .ok (.if_icmp .ge 13, 3) := by decide +kernel
theorem dX3_fillRow_8 : decode cX3_fillRow 8 = .ok (.aload_n 0, 1) := by decide +kernel
theorem dX3_fillRow_9 : decode cX3_fillRow 9 = .ok (.iload_n 2, 1) := by decide +kernel
theorem dX3_fillRow_10 : decode cX3_fillRow 10 = .ok (.iload_n 1, 1) := by decide +kernel
theorem dX3_fillRow_11 : decode cX3_fillRow 11 = .ok (.iastore, 1) := by decide +kernel
theorem dX3_fillRow_12 : decode cX3_fillRow 12 = .ok (.iinc 2 1, 3) := by decide +kernel
theorem dX3_fillRow_15 : decode cX3_fillRow 15 = .ok (.goto (-13), 3) := by decide +kernel
theorem dX3_fillRow_18 : decode cX3_fillRow 18 = .ok (.return_, 1) := by decide +kernel
end
section
theorem dL_cell_0 : decode cL_cell 0 = .ok (.iload_n 1, 1) := by decide +kernel
theorem dL_cell_1 : decode cL_cell 1 = .ok (.aload_n 0, 1) := by decide +kernel
theorem dL_cell_2 : decode cL_cell 2 = .ok (.arraylength, 1) := by decide +kernel
theorem dL_cell_3 : decode cL_cell 3 = .ok (.if_icmp .ge 9, 3) := by decide +kernel
theorem dL_cell_6 : decode cL_cell 6 = .ok (.aload_n 0, 1) := by decide +kernel
theorem dL_cell_7 : decode cL_cell 7 = .ok (.iload_n 1, 1) := by decide +kernel
theorem dL_cell_8 : decode cL_cell 8 = .ok (.iaload, 1) := by decide +kernel
theorem dL_cell_9 : decode cL_cell 9 = .ok (.goto 9, 3) := by decide +kernel
theorem dL_cell_12 : decode cL_cell 12 = .ok (.ldc 7, 2) := by decide +kernel
theorem dL_cell_14 : decode cL_cell 14 = .ok (.iload_n 1, 1) := by decide +kernel
theorem dL_cell_15 : decode cL_cell 15 = .ok (.iconst 1, 1) := by decide +kernel
theorem dL_cell_16 : decode cL_cell 16 = .ok (.iadd, 1) := by decide +kernel
theorem dL_cell_17 : decode cL_cell 17 = .ok (.imul, 1) := by decide +kernel
theorem dL_cell_18 : decode cL_cell 18 = .ok (.ireturn, 1) := by decide +kernel
theorem dL_low_0 : decode cL_low 0 = .ok (.iload_n 0, 1) := by decide +kernel
theorem dL_low_1 : decode cL_low 1 = .ok (.ldc 8, 2) := by decide +kernel
theorem dL_low_3 : decode cL_low 3 = .ok (.iand, 1) := by decide +kernel
theorem dL_low_4 : decode cL_low 4 = .ok (.iload_n 1, 1) := by decide +kernel
theorem dL_low_5 : decode cL_low 5 = .ok (.irem, 1) := by decide +kernel
theorem dL_low_6 : decode cL_low 6 = .ok (.ireturn, 1) := by decide +kernel
theorem dL_isOn_0 : decode cL_isOn 0 = .ok (.aload_n 0, 1) := by decide +kernel
theorem dL_isOn_1 : decode cL_isOn 1 = .ok (.iload_n 1, 1) := by decide +kernel
theorem dL_isOn_2 : decode cL_isOn 2 = .ok (.iaload, 1) := by decide +kernel
theorem dL_isOn_3 : decode cL_isOn 3 = .ok (.ifCond .lt 17, 3) := by decide +kernel
theorem dL_isOn_6 : decode cL_isOn 6 = .ok (.aload_n 0, 1) := by decide +kernel
theorem dL_isOn_7 : decode cL_isOn 7 = .ok (.iload_n 1, 1) := by decide +kernel
theorem dL_isOn_8 : decode cL_isOn 8 = .ok (.iaload, 1) := by decide +kernel
theorem dL_isOn_9 : decode cL_isOn 9 = .ok (.bipush 8, 2) := by decide +kernel
theorem dL_isOn_11 : decode cL_isOn 11 = .ok (.idiv, 1) := by decide +kernel
theorem dL_isOn_12 : decode cL_isOn 12 = .ok (.iload_n 2, 1) := by decide +kernel
theorem dL_isOn_13 : decode cL_isOn 13 = .ok (.if_icmp .ne 7, 3) := by decide +kernel
theorem dL_isOn_16 : decode cL_isOn 16 = .ok (.iconst 1, 1) := by decide +kernel
theorem dL_isOn_17 : decode cL_isOn 17 = .ok (.goto 4, 3) := by decide +kernel
theorem dL_isOn_20 : decode cL_isOn 20 = .ok (.iconst 0, 1) := by decide +kernel
theorem dL_isOn_21 : decode cL_isOn 21 = .ok (.ireturn, 1) := by decide +kernel
theorem dL_many_0 : decode cL_many 0 = .ok (.iconst 0, 1) := by decide +kernel
theorem dL_many_1 : decode cL_many 1 = .ok (.istore_n 2, 1) := by decide +kernel
theorem dL_many_2 : decode cL_many 2 = .ok (.iconst 0, 1) := by decide +kernel
theorem dL_many_3 : decode cL_many 3 = .ok (.istore_n 3, 1) := by decide +kernel
theorem dL_many_4 : decode cL_many 4 = .ok (.iload_n 3, 1) := by decide +kernel
theorem dL_many_5 : decode cL_many 5 = .ok (.bipush 40, 2) := by decide +kernel
theorem dL_many_7 : decode cL_many 7 = .ok (.if_icmp .ge 26, 3) := by decide +kernel
theorem dL_many_10 : decode cL_many 10 = .ok (.iload_n 2, 1) := by decide +kernel
theorem dL_many_11 : decode cL_many 11 = .ok (.aload_n 0, 1) := by decide +kernel
theorem dL_many_12 : decode cL_many 12 = .ok (.iload_n 3, 1) := by decide +kernel
theorem dL_many_13 : decode cL_many 13 = .ok (.iload_n 1, 1) := by decide +kernel
theorem dL_many_14 : decode cL_many 14 = .ok (.invokestatic 9, 3) := by decide +kernel
theorem dL_many_17 : decode cL_many 17 = .ok (.ifCond .eq 7, 3) := by decide +kernel
theorem dL_many_20 : decode cL_many 20 = .ok (.iconst 1, 1) := by decide +kernel
theorem dL_many_21 : decode cL_many 21 = .ok (.goto 4, 3) := by decide +kernel
theorem dL_many_24 : decode cL_many 24 = .ok (.iconst 0, 1) := by decide +kernel
theorem dL_many_25 : decode cL_many 25 = .ok (.iadd, 1) := by decide +kernel
theorem dL_many_26 : decode cL_many 26 = .ok (.istore_n 2, 1) := by decide +kernel
theorem dL_many_27 : decode cL_many 27 = .ok (.iinc 3 1, 3) := by decide +kernel
theorem dL_many_30 : decode cL_many 30 = .ok (.goto (-26), 3) := by decide +kernel
theorem dL_many_33 : decode cL_many 33 = .ok (.iload_n 2, 1) := by decide +kernel
theorem dL_many_34 : decode cL_many 34 = .ok (.ireturn, 1) := by decide +kernel
theorem dL_wordAt_0 : decode cL_wordAt 0 = .ok (.iconst (-1), 1) := by decide +kernel
theorem dL_wordAt_1 : decode cL_wordAt 1 = .ok (.istore_n 3, 1) := by decide +kernel
theorem dL_wordAt_2 : decode cL_wordAt 2 = .ok (.iconst 0, 1) := by decide +kernel
theorem dL_wordAt_3 : decode cL_wordAt 3 = .ok (.istore 4, 2) := by decide +kernel
theorem dL_wordAt_5 : decode cL_wordAt 5 = .ok (.iload 4, 2) := by decide +kernel
theorem dL_wordAt_7 : decode cL_wordAt 7 = .ok (.bipush 40, 2) := by decide +kernel
theorem dL_wordAt_9 : decode cL_wordAt 9 = .ok (.if_icmp .ge 37, 3) := by decide +kernel
theorem dL_wordAt_12 : decode cL_wordAt 12 = .ok (.aload_n 0, 1) := by decide +kernel
theorem dL_wordAt_13 : decode cL_wordAt 13 = .ok (.iload 4, 2) := by decide +kernel
theorem dL_wordAt_15 : decode cL_wordAt 15 = .ok (.iload_n 1, 1) := by decide +kernel
theorem dL_wordAt_16 : decode cL_wordAt 16 = .ok (.invokestatic 9, 3) := by decide +kernel
theorem dL_wordAt_19 : decode cL_wordAt 19 = .ok (.ifCond .eq 19, 3) := by decide +kernel
theorem dL_wordAt_22 : decode cL_wordAt 22 = .ok (.aload_n 0, 1) := by decide +kernel
theorem dL_wordAt_23 : decode cL_wordAt 23 = .ok (.iload 4, 2) := by decide +kernel
theorem dL_wordAt_25 : decode cL_wordAt 25 = .ok (.iaload, 1) := by decide +kernel
theorem dL_wordAt_26 : decode cL_wordAt 26 = .ok (.bipush 8, 2) := by decide +kernel
theorem dL_wordAt_28 : decode cL_wordAt 28 = .ok (.irem, 1) := by decide +kernel
theorem dL_wordAt_29 : decode cL_wordAt 29 = .ok (.iload_n 2, 1) := by decide +kernel
theorem dL_wordAt_30 : decode cL_wordAt 30 = .ok (.if_icmp .ne 8, 3) := by decide +kernel
theorem dL_wordAt_33 : decode cL_wordAt 33 = .ok (.iload 4, 2) := by decide +kernel
theorem dL_wordAt_35 : decode cL_wordAt 35 = .ok (.goto 4, 3) := by decide +kernel
theorem dL_wordAt_38 : decode cL_wordAt 38 = .ok (.iload_n 3, 1) := by decide +kernel
theorem dL_wordAt_39 : decode cL_wordAt 39 = .ok (.istore_n 3, 1) := by decide +kernel
theorem dL_wordAt_40 : decode cL_wordAt 40 = .ok (.iinc 4 1, 3) := by decide +kernel
theorem dL_wordAt_43 : decode cL_wordAt 43 = .ok (.goto (-38), 3) := by decide +kernel
theorem dL_wordAt_46 : decode cL_wordAt 46 = .ok (.iload_n 3, 1) := by decide +kernel
theorem dL_wordAt_47 : decode cL_wordAt 47 = .ok (.ireturn, 1) := by decide +kernel
theorem dL_last_0 : decode cL_last 0 = .ok (.aload_n 0, 1) := by decide +kernel
theorem dL_last_1 : decode cL_last 1 = .ok (.iload_n 1, 1) := by decide +kernel
theorem dL_last_2 : decode cL_last 2 = .ok (.aload_n 0, 1) := by decide +kernel
theorem dL_last_3 : decode cL_last 3 = .ok (.iload_n 1, 1) := by decide +kernel
theorem dL_last_4 : decode cL_last 4 = .ok (.invokestatic 15, 3) := by decide +kernel
theorem dL_last_7 : decode cL_last 7 = .ok (.iconst 1, 1) := by decide +kernel
theorem dL_last_8 : decode cL_last 8 = .ok (.isub, 1) := by decide +kernel
theorem dL_last_9 : decode cL_last 9 = .ok (.invokestatic 19, 3) := by decide +kernel
theorem dL_last_12 : decode cL_last 12 = .ok (.ireturn, 1) := by decide +kernel
theorem dL_beats_0 : decode cL_beats 0 = .ok (.iconst 0, 1) := by decide +kernel
theorem dL_beats_1 : decode cL_beats 1 = .ok (.istore_n 2, 1) := by decide +kernel
theorem dL_beats_2 : decode cL_beats 2 = .ok (.iconst 0, 1) := by decide +kernel
theorem dL_beats_3 : decode cL_beats 3 = .ok (.istore_n 3, 1) := by decide +kernel
theorem dL_beats_4 : decode cL_beats 4 = .ok (.iload_n 3, 1) := by decide +kernel
theorem dL_beats_5 : decode cL_beats 5 = .ok (.bipush 40, 2) := by decide +kernel
theorem dL_beats_7 : decode cL_beats 7 = .ok (.if_icmp .ge 30, 3) := by decide +kernel
theorem dL_beats_10 : decode cL_beats 10 = .ok (.iload_n 2, 1) := by decide +kernel
theorem dL_beats_11 : decode cL_beats 11 = .ok (.aload_n 0, 1) := by decide +kernel
theorem dL_beats_12 : decode cL_beats 12 = .ok (.iload_n 3, 1) := by decide +kernel
theorem dL_beats_13 : decode cL_beats 13 = .ok (.iload_n 1, 1) := by decide +kernel
theorem dL_beats_14 : decode cL_beats 14 = .ok (.invokestatic 9, 3) := by decide +kernel
theorem dL_beats_17 : decode cL_beats 17 = .ok (.ifCond .eq 11, 3) := by decide +kernel
theorem dL_beats_20 : decode cL_beats 20 = .ok (.iload_n 3, 1) := by decide +kernel
theorem dL_beats_21 : decode cL_beats 21 = .ok (.iconst 3, 1) := by decide +kernel
theorem dL_beats_22 : decode cL_beats 22 = .ok (.irem, 1) := by decide +kernel
theorem dL_beats_23 : decode cL_beats 23 = .ok (.iconst 1, 1) := by decide +kernel
theorem dL_beats_24 : decode cL_beats 24 = .ok (.iadd, 1) := by decide +kernel
theorem dL_beats_25 : decode cL_beats 25 = .ok (.goto 4, 3) := by decide +kernel
theorem dL_beats_28 : decode cL_beats 28 = .ok (.iconst 0, 1) := by decide +kernel
theorem dL_beats_29 : decode cL_beats 29 = .ok (.iadd, 1) := by decide +kernel
theorem dL_beats_30 : decode cL_beats 30 = .ok (.istore_n 2, 1) := by decide +kernel
theorem dL_beats_31 : decode cL_beats 31 = .ok (.iinc 3 1, 3) := by decide +kernel
theorem dL_beats_34 : decode cL_beats 34 = .ok (.goto (-30), 3) := by decide +kernel
theorem dL_beats_37 : decode cL_beats 37 = .ok (.iload_n 2, 1) := by decide +kernel
theorem dL_beats_38 : decode cL_beats 38 = .ok (.ireturn, 1) := by decide +kernel
theorem dL_endLoans_0 : decode cL_endLoans 0 = .ok (.aload_n 0, 1) := by decide +kernel
theorem dL_endLoans_1 : decode cL_endLoans 1 = .ok (.iload_n 2, 1) := by decide +kernel
theorem dL_endLoans_2 : decode cL_endLoans 2 = .ok (.invokestatic 23, 3) := by decide +kernel
theorem dL_endLoans_5 : decode cL_endLoans 5 = .ok (.iload_n 3, 1) := by decide +kernel
theorem dL_endLoans_6 : decode cL_endLoans 6 = .ok (.if_icmp .ne 7, 3) := by decide +kernel
theorem dL_endLoans_9 : decode cL_endLoans 9 = .ok (.iconst 1, 1) := by decide +kernel
theorem dL_endLoans_10 : decode cL_endLoans 10 = .ok (.goto 4, 3) := by decide +kernel
theorem dL_endLoans_13 : decode cL_endLoans 13 = .ok (.iconst 0, 1) := by decide +kernel
theorem dL_endLoans_14 : decode cL_endLoans 14 = .ok (.istore 4, 2) := by decide +kernel
theorem dL_endLoans_16 : decode cL_endLoans 16 = .ok (.iconst 0, 1) := by decide +kernel
theorem dL_endLoans_17 : decode cL_endLoans 17 = .ok (.istore 5, 2) := by decide +kernel
theorem dL_endLoans_19 : decode cL_endLoans 19 = .ok (.iload 5, 2) := by decide +kernel
theorem dL_endLoans_21 : decode cL_endLoans 21 = .ok (.bipush 16, 2) := by decide +kernel
theorem dL_endLoans_23 : decode cL_endLoans 23 = .ok (.if_icmp .ge 40, 3) := by decide +kernel
theorem dL_endLoans_26 : decode cL_endLoans 26 = .ok (.aload_n 1, 1) := by decide +kernel
theorem dL_endLoans_27 : decode cL_endLoans 27 = .ok (.iload 5, 2) := by decide +kernel
theorem dL_endLoans_29 : decode cL_endLoans 29 = .ok (.iload 5, 2) := by decide +kernel
theorem dL_endLoans_31 : decode cL_endLoans 31 = .ok (.iload_n 2, 1) := by decide +kernel
theorem dL_endLoans_32 : decode cL_endLoans 32 = .ok (.if_icmp .eq 16, 3) := by decide +kernel
theorem dL_endLoans_35 : decode cL_endLoans 35 = .ok (.aload_n 1, 1) := by decide +kernel
theorem dL_endLoans_36 : decode cL_endLoans 36 = .ok (.iload 5, 2) := by decide +kernel
theorem dL_endLoans_38 : decode cL_endLoans 38 = .ok (.iaload, 1) := by decide +kernel
theorem dL_endLoans_39 : decode cL_endLoans 39 = .ok (.iload_n 2, 1) := by decide +kernel
theorem dL_endLoans_40 : decode cL_endLoans 40 = .ok (.if_icmp .ne 12, 3) := by decide +kernel
theorem dL_endLoans_43 : decode cL_endLoans 43 = .ok (.iload 4, 2) := by decide +kernel
theorem dL_endLoans_45 : decode cL_endLoans 45 = .ok (.ifCond .ne 7, 3) := by decide +kernel
theorem dL_endLoans_48 : decode cL_endLoans 48 = .ok (.iconst (-1), 1) := by decide +kernel
theorem dL_endLoans_49 : decode cL_endLoans 49 = .ok (.goto 7, 3) := by decide +kernel
theorem dL_endLoans_52 : decode cL_endLoans 52 = .ok (.aload_n 1, 1) := by decide +kernel
theorem dL_endLoans_53 : decode cL_endLoans 53 = .ok (.iload 5, 2) := by decide +kernel
theorem dL_endLoans_55 : decode cL_endLoans 55 = .ok (.iaload, 1) := by decide +kernel
theorem dL_endLoans_56 : decode cL_endLoans 56 = .ok (.iastore, 1) := by decide +kernel
theorem dL_endLoans_57 : decode cL_endLoans 57 = .ok (.iinc 5 1, 3) := by decide +kernel
theorem dL_endLoans_60 : decode cL_endLoans 60 = .ok (.goto (-41), 3) := by decide +kernel
theorem dL_endLoans_63 : decode cL_endLoans 63 = .ok (.return_, 1) := by decide +kernel
theorem dL_leaves_0 : decode cL_leaves 0 = .ok (.aload_n 0, 1) := by decide +kernel
theorem dL_leaves_1 : decode cL_leaves 1 = .ok (.iload_n 2, 1) := by decide +kernel
theorem dL_leaves_2 : decode cL_leaves 2 = .ok (.iaload, 1) := by decide +kernel
theorem dL_leaves_3 : decode cL_leaves 3 = .ok (.bipush 8, 2) := by decide +kernel
theorem dL_leaves_5 : decode cL_leaves 5 = .ok (.idiv, 1) := by decide +kernel
theorem dL_leaves_6 : decode cL_leaves 6 = .ok (.istore_n 3, 1) := by decide +kernel
theorem dL_leaves_7 : decode cL_leaves 7 = .ok (.aload_n 0, 1) := by decide +kernel
theorem dL_leaves_8 : decode cL_leaves 8 = .ok (.iload_n 3, 1) := by decide +kernel
theorem dL_leaves_9 : decode cL_leaves 9 = .ok (.invokestatic 23, 3) := by decide +kernel
theorem dL_leaves_12 : decode cL_leaves 12 = .ok (.istore 4, 2) := by decide +kernel
theorem dL_leaves_14 : decode cL_leaves 14 = .ok (.iconst 0, 1) := by decide +kernel
theorem dL_leaves_15 : decode cL_leaves 15 = .ok (.istore 5, 2) := by decide +kernel
theorem dL_leaves_17 : decode cL_leaves 17 = .ok (.iload 5, 2) := by decide +kernel
theorem dL_leaves_19 : decode cL_leaves 19 = .ok (.bipush 40, 2) := by decide +kernel
theorem dL_leaves_21 : decode cL_leaves 21 = .ok (.if_icmp .ge 41, 3) := by decide +kernel
theorem dL_leaves_24 : decode cL_leaves 24 = .ok (.aload_n 0, 1) := by decide +kernel
theorem dL_leaves_25 : decode cL_leaves 25 = .ok (.iload 5, 2) := by decide +kernel
theorem dL_leaves_27 : decode cL_leaves 27 = .ok (.dup2, 1) := by decide +kernel
theorem dL_leaves_28 : decode cL_leaves 28 = .ok (.iaload, 1) := by decide +kernel
theorem dL_leaves_29 : decode cL_leaves 29 = .ok (.aload_n 0, 1) := by decide +kernel
theorem dL_leaves_30 : decode cL_leaves 30 = .ok (.iload 5, 2) := by decide +kernel
theorem dL_leaves_32 : decode cL_leaves 32 = .ok (.iload_n 3, 1) := by decide +kernel
theorem dL_leaves_33 : decode cL_leaves 33 = .ok (.invokestatic 9, 3) := by decide +kernel
theorem dL_leaves_36 : decode cL_leaves 36 = .ok (.ifCond .eq 17, 3) := by decide +kernel
theorem dL_leaves_39 : decode cL_leaves 39 = .ok (.aload_n 0, 1) := by decide +kernel
theorem dL_leaves_40 : decode cL_leaves 40 = .ok (.iload 5, 2) := by decide +kernel
theorem dL_leaves_42 : decode cL_leaves 42 = .ok (.iaload, 1) := by decide +kernel
theorem dL_leaves_43 : decode cL_leaves 43 = .ok (.aload_n 0, 1) := by decide +kernel
theorem dL_leaves_44 : decode cL_leaves 44 = .ok (.iload_n 2, 1) := by decide +kernel
theorem dL_leaves_45 : decode cL_leaves 45 = .ok (.iaload, 1) := by decide +kernel
theorem dL_leaves_46 : decode cL_leaves 46 = .ok (.if_icmp .le 7, 3) := by decide +kernel
theorem dL_leaves_49 : decode cL_leaves 49 = .ok (.iconst 1, 1) := by decide +kernel
theorem dL_leaves_50 : decode cL_leaves 50 = .ok (.goto 4, 3) := by decide +kernel
theorem dL_leaves_53 : decode cL_leaves 53 = .ok (.iconst 0, 1) := by decide +kernel
theorem dL_leaves_54 : decode cL_leaves 54 = .ok (.isub, 1) := by decide +kernel
theorem dL_leaves_55 : decode cL_leaves 55 = .ok (.iastore, 1) := by decide +kernel
theorem dL_leaves_56 : decode cL_leaves 56 = .ok (.iinc 5 1, 3) := by decide +kernel
theorem dL_leaves_59 : decode cL_leaves 59 = .ok (.goto (-42), 3) := by decide +kernel
theorem dL_leaves_62 : decode cL_leaves 62 = .ok (.aload_n 0, 1) := by decide +kernel
theorem dL_leaves_63 : decode cL_leaves 63 = .ok (.iload_n 2, 1) := by decide +kernel
theorem dL_leaves_64 : decode cL_leaves 64 = .ok (.iconst (-1), 1) := by decide +kernel
theorem dL_leaves_65 : decode cL_leaves 65 = .ok (.iastore, 1) := by decide +kernel
theorem dL_leaves_66 : decode cL_leaves 66 = .ok (.aload_n 0, 1) := by decide +kernel
theorem dL_leaves_67 : decode cL_leaves 67 = .ok (.aload_n 1, 1) := by decide +kernel
theorem dL_leaves_68 : decode cL_leaves 68 = .ok (.iload_n 3, 1) := by decide +kernel
theorem dL_leaves_69 : decode cL_leaves 69 = .ok (.iload 4, 2) := by decide +kernel
theorem dL_leaves_71 : decode cL_leaves 71 = .ok (.invokestatic 26, 3) := by decide +kernel
theorem dL_leaves_74 : decode cL_leaves 74 = .ok (.return_, 1) := by decide +kernel
theorem dL_comes_0 : decode cL_comes 0 = .ok (.aload_n 0, 1) := by decide +kernel
theorem dL_comes_1 : decode cL_comes 1 = .ok (.iload_n 3, 1) := by decide +kernel
theorem dL_comes_2 : decode cL_comes 2 = .ok (.invokestatic 23, 3) := by decide +kernel
theorem dL_comes_5 : decode cL_comes 5 = .ok (.istore 5, 2) := by decide +kernel
theorem dL_comes_7 : decode cL_comes 7 = .ok (.iconst 0, 1) := by decide +kernel
theorem dL_comes_8 : decode cL_comes 8 = .ok (.istore 6, 2) := by decide +kernel
theorem dL_comes_10 : decode cL_comes 10 = .ok (.iload 6, 2) := by decide +kernel
theorem dL_comes_12 : decode cL_comes 12 = .ok (.bipush 40, 2) := by decide +kernel
theorem dL_comes_14 : decode cL_comes 14 = .ok (.if_icmp .ge 43, 3) := by decide +kernel
theorem dL_comes_17 : decode cL_comes 17 = .ok (.aload_n 0, 1) := by decide +kernel
theorem dL_comes_18 : decode cL_comes 18 = .ok (.iload 6, 2) := by decide +kernel
theorem dL_comes_20 : decode cL_comes 20 = .ok (.dup2, 1) := by decide +kernel
theorem dL_comes_21 : decode cL_comes 21 = .ok (.iaload, 1) := by decide +kernel
theorem dL_comes_22 : decode cL_comes 22 = .ok (.aload_n 0, 1) := by decide +kernel
theorem dL_comes_23 : decode cL_comes 23 = .ok (.iload 6, 2) := by decide +kernel
theorem dL_comes_25 : decode cL_comes 25 = .ok (.iload_n 3, 1) := by decide +kernel
theorem dL_comes_26 : decode cL_comes 26 = .ok (.invokestatic 9, 3) := by decide +kernel
theorem dL_comes_29 : decode cL_comes 29 = .ok (.ifCond .eq 19, 3) := by decide +kernel
theorem dL_comes_32 : decode cL_comes 32 = .ok (.aload_n 0, 1) := by decide +kernel
theorem dL_comes_33 : decode cL_comes 33 = .ok (.iload 6, 2) := by decide +kernel
theorem dL_comes_35 : decode cL_comes 35 = .ok (.iaload, 1) := by decide +kernel
theorem dL_comes_36 : decode cL_comes 36 = .ok (.bipush 8, 2) := by decide +kernel
theorem dL_comes_38 : decode cL_comes 38 = .ok (.irem, 1) := by decide +kernel
theorem dL_comes_39 : decode cL_comes 39 = .ok (.iload 4, 2) := by decide +kernel
theorem dL_comes_41 : decode cL_comes 41 = .ok (.if_icmp .lt 7, 3) := by decide +kernel
theorem dL_comes_44 : decode cL_comes 44 = .ok (.iconst 1, 1) := by decide +kernel
theorem dL_comes_45 : decode cL_comes 45 = .ok (.goto 4, 3) := by decide +kernel
theorem dL_comes_48 : decode cL_comes 48 = .ok (.iconst 0, 1) := by decide +kernel
theorem dL_comes_49 : decode cL_comes 49 = .ok (.iadd, 1) := by decide +kernel
theorem dL_comes_50 : decode cL_comes 50 = .ok (.iastore, 1) := by decide +kernel
theorem dL_comes_51 : decode cL_comes 51 = .ok (.iinc 6 1, 3) := by decide +kernel
theorem dL_comes_54 : decode cL_comes 54 = .ok (.goto (-44), 3) := by decide +kernel
theorem dL_comes_57 : decode cL_comes 57 = .ok (.aload_n 0, 1) := by decide +kernel
theorem dL_comes_58 : decode cL_comes 58 = .ok (.iload_n 2, 1) := by decide +kernel
theorem dL_comes_59 : decode cL_comes 59 = .ok (.bipush 8, 2) := by decide +kernel
theorem dL_comes_61 : decode cL_comes 61 = .ok (.iload_n 3, 1) := by decide +kernel
theorem dL_comes_62 : decode cL_comes 62 = .ok (.imul, 1) := by decide +kernel
theorem dL_comes_63 : decode cL_comes 63 = .ok (.iload 4, 2) := by decide +kernel
theorem dL_comes_65 : decode cL_comes 65 = .ok (.iadd, 1) := by decide +kernel
theorem dL_comes_66 : decode cL_comes 66 = .ok (.iastore, 1) := by decide +kernel
theorem dL_comes_67 : decode cL_comes 67 = .ok (.aload_n 0, 1) := by decide +kernel
theorem dL_comes_68 : decode cL_comes 68 = .ok (.aload_n 1, 1) := by decide +kernel
theorem dL_comes_69 : decode cL_comes 69 = .ok (.iload_n 3, 1) := by decide +kernel
theorem dL_comes_70 : decode cL_comes 70 = .ok (.iload 5, 2) := by decide +kernel
theorem dL_comes_72 : decode cL_comes 72 = .ok (.invokestatic 26, 3) := by decide +kernel
theorem dL_comes_75 : decode cL_comes 75 = .ok (.return_, 1) := by decide +kernel
theorem dL_reason_0 : decode cL_reason 0 = .ok (.aload_n 0, 1) := by decide +kernel
theorem dL_reason_1 : decode cL_reason 1 = .ok (.iload_n 3, 1) := by decide +kernel
theorem dL_reason_2 : decode cL_reason 2 = .ok (.invokestatic 15, 3) := by decide +kernel
theorem dL_reason_5 : decode cL_reason 5 = .ok (.istore 5, 2) := by decide +kernel
theorem dL_reason_7 : decode cL_reason 7 = .ok (.iload 5, 2) := by decide +kernel
theorem dL_reason_9 : decode cL_reason 9 = .ok (.bipush 6, 2) := by decide +kernel
theorem dL_reason_11 : decode cL_reason 11 = .ok (.if_icmp .ne 5, 3) := by decide +kernel
theorem dL_reason_14 : decode cL_reason 14 = .ok (.iconst 1, 1) := by decide +kernel
theorem dL_reason_15 : decode cL_reason 15 = .ok (.ireturn, 1) := by decide +kernel
theorem dL_reason_16 : decode cL_reason 16 = .ok (.aload_n 0, 1) := by decide +kernel
theorem dL_reason_17 : decode cL_reason 17 = .ok (.iload_n 3, 1) := by decide +kernel
theorem dL_reason_18 : decode cL_reason 18 = .ok (.invokestatic 30, 3) := by decide +kernel
theorem dL_reason_21 : decode cL_reason 21 = .ok (.iload_n 2, 1) := by decide +kernel
theorem dL_reason_22 : decode cL_reason 22 = .ok (.iconst 3, 1) := by decide +kernel
theorem dL_reason_23 : decode cL_reason 23 = .ok (.irem, 1) := by decide +kernel
theorem dL_reason_24 : decode cL_reason 24 = .ok (.iadd, 1) := by decide +kernel
theorem dL_reason_25 : decode cL_reason 25 = .ok (.iconst 1, 1) := by decide +kernel
theorem dL_reason_26 : decode cL_reason 26 = .ok (.iadd, 1) := by decide +kernel
theorem dL_reason_27 : decode cL_reason 27 = .ok (.bipush 12, 2) := by decide +kernel
theorem dL_reason_29 : decode cL_reason 29 = .ok (.if_icmp .le 5, 3) := by decide +kernel
theorem dL_reason_32 : decode cL_reason 32 = .ok (.iconst 2, 1) := by decide +kernel
theorem dL_reason_33 : decode cL_reason 33 = .ok (.ireturn, 1) := by decide +kernel
theorem dL_reason_34 : decode cL_reason 34 = .ok (.iconst (-1), 1) := by decide +kernel
theorem dL_reason_35 : decode cL_reason 35 = .ok (.istore 6, 2) := by decide +kernel
theorem dL_reason_37 : decode cL_reason 37 = .ok (.iconst 0, 1) := by decide +kernel
theorem dL_reason_38 : decode cL_reason 38 = .ok (.istore 7, 2) := by decide +kernel
theorem dL_reason_40 : decode cL_reason 40 = .ok (.iload 7, 2) := by decide +kernel
theorem dL_reason_42 : decode cL_reason 42 = .ok (.iload 5, 2) := by decide +kernel
theorem dL_reason_44 : decode cL_reason 44 = .ok (.if_icmp .gt 78, 3) := by decide +kernel
theorem dL_reason_47 : decode cL_reason 47 = .ok (.iload 7, 2) := by decide +kernel
theorem dL_reason_49 : decode cL_reason 49 = .ok (.iload 4, 2) := by decide +kernel
theorem dL_reason_51 : decode cL_reason 51 = .ok (.if_icmp .ge 13, 3) := by decide +kernel
theorem dL_reason_54 : decode cL_reason 54 = .ok (.aload_n 0, 1) := by decide +kernel
theorem dL_reason_55 : decode cL_reason 55 = .ok (.iload_n 3, 1) := by decide +kernel
theorem dL_reason_56 : decode cL_reason 56 = .ok (.iload 7, 2) := by decide +kernel
theorem dL_reason_58 : decode cL_reason 58 = .ok (.invokestatic 19, 3) := by decide +kernel
theorem dL_reason_61 : decode cL_reason 61 = .ok (.goto 23, 3) := by decide +kernel
theorem dL_reason_64 : decode cL_reason 64 = .ok (.iload 7, 2) := by decide +kernel
theorem dL_reason_66 : decode cL_reason 66 = .ok (.iload 4, 2) := by decide +kernel
theorem dL_reason_68 : decode cL_reason 68 = .ok (.if_icmp .ne 7, 3) := by decide +kernel
theorem dL_reason_71 : decode cL_reason 71 = .ok (.iload_n 2, 1) := by decide +kernel
theorem dL_reason_72 : decode cL_reason 72 = .ok (.goto 12, 3) := by decide +kernel
theorem dL_reason_75 : decode cL_reason 75 = .ok (.aload_n 0, 1) := by decide +kernel
theorem dL_reason_76 : decode cL_reason 76 = .ok (.iload_n 3, 1) := by decide +kernel
theorem dL_reason_77 : decode cL_reason 77 = .ok (.iload 7, 2) := by decide +kernel
theorem dL_reason_79 : decode cL_reason 79 = .ok (.iconst 1, 1) := by decide +kernel
theorem dL_reason_80 : decode cL_reason 80 = .ok (.isub, 1) := by decide +kernel
theorem dL_reason_81 : decode cL_reason 81 = .ok (.invokestatic 19, 3) := by decide +kernel
theorem dL_reason_84 : decode cL_reason 84 = .ok (.istore 8, 2) := by decide +kernel
theorem dL_reason_86 : decode cL_reason 86 = .ok (.iload 7, 2) := by decide +kernel
theorem dL_reason_88 : decode cL_reason 88 = .ok (.ifCond .le 24, 3) := by decide +kernel
theorem dL_reason_91 : decode cL_reason 91 = .ok (.iload 8, 2) := by decide +kernel
theorem dL_reason_93 : decode cL_reason 93 = .ok (.iconst 4, 1) := by decide +kernel
theorem dL_reason_94 : decode cL_reason 94 = .ok (.irem, 1) := by decide +kernel
theorem dL_reason_95 : decode cL_reason 95 = .ok (.iconst 2, 1) := by decide +kernel
theorem dL_reason_96 : decode cL_reason 96 = .ok (.if_icmp .eq 16, 3) := by decide +kernel
theorem dL_reason_99 : decode cL_reason 99 = .ok (.iload 8, 2) := by decide +kernel
theorem dL_reason_101 : decode cL_reason 101 = .ok (.iconst 4, 1) := by decide +kernel
theorem dL_reason_102 : decode cL_reason 102 = .ok (.irem, 1) := by decide +kernel
theorem dL_reason_103 : decode cL_reason 103 = .ok (.iload 6, 2) := by decide +kernel
theorem dL_reason_105 : decode cL_reason 105 = .ok (.iconst 4, 1) := by decide +kernel
theorem dL_reason_106 : decode cL_reason 106 = .ok (.irem, 1) := by decide +kernel
theorem dL_reason_107 : decode cL_reason 107 = .ok (.if_icmp .ne 5, 3) := by decide +kernel
theorem dL_reason_110 : decode cL_reason 110 = .ok (.iconst 3, 1) := by decide +kernel
theorem dL_reason_111 : decode cL_reason 111 = .ok (.ireturn, 1) := by decide +kernel
theorem dL_reason_112 : decode cL_reason 112 = .ok (.iload 8, 2) := by decide +kernel
theorem dL_reason_114 : decode cL_reason 114 = .ok (.istore 6, 2) := by decide +kernel
theorem dL_reason_116 : decode cL_reason 116 = .ok (.iinc 7 1, 3) := by decide +kernel
theorem dL_reason_119 : decode cL_reason 119 = .ok (.goto (-79), 3) := by decide +kernel
theorem dL_reason_122 : decode cL_reason 122 = .ok (.aload_n 1, 1) := by decide +kernel
theorem dL_reason_123 : decode cL_reason 123 = .ok (.iconst 0, 1) := by decide +kernel
theorem dL_reason_124 : decode cL_reason 124 = .ok (.iaload, 1) := by decide +kernel
theorem dL_reason_125 : decode cL_reason 125 = .ok (.iconst 1, 1) := by decide +kernel
theorem dL_reason_126 : decode cL_reason 126 = .ok (.if_icmp .ne 26, 3) := by decide +kernel
theorem dL_reason_129 : decode cL_reason 129 = .ok (.iload_n 2, 1) := by decide +kernel
theorem dL_reason_130 : decode cL_reason 130 = .ok (.iconst 4, 1) := by decide +kernel
theorem dL_reason_131 : decode cL_reason 131 = .ok (.irem, 1) := by decide +kernel
theorem dL_reason_132 : decode cL_reason 132 = .ok (.iconst 3, 1) := by decide +kernel
theorem dL_reason_133 : decode cL_reason 133 = .ok (.if_icmp .ne 19, 3) := by decide +kernel
theorem dL_reason_136 : decode cL_reason 136 = .ok (.iload 4, 2) := by decide +kernel
theorem dL_reason_138 : decode cL_reason 138 = .ok (.ifCond .eq 10, 3) := by decide +kernel
theorem dL_reason_141 : decode cL_reason 141 = .ok (.iload 4, 2) := by decide +kernel
theorem dL_reason_143 : decode cL_reason 143 = .ok (.iload 5, 2) := by decide +kernel
theorem dL_reason_145 : decode cL_reason 145 = .ok (.if_icmp .ne 7, 3) := by decide +kernel
theorem dL_reason_148 : decode cL_reason 148 = .ok (.iconst 4, 1) := by decide +kernel
theorem dL_reason_149 : decode cL_reason 149 = .ok (.goto 4, 3) := by decide +kernel
theorem dL_reason_152 : decode cL_reason 152 = .ok (.iconst 0, 1) := by decide +kernel
theorem dL_reason_153 : decode cL_reason 153 = .ok (.ireturn, 1) := by decide +kernel
theorem dL_worth_0 : decode cL_worth 0 = .ok (.iconst 0, 1) := by decide +kernel
theorem dL_worth_1 : decode cL_worth 1 = .ok (.istore_n 2, 1) := by decide +kernel
theorem dL_worth_2 : decode cL_worth 2 = .ok (.iconst 0, 1) := by decide +kernel
theorem dL_worth_3 : decode cL_worth 3 = .ok (.istore_n 3, 1) := by decide +kernel
theorem dL_worth_4 : decode cL_worth 4 = .ok (.iload_n 3, 1) := by decide +kernel
theorem dL_worth_5 : decode cL_worth 5 = .ok (.bipush 40, 2) := by decide +kernel
theorem dL_worth_7 : decode cL_worth 7 = .ok (.if_icmp .ge 30, 3) := by decide +kernel
theorem dL_worth_10 : decode cL_worth 10 = .ok (.iload_n 2, 1) := by decide +kernel
theorem dL_worth_11 : decode cL_worth 11 = .ok (.aload_n 0, 1) := by decide +kernel
theorem dL_worth_12 : decode cL_worth 12 = .ok (.iload_n 3, 1) := by decide +kernel
theorem dL_worth_13 : decode cL_worth 13 = .ok (.iload_n 1, 1) := by decide +kernel
theorem dL_worth_14 : decode cL_worth 14 = .ok (.invokestatic 9, 3) := by decide +kernel
theorem dL_worth_17 : decode cL_worth 17 = .ok (.ifCond .eq 11, 3) := by decide +kernel
theorem dL_worth_20 : decode cL_worth 20 = .ok (.iconst 1, 1) := by decide +kernel
theorem dL_worth_21 : decode cL_worth 21 = .ok (.iload_n 3, 1) := by decide +kernel
theorem dL_worth_22 : decode cL_worth 22 = .ok (.iconst 4, 1) := by decide +kernel
theorem dL_worth_23 : decode cL_worth 23 = .ok (.irem, 1) := by decide +kernel
theorem dL_worth_24 : decode cL_worth 24 = .ok (.ishl, 1) := by decide +kernel
theorem dL_worth_25 : decode cL_worth 25 = .ok (.goto 4, 3) := by decide +kernel
theorem dL_worth_28 : decode cL_worth 28 = .ok (.iconst 0, 1) := by decide +kernel
theorem dL_worth_29 : decode cL_worth 29 = .ok (.ior, 1) := by decide +kernel
theorem dL_worth_30 : decode cL_worth 30 = .ok (.istore_n 2, 1) := by decide +kernel
theorem dL_worth_31 : decode cL_worth 31 = .ok (.iinc 3 1, 3) := by decide +kernel
theorem dL_worth_34 : decode cL_worth 34 = .ok (.goto (-30), 3) := by decide +kernel
theorem dL_worth_37 : decode cL_worth 37 = .ok (.aload_n 0, 1) := by decide +kernel
theorem dL_worth_38 : decode cL_worth 38 = .ok (.iload_n 1, 1) := by decide +kernel
theorem dL_worth_39 : decode cL_worth 39 = .ok (.invokestatic 30, 3) := by decide +kernel
theorem dL_worth_42 : decode cL_worth 42 = .ok (.istore_n 3, 1) := by decide +kernel
theorem dL_worth_43 : decode cL_worth 43 = .ok (.iload_n 3, 1) := by decide +kernel
theorem dL_worth_44 : decode cL_worth 44 = .ok (.iload_n 2, 1) := by decide +kernel
theorem dL_worth_45 : decode cL_worth 45 = .ok (.iconst 3, 1) := by decide +kernel
theorem dL_worth_46 : decode cL_worth 46 = .ok (.iand, 1) := by decide +kernel
theorem dL_worth_47 : decode cL_worth 47 = .ok (.iconst 3, 1) := by decide +kernel
theorem dL_worth_48 : decode cL_worth 48 = .ok (.if_icmp .ne 7, 3) := by decide +kernel
theorem dL_worth_51 : decode cL_worth 51 = .ok (.iconst 5, 1) := by decide +kernel
theorem dL_worth_52 : decode cL_worth 52 = .ok (.goto 4, 3) := by decide +kernel
theorem dL_worth_55 : decode cL_worth 55 = .ok (.iconst 0, 1) := by decide +kernel
theorem dL_worth_56 : decode cL_worth 56 = .ok (.iadd, 1) := by decide +kernel
theorem dL_worth_57 : decode cL_worth 57 = .ok (.iload_n 3, 1) := by decide +kernel
theorem dL_worth_58 : decode cL_worth 58 = .ok (.bipush 8, 2) := by decide +kernel
theorem dL_worth_60 : decode cL_worth 60 = .ok (.if_icmp .ne 7, 3) := by decide +kernel
theorem dL_worth_63 : decode cL_worth 63 = .ok (.iconst 3, 1) := by decide +kernel
theorem dL_worth_64 : decode cL_worth 64 = .ok (.goto 4, 3) := by decide +kernel
theorem dL_worth_67 : decode cL_worth 67 = .ok (.iconst 0, 1) := by decide +kernel
theorem dL_worth_68 : decode cL_worth 68 = .ok (.iadd, 1) := by decide +kernel
theorem dL_worth_69 : decode cL_worth 69 = .ok (.ireturn, 1) := by decide +kernel
theorem dL_ending_0 : decode cL_ending 0 = .ok (.aload_n 0, 1) := by decide +kernel
theorem dL_ending_1 : decode cL_ending 1 = .ok (.iload_n 2, 1) := by decide +kernel
theorem dL_ending_2 : decode cL_ending 2 = .ok (.invokestatic 15, 3) := by decide +kernel
theorem dL_ending_5 : decode cL_ending 5 = .ok (.ifCond .ne 7, 3) := by decide +kernel
theorem dL_ending_8 : decode cL_ending 8 = .ok (.iconst (-1), 1) := by decide +kernel
theorem dL_ending_9 : decode cL_ending 9 = .ok (.goto 24, 3) := by decide +kernel
theorem dL_ending_12 : decode cL_ending 12 = .ok (.aload_n 0, 1) := by decide +kernel
theorem dL_ending_13 : decode cL_ending 13 = .ok (.aload_n 1, 1) := by decide +kernel
theorem dL_ending_14 : decode cL_ending 14 = .ok (.iload_n 2, 1) := by decide +kernel
theorem dL_ending_15 : decode cL_ending 15 = .ok (.iaload, 1) := by decide +kernel
theorem dL_ending_16 : decode cL_ending 16 = .ok (.ifCond .ge 7, 3) := by decide +kernel
theorem dL_ending_19 : decode cL_ending 19 = .ok (.iload_n 2, 1) := by decide +kernel
theorem dL_ending_20 : decode cL_ending 20 = .ok (.goto 6, 3) := by decide +kernel
theorem dL_ending_23 : decode cL_ending 23 = .ok (.aload_n 1, 1) := by decide +kernel
theorem dL_ending_24 : decode cL_ending 24 = .ok (.iload_n 2, 1) := by decide +kernel
theorem dL_ending_25 : decode cL_ending 25 = .ok (.iaload, 1) := by decide +kernel
theorem dL_ending_26 : decode cL_ending 26 = .ok (.invokestatic 23, 3) := by decide +kernel
theorem dL_ending_29 : decode cL_ending 29 = .ok (.iconst 4, 1) := by decide +kernel
theorem dL_ending_30 : decode cL_ending 30 = .ok (.idiv, 1) := by decide +kernel
theorem dL_ending_31 : decode cL_ending 31 = .ok (.iconst 5, 1) := by decide +kernel
theorem dL_ending_32 : decode cL_ending 32 = .ok (.irem, 1) := by decide +kernel
theorem dL_ending_33 : decode cL_ending 33 = .ok (.ireturn, 1) := by decide +kernel
theorem dL_rhymes_0 : decode cL_rhymes 0 = .ok (.iconst 0, 1) := by decide +kernel
theorem dL_rhymes_1 : decode cL_rhymes 1 = .ok (.istore_n 3, 1) := by decide +kernel
theorem dL_rhymes_2 : decode cL_rhymes 2 = .ok (.aload_n 0, 1) := by decide +kernel
theorem dL_rhymes_3 : decode cL_rhymes 3 = .ok (.aload_n 1, 1) := by decide +kernel
theorem dL_rhymes_4 : decode cL_rhymes 4 = .ok (.iload_n 2, 1) := by decide +kernel
theorem dL_rhymes_5 : decode cL_rhymes 5 = .ok (.invokestatic 33, 3) := by decide +kernel
theorem dL_rhymes_8 : decode cL_rhymes 8 = .ok (.istore 4, 2) := by decide +kernel
theorem dL_rhymes_10 : decode cL_rhymes 10 = .ok (.iconst 0, 1) := by decide +kernel
theorem dL_rhymes_11 : decode cL_rhymes 11 = .ok (.istore 5, 2) := by decide +kernel
theorem dL_rhymes_13 : decode cL_rhymes 13 = .ok (.iload 5, 2) := by decide +kernel
theorem dL_rhymes_15 : decode cL_rhymes 15 = .ok (.iconst 4, 1) := by decide +kernel
theorem dL_rhymes_16 : decode cL_rhymes 16 = .ok (.if_icmp .ge 50, 3) := by decide +kernel
theorem dL_rhymes_19 : decode cL_rhymes 19 = .ok (.iload_n 2, 1) := by decide +kernel
theorem dL_rhymes_20 : decode cL_rhymes 20 = .ok (.iconst 4, 1) := by decide +kernel
theorem dL_rhymes_21 : decode cL_rhymes 21 = .ok (.idiv, 1) := by decide +kernel
theorem dL_rhymes_22 : decode cL_rhymes 22 = .ok (.iconst 4, 1) := by decide +kernel
theorem dL_rhymes_23 : decode cL_rhymes 23 = .ok (.imul, 1) := by decide +kernel
theorem dL_rhymes_24 : decode cL_rhymes 24 = .ok (.iload 5, 2) := by decide +kernel
theorem dL_rhymes_26 : decode cL_rhymes 26 = .ok (.iadd, 1) := by decide +kernel
theorem dL_rhymes_27 : decode cL_rhymes 27 = .ok (.istore 6, 2) := by decide +kernel
theorem dL_rhymes_29 : decode cL_rhymes 29 = .ok (.iload_n 3, 1) := by decide +kernel
theorem dL_rhymes_30 : decode cL_rhymes 30 = .ok (.iload 6, 2) := by decide +kernel
theorem dL_rhymes_32 : decode cL_rhymes 32 = .ok (.iload_n 2, 1) := by decide +kernel
theorem dL_rhymes_33 : decode cL_rhymes 33 = .ok (.if_icmp .eq 24, 3) := by decide +kernel
theorem dL_rhymes_36 : decode cL_rhymes 36 = .ok (.iload 4, 2) := by decide +kernel
theorem dL_rhymes_38 : decode cL_rhymes 38 = .ok (.ifCond .lt 19, 3) := by decide +kernel
theorem dL_rhymes_41 : decode cL_rhymes 41 = .ok (.aload_n 0, 1) := by decide +kernel
theorem dL_rhymes_42 : decode cL_rhymes 42 = .ok (.aload_n 1, 1) := by decide +kernel
theorem dL_rhymes_43 : decode cL_rhymes 43 = .ok (.iload 6, 2) := by decide +kernel
theorem dL_rhymes_45 : decode cL_rhymes 45 = .ok (.invokestatic 33, 3) := by decide +kernel
theorem dL_rhymes_48 : decode cL_rhymes 48 = .ok (.iload 4, 2) := by decide +kernel
theorem dL_rhymes_50 : decode cL_rhymes 50 = .ok (.if_icmp .ne 7, 3) := by decide +kernel
theorem dL_rhymes_53 : decode cL_rhymes 53 = .ok (.iconst 1, 1) := by decide +kernel
theorem dL_rhymes_54 : decode cL_rhymes 54 = .ok (.goto 4, 3) := by decide +kernel
theorem dL_rhymes_57 : decode cL_rhymes 57 = .ok (.iconst 0, 1) := by decide +kernel
theorem dL_rhymes_58 : decode cL_rhymes 58 = .ok (.iadd, 1) := by decide +kernel
theorem dL_rhymes_59 : decode cL_rhymes 59 = .ok (.istore_n 3, 1) := by decide +kernel
theorem dL_rhymes_60 : decode cL_rhymes 60 = .ok (.iinc 5 1, 3) := by decide +kernel
theorem dL_rhymes_63 : decode cL_rhymes 63 = .ok (.goto (-50), 3) := by decide +kernel
theorem dL_rhymes_66 : decode cL_rhymes 66 = .ok (.iload_n 3, 1) := by decide +kernel
theorem dL_rhymes_67 : decode cL_rhymes 67 = .ok (.ireturn, 1) := by decide +kernel
theorem dL_doorWorth_0 : decode cL_doorWorth 0 = .ok (.iconst 0, 1) := by decide +kernel
theorem dL_doorWorth_1 : decode cL_doorWorth 1 = .ok (.istore_n 3, 1) := by decide +kernel
theorem dL_doorWorth_2 : decode cL_doorWorth 2 = .ok (.iconst 4, 1) := by decide +kernel
theorem dL_doorWorth_3 : decode cL_doorWorth 3 = .ok (.iload_n 2, 1) := by decide +kernel
theorem dL_doorWorth_4 : decode cL_doorWorth 4 = .ok (.imul, 1) := by decide +kernel
theorem dL_doorWorth_5 : decode cL_doorWorth 5 = .ok (.istore 4, 2) := by decide +kernel
theorem dL_doorWorth_7 : decode cL_doorWorth 7 = .ok (.iload 4, 2) := by decide +kernel
theorem dL_doorWorth_9 : decode cL_doorWorth 9 = .ok (.iconst 4, 1) := by decide +kernel
theorem dL_doorWorth_10 : decode cL_doorWorth 10 = .ok (.iload_n 2, 1) := by decide +kernel
theorem dL_doorWorth_11 : decode cL_doorWorth 11 = .ok (.imul, 1) := by decide +kernel
theorem dL_doorWorth_12 : decode cL_doorWorth 12 = .ok (.iconst 4, 1) := by decide +kernel
theorem dL_doorWorth_13 : decode cL_doorWorth 13 = .ok (.iadd, 1) := by decide +kernel
theorem dL_doorWorth_14 : decode cL_doorWorth 14 = .ok (.if_icmp .ge 28, 3) := by decide +kernel
theorem dL_doorWorth_17 : decode cL_doorWorth 17 = .ok (.iload_n 3, 1) := by decide +kernel
theorem dL_doorWorth_18 : decode cL_doorWorth 18 = .ok (.aload_n 0, 1) := by decide +kernel
theorem dL_doorWorth_19 : decode cL_doorWorth 19 = .ok (.iload 4, 2) := by decide +kernel
theorem dL_doorWorth_21 : decode cL_doorWorth 21 = .ok (.invokestatic 37, 3) := by decide +kernel
theorem dL_doorWorth_24 : decode cL_doorWorth 24 = .ok (.iconst 2, 1) := by decide +kernel
theorem dL_doorWorth_25 : decode cL_doorWorth 25 = .ok (.aload_n 0, 1) := by decide +kernel
theorem dL_doorWorth_26 : decode cL_doorWorth 26 = .ok (.aload_n 1, 1) := by decide +kernel
theorem dL_doorWorth_27 : decode cL_doorWorth 27 = .ok (.iload 4, 2) := by decide +kernel
theorem dL_doorWorth_29 : decode cL_doorWorth 29 = .ok (.invokestatic 40, 3) := by decide +kernel
theorem dL_doorWorth_32 : decode cL_doorWorth 32 = .ok (.imul, 1) := by decide +kernel
theorem dL_doorWorth_33 : decode cL_doorWorth 33 = .ok (.iadd, 1) := by decide +kernel
theorem dL_doorWorth_34 : decode cL_doorWorth 34 = .ok (.iadd, 1) := by decide +kernel
theorem dL_doorWorth_35 : decode cL_doorWorth 35 = .ok (.istore_n 3, 1) := by decide +kernel
theorem dL_doorWorth_36 : decode cL_doorWorth 36 = .ok (.iinc 4 1, 3) := by decide +kernel
theorem dL_doorWorth_39 : decode cL_doorWorth 39 = .ok (.goto (-32), 3) := by decide +kernel
theorem dL_doorWorth_42 : decode cL_doorWorth 42 = .ok (.iload_n 3, 1) := by decide +kernel
theorem dL_doorWorth_43 : decode cL_doorWorth 43 = .ok (.ireturn, 1) := by decide +kernel
theorem dL_doorWords_0 : decode cL_doorWords 0 = .ok (.iconst 0, 1) := by decide +kernel
theorem dL_doorWords_1 : decode cL_doorWords 1 = .ok (.istore_n 2, 1) := by decide +kernel
theorem dL_doorWords_2 : decode cL_doorWords 2 = .ok (.iconst 0, 1) := by decide +kernel
theorem dL_doorWords_3 : decode cL_doorWords 3 = .ok (.istore_n 3, 1) := by decide +kernel
theorem dL_doorWords_4 : decode cL_doorWords 4 = .ok (.iload_n 3, 1) := by decide +kernel
theorem dL_doorWords_5 : decode cL_doorWords 5 = .ok (.bipush 40, 2) := by decide +kernel
theorem dL_doorWords_7 : decode cL_doorWords 7 = .ok (.if_icmp .ge 33, 3) := by decide +kernel
theorem dL_doorWords_10 : decode cL_doorWords 10 = .ok (.iload_n 2, 1) := by decide +kernel
theorem dL_doorWords_11 : decode cL_doorWords 11 = .ok (.aload_n 0, 1) := by decide +kernel
theorem dL_doorWords_12 : decode cL_doorWords 12 = .ok (.iload_n 3, 1) := by decide +kernel
theorem dL_doorWords_13 : decode cL_doorWords 13 = .ok (.iaload, 1) := by decide +kernel
theorem dL_doorWords_14 : decode cL_doorWords 14 = .ok (.ifCond .lt 17, 3) := by decide +kernel
theorem dL_doorWords_17 : decode cL_doorWords 17 = .ok (.aload_n 0, 1) := by decide +kernel
theorem dL_doorWords_18 : decode cL_doorWords 18 = .ok (.iload_n 3, 1) := by decide +kernel
theorem dL_doorWords_19 : decode cL_doorWords 19 = .ok (.iaload, 1) := by decide +kernel
theorem dL_doorWords_20 : decode cL_doorWords 20 = .ok (.bipush 32, 2) := by decide +kernel
theorem dL_doorWords_22 : decode cL_doorWords 22 = .ok (.idiv, 1) := by decide +kernel
theorem dL_doorWords_23 : decode cL_doorWords 23 = .ok (.iload_n 1, 1) := by decide +kernel
theorem dL_doorWords_24 : decode cL_doorWords 24 = .ok (.if_icmp .ne 7, 3) := by decide +kernel
theorem dL_doorWords_27 : decode cL_doorWords 27 = .ok (.iconst 1, 1) := by decide +kernel
theorem dL_doorWords_28 : decode cL_doorWords 28 = .ok (.goto 4, 3) := by decide +kernel
theorem dL_doorWords_31 : decode cL_doorWords 31 = .ok (.iconst 0, 1) := by decide +kernel
theorem dL_doorWords_32 : decode cL_doorWords 32 = .ok (.iadd, 1) := by decide +kernel
theorem dL_doorWords_33 : decode cL_doorWords 33 = .ok (.istore_n 2, 1) := by decide +kernel
theorem dL_doorWords_34 : decode cL_doorWords 34 = .ok (.iinc 3 1, 3) := by decide +kernel
theorem dL_doorWords_37 : decode cL_doorWords 37 = .ok (.goto (-33), 3) := by decide +kernel
theorem dL_doorWords_40 : decode cL_doorWords 40 = .ok (.iload_n 2, 1) := by decide +kernel
theorem dL_doorWords_41 : decode cL_doorWords 41 = .ok (.ireturn, 1) := by decide +kernel
theorem dL_prey_0 : decode cL_prey 0 = .ok (.iconst (-1), 1) := by decide +kernel
theorem dL_prey_1 : decode cL_prey 1 = .ok (.istore_n 3, 1) := by decide +kernel
theorem dL_prey_2 : decode cL_prey 2 = .ok (.iconst 3, 1) := by decide +kernel
theorem dL_prey_3 : decode cL_prey 3 = .ok (.istore 4, 2) := by decide +kernel
theorem dL_prey_5 : decode cL_prey 5 = .ok (.iload 4, 2) := by decide +kernel
theorem dL_prey_7 : decode cL_prey 7 = .ok (.ifCond .lt 80, 3) := by decide +kernel
theorem dL_prey_10 : decode cL_prey 10 = .ok (.aload_n 0, 1) := by decide +kernel
theorem dL_prey_11 : decode cL_prey 11 = .ok (.iload 4, 2) := by decide +kernel
theorem dL_prey_13 : decode cL_prey 13 = .ok (.invokestatic 43, 3) := by decide +kernel
theorem dL_prey_16 : decode cL_prey 16 = .ok (.ifCond .le 30, 3) := by decide +kernel
theorem dL_prey_19 : decode cL_prey 19 = .ok (.aload_n 2, 1) := by decide +kernel
theorem dL_prey_20 : decode cL_prey 20 = .ok (.bipush 6, 2) := by decide +kernel
theorem dL_prey_22 : decode cL_prey 22 = .ok (.iload 4, 2) := by decide +kernel
theorem dL_prey_24 : decode cL_prey 24 = .ok (.iadd, 1) := by decide +kernel
theorem dL_prey_25 : decode cL_prey 25 = .ok (.iaload, 1) := by decide +kernel
theorem dL_prey_26 : decode cL_prey 26 = .ok (.ifCond .ne 20, 3) := by decide +kernel
theorem dL_prey_29 : decode cL_prey 29 = .ok (.aload_n 0, 1) := by decide +kernel
theorem dL_prey_30 : decode cL_prey 30 = .ok (.aload_n 1, 1) := by decide +kernel
theorem dL_prey_31 : decode cL_prey 31 = .ok (.iload 4, 2) := by decide +kernel
theorem dL_prey_33 : decode cL_prey 33 = .ok (.invokestatic 46, 3) := by decide +kernel
theorem dL_prey_36 : decode cL_prey 36 = .ok (.aload_n 2, 1) := by decide +kernel
theorem dL_prey_37 : decode cL_prey 37 = .ok (.iconst 1, 1) := by decide +kernel
theorem dL_prey_38 : decode cL_prey 38 = .ok (.iaload, 1) := by decide +kernel
theorem dL_prey_39 : decode cL_prey 39 = .ok (.if_icmp .lt 7, 3) := by decide +kernel
theorem dL_prey_42 : decode cL_prey 42 = .ok (.iconst 1, 1) := by decide +kernel
theorem dL_prey_43 : decode cL_prey 43 = .ok (.goto 4, 3) := by decide +kernel
theorem dL_prey_46 : decode cL_prey 46 = .ok (.iconst 0, 1) := by decide +kernel
theorem dL_prey_47 : decode cL_prey 47 = .ok (.istore 5, 2) := by decide +kernel
theorem dL_prey_49 : decode cL_prey 49 = .ok (.iload 5, 2) := by decide +kernel
theorem dL_prey_51 : decode cL_prey 51 = .ok (.ifCond .eq 28, 3) := by decide +kernel
theorem dL_prey_54 : decode cL_prey 54 = .ok (.iload_n 3, 1) := by decide +kernel
theorem dL_prey_55 : decode cL_prey 55 = .ok (.ifCond .lt 19, 3) := by decide +kernel
theorem dL_prey_58 : decode cL_prey 58 = .ok (.aload_n 0, 1) := by decide +kernel
theorem dL_prey_59 : decode cL_prey 59 = .ok (.aload_n 1, 1) := by decide +kernel
theorem dL_prey_60 : decode cL_prey 60 = .ok (.iload 4, 2) := by decide +kernel
theorem dL_prey_62 : decode cL_prey 62 = .ok (.invokestatic 46, 3) := by decide +kernel
theorem dL_prey_65 : decode cL_prey 65 = .ok (.aload_n 0, 1) := by decide +kernel
theorem dL_prey_66 : decode cL_prey 66 = .ok (.aload_n 1, 1) := by decide +kernel
theorem dL_prey_67 : decode cL_prey 67 = .ok (.iload_n 3, 1) := by decide +kernel
theorem dL_prey_68 : decode cL_prey 68 = .ok (.invokestatic 46, 3) := by decide +kernel
theorem dL_prey_71 : decode cL_prey 71 = .ok (.if_icmp .lt 8, 3) := by decide +kernel
theorem dL_prey_74 : decode cL_prey 74 = .ok (.iload 4, 2) := by decide +kernel
theorem dL_prey_76 : decode cL_prey 76 = .ok (.goto 4, 3) := by decide +kernel
theorem dL_prey_79 : decode cL_prey 79 = .ok (.iload_n 3, 1) := by decide +kernel
theorem dL_prey_80 : decode cL_prey 80 = .ok (.istore_n 3, 1) := by decide +kernel
theorem dL_prey_81 : decode cL_prey 81 = .ok (.iinc 4 (-1), 3) := by decide +kernel
theorem dL_prey_84 : decode cL_prey 84 = .ok (.goto (-79), 3) := by decide +kernel
theorem dL_prey_87 : decode cL_prey 87 = .ok (.iconst (-1), 1) := by decide +kernel
theorem dL_prey_88 : decode cL_prey 88 = .ok (.istore 4, 2) := by decide +kernel
theorem dL_prey_90 : decode cL_prey 90 = .ok (.iconst (-1), 1) := by decide +kernel
theorem dL_prey_91 : decode cL_prey 91 = .ok (.istore 5, 2) := by decide +kernel
theorem dL_prey_93 : decode cL_prey 93 = .ok (.iconst 0, 1) := by decide +kernel
theorem dL_prey_94 : decode cL_prey 94 = .ok (.istore 6, 2) := by decide +kernel
theorem dL_prey_96 : decode cL_prey 96 = .ok (.iload 6, 2) := by decide +kernel
theorem dL_prey_98 : decode cL_prey 98 = .ok (.bipush 40, 2) := by decide +kernel
theorem dL_prey_100 : decode cL_prey 100 = .ok (.if_icmp .ge 101, 3) := by decide +kernel
theorem dL_prey_103 : decode cL_prey 103 = .ok (.bipush 100, 2) := by decide +kernel
theorem dL_prey_105 : decode cL_prey 105 = .ok (.iload 6, 2) := by decide +kernel
theorem dL_prey_107 : decode cL_prey 107 = .ok (.iconst 3, 1) := by decide +kernel
theorem dL_prey_108 : decode cL_prey 108 = .ok (.irem, 1) := by decide +kernel
theorem dL_prey_109 : decode cL_prey 109 = .ok (.imul, 1) := by decide +kernel
theorem dL_prey_110 : decode cL_prey 110 = .ok (.bipush 10, 2) := by decide +kernel
theorem dL_prey_112 : decode cL_prey 112 = .ok (.aload_n 0, 1) := by decide +kernel
theorem dL_prey_113 : decode cL_prey 113 = .ok (.iload 6, 2) := by decide +kernel
theorem dL_prey_115 : decode cL_prey 115 = .ok (.iaload, 1) := by decide +kernel
theorem dL_prey_116 : decode cL_prey 116 = .ok (.bipush 8, 2) := by decide +kernel
theorem dL_prey_118 : decode cL_prey 118 = .ok (.idiv, 1) := by decide +kernel
theorem dL_prey_119 : decode cL_prey 119 = .ok (.iconst 4, 1) := by decide +kernel
theorem dL_prey_120 : decode cL_prey 120 = .ok (.irem, 1) := by decide +kernel
theorem dL_prey_121 : decode cL_prey 121 = .ok (.imul, 1) := by decide +kernel
theorem dL_prey_122 : decode cL_prey 122 = .ok (.iadd, 1) := by decide +kernel
theorem dL_prey_123 : decode cL_prey 123 = .ok (.iconst 5, 1) := by decide +kernel
theorem dL_prey_124 : decode cL_prey 124 = .ok (.iadd, 1) := by decide +kernel
theorem dL_prey_125 : decode cL_prey 125 = .ok (.aload_n 0, 1) := by decide +kernel
theorem dL_prey_126 : decode cL_prey 126 = .ok (.iload 6, 2) := by decide +kernel
theorem dL_prey_128 : decode cL_prey 128 = .ok (.iaload, 1) := by decide +kernel
theorem dL_prey_129 : decode cL_prey 129 = .ok (.bipush 8, 2) := by decide +kernel
theorem dL_prey_131 : decode cL_prey 131 = .ok (.irem, 1) := by decide +kernel
theorem dL_prey_132 : decode cL_prey 132 = .ok (.isub, 1) := by decide +kernel
theorem dL_prey_133 : decode cL_prey 133 = .ok (.istore 7, 2) := by decide +kernel
theorem dL_prey_135 : decode cL_prey 135 = .ok (.aload_n 0, 1) := by decide +kernel
theorem dL_prey_136 : decode cL_prey 136 = .ok (.iload 6, 2) := by decide +kernel
theorem dL_prey_138 : decode cL_prey 138 = .ok (.iaload, 1) := by decide +kernel
theorem dL_prey_139 : decode cL_prey 139 = .ok (.ifCond .lt 25, 3) := by decide +kernel
theorem dL_prey_142 : decode cL_prey 142 = .ok (.aload_n 0, 1) := by decide +kernel
theorem dL_prey_143 : decode cL_prey 143 = .ok (.iload 6, 2) := by decide +kernel
theorem dL_prey_145 : decode cL_prey 145 = .ok (.iaload, 1) := by decide +kernel
theorem dL_prey_146 : decode cL_prey 146 = .ok (.bipush 32, 2) := by decide +kernel
theorem dL_prey_148 : decode cL_prey 148 = .ok (.idiv, 1) := by decide +kernel
theorem dL_prey_149 : decode cL_prey 149 = .ok (.iload_n 3, 1) := by decide +kernel
theorem dL_prey_150 : decode cL_prey 150 = .ok (.if_icmp .ne 14, 3) := by decide +kernel
theorem dL_prey_153 : decode cL_prey 153 = .ok (.iload 7, 2) := by decide +kernel
theorem dL_prey_155 : decode cL_prey 155 = .ok (.iload 5, 2) := by decide +kernel
theorem dL_prey_157 : decode cL_prey 157 = .ok (.if_icmp .le 7, 3) := by decide +kernel
theorem dL_prey_160 : decode cL_prey 160 = .ok (.iconst 1, 1) := by decide +kernel
theorem dL_prey_161 : decode cL_prey 161 = .ok (.goto 4, 3) := by decide +kernel
theorem dL_prey_164 : decode cL_prey 164 = .ok (.iconst 0, 1) := by decide +kernel
theorem dL_prey_165 : decode cL_prey 165 = .ok (.istore 8, 2) := by decide +kernel
theorem dL_prey_167 : decode cL_prey 167 = .ok (.iload 8, 2) := by decide +kernel
theorem dL_prey_169 : decode cL_prey 169 = .ok (.ifCond .eq 8, 3) := by decide +kernel
theorem dL_prey_172 : decode cL_prey 172 = .ok (.iload 6, 2) := by decide +kernel
theorem dL_prey_174 : decode cL_prey 174 = .ok (.goto 5, 3) := by decide +kernel
theorem dL_prey_177 : decode cL_prey 177 = .ok (.iload 4, 2) := by decide +kernel
theorem dL_prey_179 : decode cL_prey 179 = .ok (.istore 4, 2) := by decide +kernel
theorem dL_prey_181 : decode cL_prey 181 = .ok (.iload 8, 2) := by decide +kernel
theorem dL_prey_183 : decode cL_prey 183 = .ok (.ifCond .eq 8, 3) := by decide +kernel
theorem dL_prey_186 : decode cL_prey 186 = .ok (.iload 7, 2) := by decide +kernel
theorem dL_prey_188 : decode cL_prey 188 = .ok (.goto 5, 3) := by decide +kernel
theorem dL_prey_191 : decode cL_prey 191 = .ok (.iload 5, 2) := by decide +kernel
theorem dL_prey_193 : decode cL_prey 193 = .ok (.istore 5, 2) := by decide +kernel
theorem dL_prey_195 : decode cL_prey 195 = .ok (.iinc 6 1, 3) := by decide +kernel
theorem dL_prey_198 : decode cL_prey 198 = .ok (.goto (-102), 3) := by decide +kernel
theorem dL_prey_201 : decode cL_prey 201 = .ok (.iload 4, 2) := by decide +kernel
theorem dL_prey_203 : decode cL_prey 203 = .ok (.ireturn, 1) := by decide +kernel
theorem dL_night_0 : decode cL_night 0 = .ok (.aload_n 0, 1) := by decide +kernel
theorem dL_night_1 : decode cL_night 1 = .ok (.aload_n 1, 1) := by decide +kernel
theorem dL_night_2 : decode cL_night 2 = .ok (.aload_n 2, 1) := by decide +kernel
theorem dL_night_3 : decode cL_night 3 = .ok (.invokestatic 49, 3) := by decide +kernel
theorem dL_night_6 : decode cL_night 6 = .ok (.istore 4, 2) := by decide +kernel
theorem dL_night_8 : decode cL_night 8 = .ok (.iconst 0, 1) := by decide +kernel
theorem dL_night_9 : decode cL_night 9 = .ok (.istore 5, 2) := by decide +kernel
theorem dL_night_11 : decode cL_night 11 = .ok (.iload 5, 2) := by decide +kernel
theorem dL_night_13 : decode cL_night 13 = .ok (.iconst 4, 1) := by decide +kernel
theorem dL_night_14 : decode cL_night 14 = .ok (.if_icmp .ge 34, 3) := by decide +kernel
theorem dL_night_17 : decode cL_night 17 = .ok (.aload_n 2, 1) := by decide +kernel
theorem dL_night_18 : decode cL_night 18 = .ok (.bipush 6, 2) := by decide +kernel
theorem dL_night_20 : decode cL_night 20 = .ok (.iload 5, 2) := by decide +kernel
theorem dL_night_22 : decode cL_night 22 = .ok (.iadd, 1) := by decide +kernel
theorem dL_night_23 : decode cL_night 23 = .ok (.dup2, 1) := by decide +kernel
theorem dL_night_24 : decode cL_night 24 = .ok (.iaload, 1) := by decide +kernel
theorem dL_night_25 : decode cL_night 25 = .ok (.aload_n 2, 1) := by decide +kernel
theorem dL_night_26 : decode cL_night 26 = .ok (.bipush 6, 2) := by decide +kernel
theorem dL_night_28 : decode cL_night 28 = .ok (.iload 5, 2) := by decide +kernel
theorem dL_night_30 : decode cL_night 30 = .ok (.iadd, 1) := by decide +kernel
theorem dL_night_31 : decode cL_night 31 = .ok (.iaload, 1) := by decide +kernel
theorem dL_night_32 : decode cL_night 32 = .ok (.ifCond .le 7, 3) := by decide +kernel
theorem dL_night_35 : decode cL_night 35 = .ok (.iconst 1, 1) := by decide +kernel
theorem dL_night_36 : decode cL_night 36 = .ok (.goto 4, 3) := by decide +kernel
theorem dL_night_39 : decode cL_night 39 = .ok (.iconst 0, 1) := by decide +kernel
theorem dL_night_40 : decode cL_night 40 = .ok (.isub, 1) := by decide +kernel
theorem dL_night_41 : decode cL_night 41 = .ok (.iastore, 1) := by decide +kernel
theorem dL_night_42 : decode cL_night 42 = .ok (.iinc 5 1, 3) := by decide +kernel
theorem dL_night_45 : decode cL_night 45 = .ok (.goto (-34), 3) := by decide +kernel
theorem dL_night_48 : decode cL_night 48 = .ok (.aload_n 2, 1) := by decide +kernel
theorem dL_night_49 : decode cL_night 49 = .ok (.iconst 3, 1) := by decide +kernel
theorem dL_night_50 : decode cL_night 50 = .ok (.dup2, 1) := by decide +kernel
theorem dL_night_51 : decode cL_night 51 = .ok (.iaload, 1) := by decide +kernel
theorem dL_night_52 : decode cL_night 52 = .ok (.iconst 1, 1) := by decide +kernel
theorem dL_night_53 : decode cL_night 53 = .ok (.iadd, 1) := by decide +kernel
theorem dL_night_54 : decode cL_night 54 = .ok (.iastore, 1) := by decide +kernel
theorem dL_night_55 : decode cL_night 55 = .ok (.iload 4, 2) := by decide +kernel
theorem dL_night_57 : decode cL_night 57 = .ok (.ifCond .ge 5, 3) := by decide +kernel
theorem dL_night_60 : decode cL_night 60 = .ok (.iconst 0, 1) := by decide +kernel
theorem dL_night_61 : decode cL_night 61 = .ok (.ireturn, 1) := by decide +kernel
theorem dL_night_62 : decode cL_night 62 = .ok (.aload_n 0, 1) := by decide +kernel
theorem dL_night_63 : decode cL_night 63 = .ok (.iload 4, 2) := by decide +kernel
theorem dL_night_65 : decode cL_night 65 = .ok (.iaload, 1) := by decide +kernel
theorem dL_night_66 : decode cL_night 66 = .ok (.bipush 32, 2) := by decide +kernel
theorem dL_night_68 : decode cL_night 68 = .ok (.idiv, 1) := by decide +kernel
theorem dL_night_69 : decode cL_night 69 = .ok (.istore 5, 2) := by decide +kernel
theorem dL_night_71 : decode cL_night 71 = .ok (.aload_n 0, 1) := by decide +kernel
theorem dL_night_72 : decode cL_night 72 = .ok (.aload_n 1, 1) := by decide +kernel
theorem dL_night_73 : decode cL_night 73 = .ok (.iload 4, 2) := by decide +kernel
theorem dL_night_75 : decode cL_night 75 = .ok (.invokestatic 53, 3) := by decide +kernel
theorem dL_night_78 : decode cL_night 78 = .ok (.aload_n 3, 1) := by decide +kernel
theorem dL_night_79 : decode cL_night 79 = .ok (.iload 4, 2) := by decide +kernel
theorem dL_night_81 : decode cL_night 81 = .ok (.dup2, 1) := by decide +kernel
theorem dL_night_82 : decode cL_night 82 = .ok (.iaload, 1) := by decide +kernel
theorem dL_night_83 : decode cL_night 83 = .ok (.iconst 1, 1) := by decide +kernel
theorem dL_night_84 : decode cL_night 84 = .ok (.iadd, 1) := by decide +kernel
theorem dL_night_85 : decode cL_night 85 = .ok (.iastore, 1) := by decide +kernel
theorem dL_night_86 : decode cL_night 86 = .ok (.aload_n 2, 1) := by decide +kernel
theorem dL_night_87 : decode cL_night 87 = .ok (.bipush 10, 2) := by decide +kernel
theorem dL_night_89 : decode cL_night 89 = .ok (.iload 5, 2) := by decide +kernel
theorem dL_night_91 : decode cL_night 91 = .ok (.iadd, 1) := by decide +kernel
theorem dL_night_92 : decode cL_night 92 = .ok (.dup2, 1) := by decide +kernel
theorem dL_night_93 : decode cL_night 93 = .ok (.iaload, 1) := by decide +kernel
theorem dL_night_94 : decode cL_night 94 = .ok (.iconst 1, 1) := by decide +kernel
theorem dL_night_95 : decode cL_night 95 = .ok (.iadd, 1) := by decide +kernel
theorem dL_night_96 : decode cL_night 96 = .ok (.iastore, 1) := by decide +kernel
theorem dL_night_97 : decode cL_night 97 = .ok (.aload_n 2, 1) := by decide +kernel
theorem dL_night_98 : decode cL_night 98 = .ok (.bipush 6, 2) := by decide +kernel
theorem dL_night_100 : decode cL_night 100 = .ok (.iload 5, 2) := by decide +kernel
theorem dL_night_102 : decode cL_night 102 = .ok (.iadd, 1) := by decide +kernel
theorem dL_night_103 : decode cL_night 103 = .ok (.aload_n 2, 1) := by decide +kernel
theorem dL_night_104 : decode cL_night 104 = .ok (.iconst 2, 1) := by decide +kernel
theorem dL_night_105 : decode cL_night 105 = .ok (.iaload, 1) := by decide +kernel
theorem dL_night_106 : decode cL_night 106 = .ok (.iastore, 1) := by decide +kernel
theorem dL_night_107 : decode cL_night 107 = .ok (.iconst 1, 1) := by decide +kernel
theorem dL_night_108 : decode cL_night 108 = .ok (.ireturn, 1) := by decide +kernel
theorem dL_copy_0 : decode cL_copy 0 = .ok (.iconst 0, 1) := by decide +kernel
theorem dL_copy_1 : decode cL_copy 1 = .ok (.istore_n 2, 1) := by decide +kernel
theorem dL_copy_2 : decode cL_copy 2 = .ok (.iload_n 2, 1) := by decide +kernel
theorem dL_copy_3 : decode cL_copy 3 = .ok (.aload_n 0, 1) := by decide +kernel
theorem dL_copy_4 : decode cL_copy 4 = .ok (.arraylength, 1) := by decide +kernel
theorem dL_copy_5 : decode cL_copy 5 = .ok (.if_icmp .ge 15, 3) := by decide +kernel
theorem dL_copy_8 : decode cL_copy 8 = .ok (.aload_n 1, 1) := by decide +kernel
theorem dL_copy_9 : decode cL_copy 9 = .ok (.iload_n 2, 1) := by decide +kernel
theorem dL_copy_10 : decode cL_copy 10 = .ok (.aload_n 0, 1) := by decide +kernel
theorem dL_copy_11 : decode cL_copy 11 = .ok (.iload_n 2, 1) := by decide +kernel
theorem dL_copy_12 : decode cL_copy 12 = .ok (.iaload, 1) := by decide +kernel
theorem dL_copy_13 : decode cL_copy 13 = .ok (.iastore, 1) := by decide +kernel
theorem dL_copy_14 : decode cL_copy 14 = .ok (.iinc 2 1, 3) := by decide +kernel
theorem dL_copy_17 : decode cL_copy 17 = .ok (.goto (-15), 3) := by decide +kernel
theorem dL_copy_20 : decode cL_copy 20 = .ok (.return_, 1) := by decide +kernel
theorem dL_areWords_0 : decode cL_areWords 0 = .ok (.iconst 1, 1) := by decide +kernel
theorem dL_areWords_1 : decode cL_areWords 1 = .ok (.istore_n 3, 1) := by decide +kernel
theorem dL_areWords_2 : decode cL_areWords 2 = .ok (.iconst 0, 1) := by decide +kernel
theorem dL_areWords_3 : decode cL_areWords 3 = .ok (.istore 4, 2) := by decide +kernel
theorem dL_areWords_5 : decode cL_areWords 5 = .ok (.iload 4, 2) := by decide +kernel
theorem dL_areWords_7 : decode cL_areWords 7 = .ok (.bipush 40, 2) := by decide +kernel
theorem dL_areWords_9 : decode cL_areWords 9 = .ok (.if_icmp .ge 174, 3) := by decide +kernel
theorem dL_areWords_12 : decode cL_areWords 12 = .ok (.iload_n 3, 1) := by decide +kernel
theorem dL_areWords_13 : decode cL_areWords 13 = .ok (.ifCond .eq 170, 3) := by decide +kernel
theorem dL_areWords_16 : decode cL_areWords 16 = .ok (.aload_n 1, 1) := by decide +kernel
theorem dL_areWords_17 : decode cL_areWords 17 = .ok (.iload 4, 2) := by decide +kernel
theorem dL_areWords_19 : decode cL_areWords 19 = .ok (.iaload, 1) := by decide +kernel
theorem dL_areWords_20 : decode cL_areWords 20 = .ok (.ifCond .lt 7, 3) := by decide +kernel
theorem dL_areWords_23 : decode cL_areWords 23 = .ok (.iconst 1, 1) := by decide +kernel
theorem dL_areWords_24 : decode cL_areWords 24 = .ok (.goto 4, 3) := by decide +kernel
theorem dL_areWords_27 : decode cL_areWords 27 = .ok (.iconst 0, 1) := by decide +kernel
theorem dL_areWords_28 : decode cL_areWords 28 = .ok (.istore 5, 2) := by decide +kernel
theorem dL_areWords_30 : decode cL_areWords 30 = .ok (.aload_n 0, 1) := by decide +kernel
theorem dL_areWords_31 : decode cL_areWords 31 = .ok (.iload 4, 2) := by decide +kernel
theorem dL_areWords_33 : decode cL_areWords 33 = .ok (.iconst 0, 1) := by decide +kernel
theorem dL_areWords_34 : decode cL_areWords 34 = .ok (.invokevirtual 57, 3) := by decide +kernel
theorem dL_areWords_37 : decode cL_areWords 37 = .ok (.iload 4, 2) := by decide +kernel
theorem dL_areWords_39 : decode cL_areWords 39 = .ok (.iconst 4, 1) := by decide +kernel
theorem dL_areWords_40 : decode cL_areWords 40 = .ok (.irem, 1) := by decide +kernel
theorem dL_areWords_41 : decode cL_areWords 41 = .ok (.if_icmp .ne 134, 3) := by decide +kernel
theorem dL_areWords_44 : decode cL_areWords 44 = .ok (.aload_n 0, 1) := by decide +kernel
theorem dL_areWords_45 : decode cL_areWords 45 = .ok (.iload 4, 2) := by decide +kernel
theorem dL_areWords_47 : decode cL_areWords 47 = .ok (.iconst 1, 1) := by decide +kernel
theorem dL_areWords_48 : decode cL_areWords 48 = .ok (.invokevirtual 57, 3) := by decide +kernel
theorem dL_areWords_51 : decode cL_areWords 51 = .ok (.iload 4, 2) := by decide +kernel
theorem dL_areWords_53 : decode cL_areWords 53 = .ok (.iconst 4, 1) := by decide +kernel
theorem dL_areWords_54 : decode cL_areWords 54 = .ok (.idiv, 1) := by decide +kernel
theorem dL_areWords_55 : decode cL_areWords 55 = .ok (.iconst 5, 1) := by decide +kernel
theorem dL_areWords_56 : decode cL_areWords 56 = .ok (.irem, 1) := by decide +kernel
theorem dL_areWords_57 : decode cL_areWords 57 = .ok (.if_icmp .ne 118, 3) := by decide +kernel
theorem dL_areWords_60 : decode cL_areWords 60 = .ok (.aload_n 0, 1) := by decide +kernel
theorem dL_areWords_61 : decode cL_areWords 61 = .ok (.iload 4, 2) := by decide +kernel
theorem dL_areWords_63 : decode cL_areWords 63 = .ok (.iconst 2, 1) := by decide +kernel
theorem dL_areWords_64 : decode cL_areWords 64 = .ok (.invokevirtual 57, 3) := by decide +kernel
theorem dL_areWords_67 : decode cL_areWords 67 = .ok (.iconst 1, 1) := by decide +kernel
theorem dL_areWords_68 : decode cL_areWords 68 = .ok (.iload 4, 2) := by decide +kernel
theorem dL_areWords_70 : decode cL_areWords 70 = .ok (.iconst 3, 1) := by decide +kernel
theorem dL_areWords_71 : decode cL_areWords 71 = .ok (.irem, 1) := by decide +kernel
theorem dL_areWords_72 : decode cL_areWords 72 = .ok (.iadd, 1) := by decide +kernel
theorem dL_areWords_73 : decode cL_areWords 73 = .ok (.if_icmp .ne 102, 3) := by decide +kernel
theorem dL_areWords_76 : decode cL_areWords 76 = .ok (.aload_n 0, 1) := by decide +kernel
theorem dL_areWords_77 : decode cL_areWords 77 = .ok (.iload 4, 2) := by decide +kernel
theorem dL_areWords_79 : decode cL_areWords 79 = .ok (.iconst 3, 1) := by decide +kernel
theorem dL_areWords_80 : decode cL_areWords 80 = .ok (.invokevirtual 57, 3) := by decide +kernel
theorem dL_areWords_83 : decode cL_areWords 83 = .ok (.iload 5, 2) := by decide +kernel
theorem dL_areWords_85 : decode cL_areWords 85 = .ok (.ifCond .eq 13, 3) := by decide +kernel
theorem dL_areWords_88 : decode cL_areWords 88 = .ok (.aload_n 1, 1) := by decide +kernel
theorem dL_areWords_89 : decode cL_areWords 89 = .ok (.iload 4, 2) := by decide +kernel
theorem dL_areWords_91 : decode cL_areWords 91 = .ok (.iaload, 1) := by decide +kernel
theorem dL_areWords_92 : decode cL_areWords 92 = .ok (.bipush 32, 2) := by decide +kernel
theorem dL_areWords_94 : decode cL_areWords 94 = .ok (.idiv, 1) := by decide +kernel
theorem dL_areWords_95 : decode cL_areWords 95 = .ok (.goto 4, 3) := by decide +kernel
theorem dL_areWords_98 : decode cL_areWords 98 = .ok (.iconst (-1), 1) := by decide +kernel
theorem dL_areWords_99 : decode cL_areWords 99 = .ok (.if_icmp .ne 76, 3) := by decide +kernel
theorem dL_areWords_102 : decode cL_areWords 102 = .ok (.aload_n 0, 1) := by decide +kernel
theorem dL_areWords_103 : decode cL_areWords 103 = .ok (.iload 4, 2) := by decide +kernel
theorem dL_areWords_105 : decode cL_areWords 105 = .ok (.iconst 4, 1) := by decide +kernel
theorem dL_areWords_106 : decode cL_areWords 106 = .ok (.invokevirtual 57, 3) := by decide +kernel
theorem dL_areWords_109 : decode cL_areWords 109 = .ok (.iload 5, 2) := by decide +kernel
theorem dL_areWords_111 : decode cL_areWords 111 = .ok (.ifCond .eq 15, 3) := by decide +kernel
theorem dL_areWords_114 : decode cL_areWords 114 = .ok (.aload_n 1, 1) := by decide +kernel
theorem dL_areWords_115 : decode cL_areWords 115 = .ok (.iload 4, 2) := by decide +kernel
theorem dL_areWords_117 : decode cL_areWords 117 = .ok (.iaload, 1) := by decide +kernel
theorem dL_areWords_118 : decode cL_areWords 118 = .ok (.bipush 8, 2) := by decide +kernel
theorem dL_areWords_120 : decode cL_areWords 120 = .ok (.idiv, 1) := by decide +kernel
theorem dL_areWords_121 : decode cL_areWords 121 = .ok (.iconst 4, 1) := by decide +kernel
theorem dL_areWords_122 : decode cL_areWords 122 = .ok (.irem, 1) := by decide +kernel
theorem dL_areWords_123 : decode cL_areWords 123 = .ok (.goto 4, 3) := by decide +kernel
theorem dL_areWords_126 : decode cL_areWords 126 = .ok (.iconst (-1), 1) := by decide +kernel
theorem dL_areWords_127 : decode cL_areWords 127 = .ok (.if_icmp .ne 48, 3) := by decide +kernel
theorem dL_areWords_130 : decode cL_areWords 130 = .ok (.aload_n 0, 1) := by decide +kernel
theorem dL_areWords_131 : decode cL_areWords 131 = .ok (.iload 4, 2) := by decide +kernel
theorem dL_areWords_133 : decode cL_areWords 133 = .ok (.iconst 5, 1) := by decide +kernel
theorem dL_areWords_134 : decode cL_areWords 134 = .ok (.invokevirtual 57, 3) := by decide +kernel
theorem dL_areWords_137 : decode cL_areWords 137 = .ok (.iload 5, 2) := by decide +kernel
theorem dL_areWords_139 : decode cL_areWords 139 = .ok (.ifCond .eq 13, 3) := by decide +kernel
theorem dL_areWords_142 : decode cL_areWords 142 = .ok (.aload_n 1, 1) := by decide +kernel
theorem dL_areWords_143 : decode cL_areWords 143 = .ok (.iload 4, 2) := by decide +kernel
theorem dL_areWords_145 : decode cL_areWords 145 = .ok (.iaload, 1) := by decide +kernel
theorem dL_areWords_146 : decode cL_areWords 146 = .ok (.bipush 8, 2) := by decide +kernel
theorem dL_areWords_148 : decode cL_areWords 148 = .ok (.irem, 1) := by decide +kernel
theorem dL_areWords_149 : decode cL_areWords 149 = .ok (.goto 4, 3) := by decide +kernel
theorem dL_areWords_152 : decode cL_areWords 152 = .ok (.iconst (-1), 1) := by decide +kernel
theorem dL_areWords_153 : decode cL_areWords 153 = .ok (.if_icmp .ne 22, 3) := by decide +kernel
theorem dL_areWords_156 : decode cL_areWords 156 = .ok (.aload_n 0, 1) := by decide +kernel
theorem dL_areWords_157 : decode cL_areWords 157 = .ok (.iload 4, 2) := by decide +kernel
theorem dL_areWords_159 : decode cL_areWords 159 = .ok (.bipush 6, 2) := by decide +kernel
theorem dL_areWords_161 : decode cL_areWords 161 = .ok (.invokevirtual 57, 3) := by decide +kernel
theorem dL_areWords_164 : decode cL_areWords 164 = .ok (.aload_n 2, 1) := by decide +kernel
theorem dL_areWords_165 : decode cL_areWords 165 = .ok (.iload 4, 2) := by decide +kernel
theorem dL_areWords_167 : decode cL_areWords 167 = .ok (.iaload, 1) := by decide +kernel
theorem dL_areWords_168 : decode cL_areWords 168 = .ok (.if_icmp .ne 7, 3) := by decide +kernel
theorem dL_areWords_171 : decode cL_areWords 171 = .ok (.iconst 1, 1) := by decide +kernel
theorem dL_areWords_172 : decode cL_areWords 172 = .ok (.goto 4, 3) := by decide +kernel
theorem dL_areWords_175 : decode cL_areWords 175 = .ok (.iconst 0, 1) := by decide +kernel
theorem dL_areWords_176 : decode cL_areWords 176 = .ok (.istore_n 3, 1) := by decide +kernel
theorem dL_areWords_177 : decode cL_areWords 177 = .ok (.iinc 4 1, 3) := by decide +kernel
theorem dL_areWords_180 : decode cL_areWords 180 = .ok (.goto (-175), 3) := by decide +kernel
theorem dL_areWords_183 : decode cL_areWords 183 = .ok (.iload_n 3, 1) := by decide +kernel
theorem dL_areWords_184 : decode cL_areWords 184 = .ok (.ireturn, 1) := by decide +kernel
theorem dL_told_0 : decode cL_told 0 = .ok (.iload_n 0, 1) := by decide +kernel
theorem dL_told_1 : decode cL_told 1 = .ok (.ifCond .ge 7, 3) := by decide +kernel
theorem dL_told_4 : decode cL_told 4 = .ok (.iconst (-1), 1) := by decide +kernel
theorem dL_told_5 : decode cL_told 5 = .ok (.goto 13, 3) := by decide +kernel
theorem dL_told_8 : decode cL_told 8 = .ok (.bipush 10, 2) := by decide +kernel
theorem dL_told_10 : decode cL_told 10 = .ok (.iload_n 0, 1) := by decide +kernel
theorem dL_told_11 : decode cL_told 11 = .ok (.iconst 4, 1) := by decide +kernel
theorem dL_told_12 : decode cL_told 12 = .ok (.idiv, 1) := by decide +kernel
theorem dL_told_13 : decode cL_told 13 = .ok (.imul, 1) := by decide +kernel
theorem dL_told_14 : decode cL_told 14 = .ok (.iload_n 0, 1) := by decide +kernel
theorem dL_told_15 : decode cL_told 15 = .ok (.iconst 4, 1) := by decide +kernel
theorem dL_told_16 : decode cL_told 16 = .ok (.irem, 1) := by decide +kernel
theorem dL_told_17 : decode cL_told 17 = .ok (.iadd, 1) := by decide +kernel
theorem dL_told_18 : decode cL_told 18 = .ok (.ireturn, 1) := by decide +kernel
theorem dL_isLine_0 : decode cL_isLine 0 = .ok (.iload_n 3, 1) := by decide +kernel
theorem dL_isLine_1 : decode cL_isLine 1 = .ok (.iconst 4, 1) := by decide +kernel
theorem dL_isLine_2 : decode cL_isLine 2 = .ok (.idiv, 1) := by decide +kernel
theorem dL_isLine_3 : decode cL_isLine 3 = .ok (.istore 4, 2) := by decide +kernel
theorem dL_isLine_5 : decode cL_isLine 5 = .ok (.iload_n 3, 1) := by decide +kernel
theorem dL_isLine_6 : decode cL_isLine 6 = .ok (.iconst 4, 1) := by decide +kernel
theorem dL_isLine_7 : decode cL_isLine 7 = .ok (.irem, 1) := by decide +kernel
theorem dL_isLine_8 : decode cL_isLine 8 = .ok (.istore 5, 2) := by decide +kernel
theorem dL_isLine_10 : decode cL_isLine 10 = .ok (.iconst (-1), 1) := by decide +kernel
theorem dL_isLine_11 : decode cL_isLine 11 = .ok (.istore 6, 2) := by decide +kernel
theorem dL_isLine_13 : decode cL_isLine 13 = .ok (.iconst 1, 1) := by decide +kernel
theorem dL_isLine_14 : decode cL_isLine 14 = .ok (.istore 7, 2) := by decide +kernel
theorem dL_isLine_16 : decode cL_isLine 16 = .ok (.iconst 0, 1) := by decide +kernel
theorem dL_isLine_17 : decode cL_isLine 17 = .ok (.istore 8, 2) := by decide +kernel
theorem dL_isLine_19 : decode cL_isLine 19 = .ok (.iload 8, 2) := by decide +kernel
theorem dL_isLine_21 : decode cL_isLine 21 = .ok (.bipush 16, 2) := by decide +kernel
theorem dL_isLine_23 : decode cL_isLine 23 = .ok (.if_icmp .ge 26, 3) := by decide +kernel
theorem dL_isLine_26 : decode cL_isLine 26 = .ok (.aload_n 2, 1) := by decide +kernel
theorem dL_isLine_27 : decode cL_isLine 27 = .ok (.iload 8, 2) := by decide +kernel
theorem dL_isLine_29 : decode cL_isLine 29 = .ok (.iaload, 1) := by decide +kernel
theorem dL_isLine_30 : decode cL_isLine 30 = .ok (.iload_n 3, 1) := by decide +kernel
theorem dL_isLine_31 : decode cL_isLine 31 = .ok (.if_icmp .ne 8, 3) := by decide +kernel
theorem dL_isLine_34 : decode cL_isLine 34 = .ok (.iload 8, 2) := by decide +kernel
theorem dL_isLine_36 : decode cL_isLine 36 = .ok (.goto 5, 3) := by decide +kernel
theorem dL_isLine_39 : decode cL_isLine 39 = .ok (.iload 6, 2) := by decide +kernel
theorem dL_isLine_41 : decode cL_isLine 41 = .ok (.istore 6, 2) := by decide +kernel
theorem dL_isLine_43 : decode cL_isLine 43 = .ok (.iinc 8 1, 3) := by decide +kernel
theorem dL_isLine_46 : decode cL_isLine 46 = .ok (.goto (-27), 3) := by decide +kernel
theorem dL_isLine_49 : decode cL_isLine 49 = .ok (.iconst 1, 1) := by decide +kernel
theorem dL_isLine_50 : decode cL_isLine 50 = .ok (.istore 8, 2) := by decide +kernel
theorem dL_isLine_52 : decode cL_isLine 52 = .ok (.iconst 0, 1) := by decide +kernel
theorem dL_isLine_53 : decode cL_isLine 53 = .ok (.istore 9, 2) := by decide +kernel
theorem dL_isLine_55 : decode cL_isLine 55 = .ok (.iload 9, 2) := by decide +kernel
theorem dL_isLine_57 : decode cL_isLine 57 = .ok (.bipush 6, 2) := by decide +kernel
theorem dL_isLine_59 : decode cL_isLine 59 = .ok (.if_icmp .ge 93, 3) := by decide +kernel
theorem dL_isLine_62 : decode cL_isLine 62 = .ok (.aload_n 1, 1) := by decide +kernel
theorem dL_isLine_63 : decode cL_isLine 63 = .ok (.iload_n 3, 1) := by decide +kernel
theorem dL_isLine_64 : decode cL_isLine 64 = .ok (.iload 9, 2) := by decide +kernel
theorem dL_isLine_66 : decode cL_isLine 66 = .ok (.invokestatic 19, 3) := by decide +kernel
theorem dL_isLine_69 : decode cL_isLine 69 = .ok (.istore 10, 2) := by decide +kernel
theorem dL_isLine_71 : decode cL_isLine 71 = .ok (.aload_n 1, 1) := by decide +kernel
theorem dL_isLine_72 : decode cL_isLine 72 = .ok (.iload_n 3, 1) := by decide +kernel
theorem dL_isLine_73 : decode cL_isLine 73 = .ok (.iload 9, 2) := by decide +kernel
theorem dL_isLine_75 : decode cL_isLine 75 = .ok (.iconst 1, 1) := by decide +kernel
theorem dL_isLine_76 : decode cL_isLine 76 = .ok (.iadd, 1) := by decide +kernel
theorem dL_isLine_77 : decode cL_isLine 77 = .ok (.invokestatic 19, 3) := by decide +kernel
theorem dL_isLine_80 : decode cL_isLine 80 = .ok (.istore 11, 2) := by decide +kernel
theorem dL_isLine_82 : decode cL_isLine 82 = .ok (.iload 10, 2) := by decide +kernel
theorem dL_isLine_84 : decode cL_isLine 84 = .ok (.ifCond .lt 31, 3) := by decide +kernel
theorem dL_isLine_87 : decode cL_isLine 87 = .ok (.iload 11, 2) := by decide +kernel
theorem dL_isLine_89 : decode cL_isLine 89 = .ok (.ifCond .lt 26, 3) := by decide +kernel
theorem dL_isLine_92 : decode cL_isLine 92 = .ok (.iload 10, 2) := by decide +kernel
theorem dL_isLine_94 : decode cL_isLine 94 = .ok (.iconst 4, 1) := by decide +kernel
theorem dL_isLine_95 : decode cL_isLine 95 = .ok (.irem, 1) := by decide +kernel
theorem dL_isLine_96 : decode cL_isLine 96 = .ok (.iload 11, 2) := by decide +kernel
theorem dL_isLine_98 : decode cL_isLine 98 = .ok (.iconst 4, 1) := by decide +kernel
theorem dL_isLine_99 : decode cL_isLine 99 = .ok (.irem, 1) := by decide +kernel
theorem dL_isLine_100 : decode cL_isLine 100 = .ok (.if_icmp .ne 15, 3) := by decide +kernel
theorem dL_isLine_103 : decode cL_isLine 103 = .ok (.iload 10, 2) := by decide +kernel
theorem dL_isLine_105 : decode cL_isLine 105 = .ok (.iconst 4, 1) := by decide +kernel
theorem dL_isLine_106 : decode cL_isLine 106 = .ok (.irem, 1) := by decide +kernel
theorem dL_isLine_107 : decode cL_isLine 107 = .ok (.iconst 2, 1) := by decide +kernel
theorem dL_isLine_108 : decode cL_isLine 108 = .ok (.if_icmp .eq 7, 3) := by decide +kernel
theorem dL_isLine_111 : decode cL_isLine 111 = .ok (.iconst 0, 1) := by decide +kernel
theorem dL_isLine_112 : decode cL_isLine 112 = .ok (.goto 5, 3) := by decide +kernel
theorem dL_isLine_115 : decode cL_isLine 115 = .ok (.iload 7, 2) := by decide +kernel
theorem dL_isLine_117 : decode cL_isLine 117 = .ok (.istore 7, 2) := by decide +kernel
theorem dL_isLine_119 : decode cL_isLine 119 = .ok (.iload 8, 2) := by decide +kernel
theorem dL_isLine_121 : decode cL_isLine 121 = .ok (.ifCond .eq 22, 3) := by decide +kernel
theorem dL_isLine_124 : decode cL_isLine 124 = .ok (.aload_n 0, 1) := by decide +kernel
theorem dL_isLine_125 : decode cL_isLine 125 = .ok (.iload 4, 2) := by decide +kernel
theorem dL_isLine_127 : decode cL_isLine 127 = .ok (.iload 5, 2) := by decide +kernel
theorem dL_isLine_129 : decode cL_isLine 129 = .ok (.iload 9, 2) := by decide +kernel
theorem dL_isLine_131 : decode cL_isLine 131 = .ok (.invokevirtual 63, 3) := by decide +kernel
theorem dL_isLine_134 : decode cL_isLine 134 = .ok (.iload 10, 2) := by decide +kernel
theorem dL_isLine_136 : decode cL_isLine 136 = .ok (.if_icmp .ne 7, 3) := by decide +kernel
theorem dL_isLine_139 : decode cL_isLine 139 = .ok (.iconst 1, 1) := by decide +kernel
theorem dL_isLine_140 : decode cL_isLine 140 = .ok (.goto 4, 3) := by decide +kernel
theorem dL_isLine_143 : decode cL_isLine 143 = .ok (.iconst 0, 1) := by decide +kernel
theorem dL_isLine_144 : decode cL_isLine 144 = .ok (.istore 8, 2) := by decide +kernel
theorem dL_isLine_146 : decode cL_isLine 146 = .ok (.iinc 9 1, 3) := by decide +kernel
theorem dL_isLine_149 : decode cL_isLine 149 = .ok (.goto (-94), 3) := by decide +kernel
theorem dL_isLine_152 : decode cL_isLine 152 = .ok (.iload 8, 2) := by decide +kernel
theorem dL_isLine_154 : decode cL_isLine 154 = .ok (.ifCond .eq 76, 3) := by decide +kernel
theorem dL_isLine_157 : decode cL_isLine 157 = .ok (.aload_n 0, 1) := by decide +kernel
theorem dL_isLine_158 : decode cL_isLine 158 = .ok (.iload 4, 2) := by decide +kernel
theorem dL_isLine_160 : decode cL_isLine 160 = .ok (.iload 5, 2) := by decide +kernel
theorem dL_isLine_162 : decode cL_isLine 162 = .ok (.iconst 0, 1) := by decide +kernel
theorem dL_isLine_163 : decode cL_isLine 163 = .ok (.invokevirtual 67, 3) := by decide +kernel
theorem dL_isLine_166 : decode cL_isLine 166 = .ok (.aload_n 1, 1) := by decide +kernel
theorem dL_isLine_167 : decode cL_isLine 167 = .ok (.iload_n 3, 1) := by decide +kernel
theorem dL_isLine_168 : decode cL_isLine 168 = .ok (.invokestatic 15, 3) := by decide +kernel
theorem dL_isLine_171 : decode cL_isLine 171 = .ok (.if_icmp .ne 59, 3) := by decide +kernel
theorem dL_isLine_174 : decode cL_isLine 174 = .ok (.aload_n 0, 1) := by decide +kernel
theorem dL_isLine_175 : decode cL_isLine 175 = .ok (.iload 4, 2) := by decide +kernel
theorem dL_isLine_177 : decode cL_isLine 177 = .ok (.iload 5, 2) := by decide +kernel
theorem dL_isLine_179 : decode cL_isLine 179 = .ok (.iconst 1, 1) := by decide +kernel
theorem dL_isLine_180 : decode cL_isLine 180 = .ok (.invokevirtual 67, 3) := by decide +kernel
theorem dL_isLine_183 : decode cL_isLine 183 = .ok (.aload_n 1, 1) := by decide +kernel
theorem dL_isLine_184 : decode cL_isLine 184 = .ok (.iload_n 3, 1) := by decide +kernel
theorem dL_isLine_185 : decode cL_isLine 185 = .ok (.invokestatic 30, 3) := by decide +kernel
theorem dL_isLine_188 : decode cL_isLine 188 = .ok (.if_icmp .ne 42, 3) := by decide +kernel
theorem dL_isLine_191 : decode cL_isLine 191 = .ok (.aload_n 0, 1) := by decide +kernel
theorem dL_isLine_192 : decode cL_isLine 192 = .ok (.iload 4, 2) := by decide +kernel
theorem dL_isLine_194 : decode cL_isLine 194 = .ok (.iload 5, 2) := by decide +kernel
theorem dL_isLine_196 : decode cL_isLine 196 = .ok (.iconst 2, 1) := by decide +kernel
theorem dL_isLine_197 : decode cL_isLine 197 = .ok (.invokevirtual 67, 3) := by decide +kernel
theorem dL_isLine_200 : decode cL_isLine 200 = .ok (.aload_n 1, 1) := by decide +kernel
theorem dL_isLine_201 : decode cL_isLine 201 = .ok (.iload_n 3, 1) := by decide +kernel
theorem dL_isLine_202 : decode cL_isLine 202 = .ok (.invokestatic 37, 3) := by decide +kernel
theorem dL_isLine_205 : decode cL_isLine 205 = .ok (.if_icmp .ne 25, 3) := by decide +kernel
theorem dL_isLine_208 : decode cL_isLine 208 = .ok (.aload_n 0, 1) := by decide +kernel
theorem dL_isLine_209 : decode cL_isLine 209 = .ok (.iload 4, 2) := by decide +kernel
theorem dL_isLine_211 : decode cL_isLine 211 = .ok (.iload 5, 2) := by decide +kernel
theorem dL_isLine_213 : decode cL_isLine 213 = .ok (.iconst 3, 1) := by decide +kernel
theorem dL_isLine_214 : decode cL_isLine 214 = .ok (.invokevirtual 67, 3) := by decide +kernel
theorem dL_isLine_217 : decode cL_isLine 217 = .ok (.aload_n 1, 1) := by decide +kernel
theorem dL_isLine_218 : decode cL_isLine 218 = .ok (.aload_n 2, 1) := by decide +kernel
theorem dL_isLine_219 : decode cL_isLine 219 = .ok (.iload_n 3, 1) := by decide +kernel
theorem dL_isLine_220 : decode cL_isLine 220 = .ok (.invokestatic 33, 3) := by decide +kernel
theorem dL_isLine_223 : decode cL_isLine 223 = .ok (.if_icmp .ne 7, 3) := by decide +kernel
theorem dL_isLine_226 : decode cL_isLine 226 = .ok (.iconst 1, 1) := by decide +kernel
theorem dL_isLine_227 : decode cL_isLine 227 = .ok (.goto 4, 3) := by decide +kernel
theorem dL_isLine_230 : decode cL_isLine 230 = .ok (.iconst 0, 1) := by decide +kernel
theorem dL_isLine_231 : decode cL_isLine 231 = .ok (.istore 8, 2) := by decide +kernel
theorem dL_isLine_233 : decode cL_isLine 233 = .ok (.iload 8, 2) := by decide +kernel
theorem dL_isLine_235 : decode cL_isLine 235 = .ok (.ifCond .eq 76, 3) := by decide +kernel
theorem dL_isLine_238 : decode cL_isLine 238 = .ok (.aload_n 0, 1) := by decide +kernel
theorem dL_isLine_239 : decode cL_isLine 239 = .ok (.iload 4, 2) := by decide +kernel
theorem dL_isLine_241 : decode cL_isLine 241 = .ok (.iload 5, 2) := by decide +kernel
theorem dL_isLine_243 : decode cL_isLine 243 = .ok (.iconst 4, 1) := by decide +kernel
theorem dL_isLine_244 : decode cL_isLine 244 = .ok (.invokevirtual 67, 3) := by decide +kernel
theorem dL_isLine_247 : decode cL_isLine 247 = .ok (.aload_n 2, 1) := by decide +kernel
theorem dL_isLine_248 : decode cL_isLine 248 = .ok (.iload_n 3, 1) := by decide +kernel
theorem dL_isLine_249 : decode cL_isLine 249 = .ok (.iaload, 1) := by decide +kernel
theorem dL_isLine_250 : decode cL_isLine 250 = .ok (.invokestatic 70, 3) := by decide +kernel
theorem dL_isLine_253 : decode cL_isLine 253 = .ok (.if_icmp .ne 58, 3) := by decide +kernel
theorem dL_isLine_256 : decode cL_isLine 256 = .ok (.aload_n 0, 1) := by decide +kernel
theorem dL_isLine_257 : decode cL_isLine 257 = .ok (.iload 4, 2) := by decide +kernel
theorem dL_isLine_259 : decode cL_isLine 259 = .ok (.iload 5, 2) := by decide +kernel
theorem dL_isLine_261 : decode cL_isLine 261 = .ok (.iconst 5, 1) := by decide +kernel
theorem dL_isLine_262 : decode cL_isLine 262 = .ok (.invokevirtual 67, 3) := by decide +kernel
theorem dL_isLine_265 : decode cL_isLine 265 = .ok (.iload 6, 2) := by decide +kernel
theorem dL_isLine_267 : decode cL_isLine 267 = .ok (.invokestatic 70, 3) := by decide +kernel
theorem dL_isLine_270 : decode cL_isLine 270 = .ok (.if_icmp .ne 41, 3) := by decide +kernel
theorem dL_isLine_273 : decode cL_isLine 273 = .ok (.aload_n 0, 1) := by decide +kernel
theorem dL_isLine_274 : decode cL_isLine 274 = .ok (.iload 4, 2) := by decide +kernel
theorem dL_isLine_276 : decode cL_isLine 276 = .ok (.iload 5, 2) := by decide +kernel
theorem dL_isLine_278 : decode cL_isLine 278 = .ok (.bipush 6, 2) := by decide +kernel
theorem dL_isLine_280 : decode cL_isLine 280 = .ok (.invokevirtual 67, 3) := by decide +kernel
theorem dL_isLine_283 : decode cL_isLine 283 = .ok (.aload_n 1, 1) := by decide +kernel
theorem dL_isLine_284 : decode cL_isLine 284 = .ok (.aload_n 2, 1) := by decide +kernel
theorem dL_isLine_285 : decode cL_isLine 285 = .ok (.iload_n 3, 1) := by decide +kernel
theorem dL_isLine_286 : decode cL_isLine 286 = .ok (.invokestatic 40, 3) := by decide +kernel
theorem dL_isLine_289 : decode cL_isLine 289 = .ok (.if_icmp .ne 22, 3) := by decide +kernel
theorem dL_isLine_292 : decode cL_isLine 292 = .ok (.aload_n 0, 1) := by decide +kernel
theorem dL_isLine_293 : decode cL_isLine 293 = .ok (.iload 4, 2) := by decide +kernel
theorem dL_isLine_295 : decode cL_isLine 295 = .ok (.iload 5, 2) := by decide +kernel
theorem dL_isLine_297 : decode cL_isLine 297 = .ok (.bipush 7, 2) := by decide +kernel
theorem dL_isLine_299 : decode cL_isLine 299 = .ok (.invokevirtual 67, 3) := by decide +kernel
theorem dL_isLine_302 : decode cL_isLine 302 = .ok (.iload 7, 2) := by decide +kernel
theorem dL_isLine_304 : decode cL_isLine 304 = .ok (.if_icmp .ne 7, 3) := by decide +kernel
theorem dL_isLine_307 : decode cL_isLine 307 = .ok (.iconst 1, 1) := by decide +kernel
theorem dL_isLine_308 : decode cL_isLine 308 = .ok (.goto 4, 3) := by decide +kernel
theorem dL_isLine_311 : decode cL_isLine 311 = .ok (.iconst 0, 1) := by decide +kernel
theorem dL_isLine_312 : decode cL_isLine 312 = .ok (.ireturn, 1) := by decide +kernel
theorem dL_areDoors_0 : decode cL_areDoors 0 = .ok (.iconst 0, 1) := by decide +kernel
theorem dL_areDoors_1 : decode cL_areDoors 1 = .ok (.istore 4, 2) := by decide +kernel
theorem dL_areDoors_3 : decode cL_areDoors 3 = .ok (.iconst 0, 1) := by decide +kernel
theorem dL_areDoors_4 : decode cL_areDoors 4 = .ok (.istore 5, 2) := by decide +kernel
theorem dL_areDoors_6 : decode cL_areDoors 6 = .ok (.iconst 0, 1) := by decide +kernel
theorem dL_areDoors_7 : decode cL_areDoors 7 = .ok (.istore 6, 2) := by decide +kernel
theorem dL_areDoors_9 : decode cL_areDoors 9 = .ok (.iconst 0, 1) := by decide +kernel
theorem dL_areDoors_10 : decode cL_areDoors 10 = .ok (.istore 7, 2) := by decide +kernel
theorem dL_areDoors_12 : decode cL_areDoors 12 = .ok (.iconst 1, 1) := by decide +kernel
theorem dL_areDoors_13 : decode cL_areDoors 13 = .ok (.istore 8, 2) := by decide +kernel
theorem dL_areDoors_15 : decode cL_areDoors 15 = .ok (.iconst 0, 1) := by decide +kernel
theorem dL_areDoors_16 : decode cL_areDoors 16 = .ok (.istore 9, 2) := by decide +kernel
theorem dL_areDoors_18 : decode cL_areDoors 18 = .ok (.iload 9, 2) := by decide +kernel
theorem dL_areDoors_20 : decode cL_areDoors 20 = .ok (.bipush 16, 2) := by decide +kernel
theorem dL_areDoors_22 : decode cL_areDoors 22 = .ok (.if_icmp .ge 41, 3) := by decide +kernel
theorem dL_areDoors_25 : decode cL_areDoors 25 = .ok (.iload 8, 2) := by decide +kernel
theorem dL_areDoors_27 : decode cL_areDoors 27 = .ok (.ifCond .eq 36, 3) := by decide +kernel
theorem dL_areDoors_30 : decode cL_areDoors 30 = .ok (.aload_n 0, 1) := by decide +kernel
theorem dL_areDoors_31 : decode cL_areDoors 31 = .ok (.aload_n 1, 1) := by decide +kernel
theorem dL_areDoors_32 : decode cL_areDoors 32 = .ok (.aload_n 2, 1) := by decide +kernel
theorem dL_areDoors_33 : decode cL_areDoors 33 = .ok (.iload 9, 2) := by decide +kernel
theorem dL_areDoors_35 : decode cL_areDoors 35 = .ok (.invokestatic 74, 3) := by decide +kernel
theorem dL_areDoors_38 : decode cL_areDoors 38 = .ok (.istore 8, 2) := by decide +kernel
theorem dL_areDoors_40 : decode cL_areDoors 40 = .ok (.iload 7, 2) := by decide +kernel
theorem dL_areDoors_42 : decode cL_areDoors 42 = .ok (.aload_n 2, 1) := by decide +kernel
theorem dL_areDoors_43 : decode cL_areDoors 43 = .ok (.iload 9, 2) := by decide +kernel
theorem dL_areDoors_45 : decode cL_areDoors 45 = .ok (.iaload, 1) := by decide +kernel
theorem dL_areDoors_46 : decode cL_areDoors 46 = .ok (.ifCond .ge 7, 3) := by decide +kernel
theorem dL_areDoors_49 : decode cL_areDoors 49 = .ok (.iconst 0, 1) := by decide +kernel
theorem dL_areDoors_50 : decode cL_areDoors 50 = .ok (.goto 4, 3) := by decide +kernel
theorem dL_areDoors_53 : decode cL_areDoors 53 = .ok (.iconst 1, 1) := by decide +kernel
theorem dL_areDoors_54 : decode cL_areDoors 54 = .ok (.iadd, 1) := by decide +kernel
theorem dL_areDoors_55 : decode cL_areDoors 55 = .ok (.istore 7, 2) := by decide +kernel
theorem dL_areDoors_57 : decode cL_areDoors 57 = .ok (.iinc 9 1, 3) := by decide +kernel
theorem dL_areDoors_60 : decode cL_areDoors 60 = .ok (.goto (-42), 3) := by decide +kernel
theorem dL_areDoors_63 : decode cL_areDoors 63 = .ok (.iconst 0, 1) := by decide +kernel
theorem dL_areDoors_64 : decode cL_areDoors 64 = .ok (.istore 9, 2) := by decide +kernel
theorem dL_areDoors_66 : decode cL_areDoors 66 = .ok (.iload 9, 2) := by decide +kernel
theorem dL_areDoors_68 : decode cL_areDoors 68 = .ok (.iconst 4, 1) := by decide +kernel
theorem dL_areDoors_69 : decode cL_areDoors 69 = .ok (.if_icmp .ge 175, 3) := by decide +kernel
theorem dL_areDoors_72 : decode cL_areDoors 72 = .ok (.iload 8, 2) := by decide +kernel
theorem dL_areDoors_74 : decode cL_areDoors 74 = .ok (.ifCond .eq 170, 3) := by decide +kernel
theorem dL_areDoors_77 : decode cL_areDoors 77 = .ok (.iconst 0, 1) := by decide +kernel
theorem dL_areDoors_78 : decode cL_areDoors 78 = .ok (.istore 10, 2) := by decide +kernel
theorem dL_areDoors_80 : decode cL_areDoors 80 = .ok (.iconst 4, 1) := by decide +kernel
theorem dL_areDoors_81 : decode cL_areDoors 81 = .ok (.iload 9, 2) := by decide +kernel
theorem dL_areDoors_83 : decode cL_areDoors 83 = .ok (.imul, 1) := by decide +kernel
theorem dL_areDoors_84 : decode cL_areDoors 84 = .ok (.istore 11, 2) := by decide +kernel
theorem dL_areDoors_86 : decode cL_areDoors 86 = .ok (.iload 11, 2) := by decide +kernel
theorem dL_areDoors_88 : decode cL_areDoors 88 = .ok (.iconst 4, 1) := by decide +kernel
theorem dL_areDoors_89 : decode cL_areDoors 89 = .ok (.iload 9, 2) := by decide +kernel
theorem dL_areDoors_91 : decode cL_areDoors 91 = .ok (.imul, 1) := by decide +kernel
theorem dL_areDoors_92 : decode cL_areDoors 92 = .ok (.iconst 4, 1) := by decide +kernel
theorem dL_areDoors_93 : decode cL_areDoors 93 = .ok (.iadd, 1) := by decide +kernel
theorem dL_areDoors_94 : decode cL_areDoors 94 = .ok (.if_icmp .ge 21, 3) := by decide +kernel
theorem dL_areDoors_97 : decode cL_areDoors 97 = .ok (.iload 10, 2) := by decide +kernel
theorem dL_areDoors_99 : decode cL_areDoors 99 = .ok (.aload_n 1, 1) := by decide +kernel
theorem dL_areDoors_100 : decode cL_areDoors 100 = .ok (.aload_n 2, 1) := by decide +kernel
theorem dL_areDoors_101 : decode cL_areDoors 101 = .ok (.iload 11, 2) := by decide +kernel
theorem dL_areDoors_103 : decode cL_areDoors 103 = .ok (.invokestatic 40, 3) := by decide +kernel
theorem dL_areDoors_106 : decode cL_areDoors 106 = .ok (.iadd, 1) := by decide +kernel
theorem dL_areDoors_107 : decode cL_areDoors 107 = .ok (.istore 10, 2) := by decide +kernel
theorem dL_areDoors_109 : decode cL_areDoors 109 = .ok (.iinc 11 1, 3) := by decide +kernel
theorem dL_areDoors_112 : decode cL_areDoors 112 = .ok (.goto (-26), 3) := by decide +kernel
theorem dL_areDoors_115 : decode cL_areDoors 115 = .ok (.iload 4, 2) := by decide +kernel
theorem dL_areDoors_117 : decode cL_areDoors 117 = .ok (.aload_n 1, 1) := by decide +kernel
theorem dL_areDoors_118 : decode cL_areDoors 118 = .ok (.aload_n 2, 1) := by decide +kernel
theorem dL_areDoors_119 : decode cL_areDoors 119 = .ok (.iload 9, 2) := by decide +kernel
theorem dL_areDoors_121 : decode cL_areDoors 121 = .ok (.invokestatic 46, 3) := by decide +kernel
theorem dL_areDoors_124 : decode cL_areDoors 124 = .ok (.iadd, 1) := by decide +kernel
theorem dL_areDoors_125 : decode cL_areDoors 125 = .ok (.istore 4, 2) := by decide +kernel
theorem dL_areDoors_127 : decode cL_areDoors 127 = .ok (.iload 5, 2) := by decide +kernel
theorem dL_areDoors_129 : decode cL_areDoors 129 = .ok (.aload_n 1, 1) := by decide +kernel
theorem dL_areDoors_130 : decode cL_areDoors 130 = .ok (.iload 9, 2) := by decide +kernel
theorem dL_areDoors_132 : decode cL_areDoors 132 = .ok (.invokestatic 43, 3) := by decide +kernel
theorem dL_areDoors_135 : decode cL_areDoors 135 = .ok (.iadd, 1) := by decide +kernel
theorem dL_areDoors_136 : decode cL_areDoors 136 = .ok (.istore 5, 2) := by decide +kernel
theorem dL_areDoors_138 : decode cL_areDoors 138 = .ok (.iload 6, 2) := by decide +kernel
theorem dL_areDoors_140 : decode cL_areDoors 140 = .ok (.aload_n 3, 1) := by decide +kernel
theorem dL_areDoors_141 : decode cL_areDoors 141 = .ok (.bipush 10, 2) := by decide +kernel
theorem dL_areDoors_143 : decode cL_areDoors 143 = .ok (.iload 9, 2) := by decide +kernel
theorem dL_areDoors_145 : decode cL_areDoors 145 = .ok (.iadd, 1) := by decide +kernel
theorem dL_areDoors_146 : decode cL_areDoors 146 = .ok (.iaload, 1) := by decide +kernel
theorem dL_areDoors_147 : decode cL_areDoors 147 = .ok (.iadd, 1) := by decide +kernel
theorem dL_areDoors_148 : decode cL_areDoors 148 = .ok (.istore 6, 2) := by decide +kernel
theorem dL_areDoors_150 : decode cL_areDoors 150 = .ok (.aload_n 0, 1) := by decide +kernel
theorem dL_areDoors_151 : decode cL_areDoors 151 = .ok (.iload 9, 2) := by decide +kernel
theorem dL_areDoors_153 : decode cL_areDoors 153 = .ok (.iconst 0, 1) := by decide +kernel
theorem dL_areDoors_154 : decode cL_areDoors 154 = .ok (.invokevirtual 78, 3) := by decide +kernel
theorem dL_areDoors_157 : decode cL_areDoors 157 = .ok (.aload_n 1, 1) := by decide +kernel
theorem dL_areDoors_158 : decode cL_areDoors 158 = .ok (.aload_n 2, 1) := by decide +kernel
theorem dL_areDoors_159 : decode cL_areDoors 159 = .ok (.iload 9, 2) := by decide +kernel
theorem dL_areDoors_161 : decode cL_areDoors 161 = .ok (.invokestatic 46, 3) := by decide +kernel
theorem dL_areDoors_164 : decode cL_areDoors 164 = .ok (.if_icmp .ne 71, 3) := by decide +kernel
theorem dL_areDoors_167 : decode cL_areDoors 167 = .ok (.aload_n 0, 1) := by decide +kernel
theorem dL_areDoors_168 : decode cL_areDoors 168 = .ok (.iload 9, 2) := by decide +kernel
end
section
theorem dL_areDoors_170 : decode cL_areDoors 170 = .ok (.iconst 1, 1) := by decide +kernel
theorem dL_areDoors_171 : decode cL_areDoors 171 = .ok (.invokevirtual 78, 3) := by decide +kernel
theorem dL_areDoors_174 : decode cL_areDoors 174 = .ok (.aload_n 1, 1) := by decide +kernel
theorem dL_areDoors_175 : decode cL_areDoors 175 = .ok (.iload 9, 2) := by decide +kernel
theorem dL_areDoors_177 : decode cL_areDoors 177 = .ok (.invokestatic 43, 3) := by decide +kernel
theorem dL_areDoors_180 : decode cL_areDoors 180 = .ok (.if_icmp .ne 55, 3) := by decide +kernel
theorem dL_areDoors_183 : decode cL_areDoors 183 = .ok (.aload_n 0, 1) := by decide +kernel
theorem dL_areDoors_184 : decode cL_areDoors 184 = .ok (.iload 9, 2) := by decide +kernel
theorem dL_areDoors_186 : decode cL_areDoors 186 = .ok (.iconst 2, 1) := by decide +kernel
theorem dL_areDoors_187 : decode cL_areDoors 187 = .ok (.invokevirtual 78, 3) := by decide +kernel
theorem dL_areDoors_190 : decode cL_areDoors 190 = .ok (.iload 10, 2) := by decide +kernel
theorem dL_areDoors_192 : decode cL_areDoors 192 = .ok (.iconst 2, 1) := by decide +kernel
theorem dL_areDoors_193 : decode cL_areDoors 193 = .ok (.idiv, 1) := by decide +kernel
theorem dL_areDoors_194 : decode cL_areDoors 194 = .ok (.if_icmp .ne 41, 3) := by decide +kernel
theorem dL_areDoors_197 : decode cL_areDoors 197 = .ok (.aload_n 0, 1) := by decide +kernel
theorem dL_areDoors_198 : decode cL_areDoors 198 = .ok (.iload 9, 2) := by decide +kernel
theorem dL_areDoors_200 : decode cL_areDoors 200 = .ok (.iconst 3, 1) := by decide +kernel
theorem dL_areDoors_201 : decode cL_areDoors 201 = .ok (.invokevirtual 78, 3) := by decide +kernel
theorem dL_areDoors_204 : decode cL_areDoors 204 = .ok (.aload_n 3, 1) := by decide +kernel
theorem dL_areDoors_205 : decode cL_areDoors 205 = .ok (.bipush 6, 2) := by decide +kernel
theorem dL_areDoors_207 : decode cL_areDoors 207 = .ok (.iload 9, 2) := by decide +kernel
theorem dL_areDoors_209 : decode cL_areDoors 209 = .ok (.iadd, 1) := by decide +kernel
theorem dL_areDoors_210 : decode cL_areDoors 210 = .ok (.iaload, 1) := by decide +kernel
theorem dL_areDoors_211 : decode cL_areDoors 211 = .ok (.if_icmp .ne 24, 3) := by decide +kernel
theorem dL_areDoors_214 : decode cL_areDoors 214 = .ok (.aload_n 0, 1) := by decide +kernel
theorem dL_areDoors_215 : decode cL_areDoors 215 = .ok (.iload 9, 2) := by decide +kernel
theorem dL_areDoors_217 : decode cL_areDoors 217 = .ok (.iconst 4, 1) := by decide +kernel
theorem dL_areDoors_218 : decode cL_areDoors 218 = .ok (.invokevirtual 78, 3) := by decide +kernel
theorem dL_areDoors_221 : decode cL_areDoors 221 = .ok (.aload_n 3, 1) := by decide +kernel
theorem dL_areDoors_222 : decode cL_areDoors 222 = .ok (.bipush 10, 2) := by decide +kernel
theorem dL_areDoors_224 : decode cL_areDoors 224 = .ok (.iload 9, 2) := by decide +kernel
theorem dL_areDoors_226 : decode cL_areDoors 226 = .ok (.iadd, 1) := by decide +kernel
theorem dL_areDoors_227 : decode cL_areDoors 227 = .ok (.iaload, 1) := by decide +kernel
theorem dL_areDoors_228 : decode cL_areDoors 228 = .ok (.if_icmp .ne 7, 3) := by decide +kernel
theorem dL_areDoors_231 : decode cL_areDoors 231 = .ok (.iconst 1, 1) := by decide +kernel
theorem dL_areDoors_232 : decode cL_areDoors 232 = .ok (.goto 4, 3) := by decide +kernel
theorem dL_areDoors_235 : decode cL_areDoors 235 = .ok (.iconst 0, 1) := by decide +kernel
theorem dL_areDoors_236 : decode cL_areDoors 236 = .ok (.istore 8, 2) := by decide +kernel
theorem dL_areDoors_238 : decode cL_areDoors 238 = .ok (.iinc 9 1, 3) := by decide +kernel
theorem dL_areDoors_241 : decode cL_areDoors 241 = .ok (.goto (-175), 3) := by decide +kernel
theorem dL_areDoors_244 : decode cL_areDoors 244 = .ok (.iload 8, 2) := by decide +kernel
theorem dL_areDoors_246 : decode cL_areDoors 246 = .ok (.ifCond .eq 98, 3) := by decide +kernel
theorem dL_areDoors_249 : decode cL_areDoors 249 = .ok (.aload_n 0, 1) := by decide +kernel
theorem dL_areDoors_250 : decode cL_areDoors 250 = .ok (.iconst 0, 1) := by decide +kernel
theorem dL_areDoors_251 : decode cL_areDoors 251 = .ok (.invokevirtual 81, 3) := by decide +kernel
theorem dL_areDoors_254 : decode cL_areDoors 254 = .ok (.bipush 40, 2) := by decide +kernel
theorem dL_areDoors_256 : decode cL_areDoors 256 = .ok (.iload 5, 2) := by decide +kernel
theorem dL_areDoors_258 : decode cL_areDoors 258 = .ok (.isub, 1) := by decide +kernel
theorem dL_areDoors_259 : decode cL_areDoors 259 = .ok (.if_icmp .ne 85, 3) := by decide +kernel
theorem dL_areDoors_262 : decode cL_areDoors 262 = .ok (.aload_n 0, 1) := by decide +kernel
theorem dL_areDoors_263 : decode cL_areDoors 263 = .ok (.iconst 1, 1) := by decide +kernel
theorem dL_areDoors_264 : decode cL_areDoors 264 = .ok (.invokevirtual 81, 3) := by decide +kernel
theorem dL_areDoors_267 : decode cL_areDoors 267 = .ok (.bipush 40, 2) := by decide +kernel
theorem dL_areDoors_269 : decode cL_areDoors 269 = .ok (.iload 5, 2) := by decide +kernel
theorem dL_areDoors_271 : decode cL_areDoors 271 = .ok (.isub, 1) := by decide +kernel
theorem dL_areDoors_272 : decode cL_areDoors 272 = .ok (.if_icmp .ne 72, 3) := by decide +kernel
theorem dL_areDoors_275 : decode cL_areDoors 275 = .ok (.aload_n 0, 1) := by decide +kernel
theorem dL_areDoors_276 : decode cL_areDoors 276 = .ok (.iconst 2, 1) := by decide +kernel
theorem dL_areDoors_277 : decode cL_areDoors 277 = .ok (.invokevirtual 81, 3) := by decide +kernel
theorem dL_areDoors_280 : decode cL_areDoors 280 = .ok (.aload_n 3, 1) := by decide +kernel
theorem dL_areDoors_281 : decode cL_areDoors 281 = .ok (.iconst 3, 1) := by decide +kernel
theorem dL_areDoors_282 : decode cL_areDoors 282 = .ok (.iaload, 1) := by decide +kernel
theorem dL_areDoors_283 : decode cL_areDoors 283 = .ok (.if_icmp .ne 61, 3) := by decide +kernel
theorem dL_areDoors_286 : decode cL_areDoors 286 = .ok (.aload_n 0, 1) := by decide +kernel
theorem dL_areDoors_287 : decode cL_areDoors 287 = .ok (.iconst 3, 1) := by decide +kernel
theorem dL_areDoors_288 : decode cL_areDoors 288 = .ok (.invokevirtual 81, 3) := by decide +kernel
theorem dL_areDoors_291 : decode cL_areDoors 291 = .ok (.iload 6, 2) := by decide +kernel
theorem dL_areDoors_293 : decode cL_areDoors 293 = .ok (.if_icmp .ne 51, 3) := by decide +kernel
theorem dL_areDoors_296 : decode cL_areDoors 296 = .ok (.aload_n 0, 1) := by decide +kernel
theorem dL_areDoors_297 : decode cL_areDoors 297 = .ok (.iconst 4, 1) := by decide +kernel
theorem dL_areDoors_298 : decode cL_areDoors 298 = .ok (.invokevirtual 81, 3) := by decide +kernel
theorem dL_areDoors_301 : decode cL_areDoors 301 = .ok (.aload_n 3, 1) := by decide +kernel
theorem dL_areDoors_302 : decode cL_areDoors 302 = .ok (.iconst 4, 1) := by decide +kernel
theorem dL_areDoors_303 : decode cL_areDoors 303 = .ok (.iaload, 1) := by decide +kernel
theorem dL_areDoors_304 : decode cL_areDoors 304 = .ok (.if_icmp .ne 40, 3) := by decide +kernel
theorem dL_areDoors_307 : decode cL_areDoors 307 = .ok (.aload_n 0, 1) := by decide +kernel
theorem dL_areDoors_308 : decode cL_areDoors 308 = .ok (.iconst 5, 1) := by decide +kernel
theorem dL_areDoors_309 : decode cL_areDoors 309 = .ok (.invokevirtual 81, 3) := by decide +kernel
theorem dL_areDoors_312 : decode cL_areDoors 312 = .ok (.aload_n 3, 1) := by decide +kernel
theorem dL_areDoors_313 : decode cL_areDoors 313 = .ok (.iconst 5, 1) := by decide +kernel
theorem dL_areDoors_314 : decode cL_areDoors 314 = .ok (.iaload, 1) := by decide +kernel
theorem dL_areDoors_315 : decode cL_areDoors 315 = .ok (.if_icmp .ne 29, 3) := by decide +kernel
theorem dL_areDoors_318 : decode cL_areDoors 318 = .ok (.aload_n 0, 1) := by decide +kernel
theorem dL_areDoors_319 : decode cL_areDoors 319 = .ok (.bipush 6, 2) := by decide +kernel
theorem dL_areDoors_321 : decode cL_areDoors 321 = .ok (.invokevirtual 81, 3) := by decide +kernel
theorem dL_areDoors_324 : decode cL_areDoors 324 = .ok (.iload 7, 2) := by decide +kernel
theorem dL_areDoors_326 : decode cL_areDoors 326 = .ok (.if_icmp .ne 18, 3) := by decide +kernel
theorem dL_areDoors_329 : decode cL_areDoors 329 = .ok (.aload_n 0, 1) := by decide +kernel
theorem dL_areDoors_330 : decode cL_areDoors 330 = .ok (.bipush 7, 2) := by decide +kernel
theorem dL_areDoors_332 : decode cL_areDoors 332 = .ok (.invokevirtual 81, 3) := by decide +kernel
theorem dL_areDoors_335 : decode cL_areDoors 335 = .ok (.iload 4, 2) := by decide +kernel
theorem dL_areDoors_337 : decode cL_areDoors 337 = .ok (.if_icmp .ne 7, 3) := by decide +kernel
theorem dL_areDoors_340 : decode cL_areDoors 340 = .ok (.iconst 1, 1) := by decide +kernel
theorem dL_areDoors_341 : decode cL_areDoors 341 = .ok (.goto 4, 3) := by decide +kernel
theorem dL_areDoors_344 : decode cL_areDoors 344 = .ok (.iconst 0, 1) := by decide +kernel
theorem dL_areDoors_345 : decode cL_areDoors 345 = .ok (.istore 8, 2) := by decide +kernel
theorem dL_areDoors_347 : decode cL_areDoors 347 = .ok (.iload 8, 2) := by decide +kernel
theorem dL_areDoors_349 : decode cL_areDoors 349 = .ok (.ifCond .eq 55, 3) := by decide +kernel
theorem dL_areDoors_352 : decode cL_areDoors 352 = .ok (.aload_n 0, 1) := by decide +kernel
theorem dL_areDoors_353 : decode cL_areDoors 353 = .ok (.iconst 0, 1) := by decide +kernel
theorem dL_areDoors_354 : decode cL_areDoors 354 = .ok (.invokevirtual 84, 3) := by decide +kernel
theorem dL_areDoors_357 : decode cL_areDoors 357 = .ok (.aload_n 3, 1) := by decide +kernel
theorem dL_areDoors_358 : decode cL_areDoors 358 = .ok (.iconst 0, 1) := by decide +kernel
theorem dL_areDoors_359 : decode cL_areDoors 359 = .ok (.iaload, 1) := by decide +kernel
theorem dL_areDoors_360 : decode cL_areDoors 360 = .ok (.if_icmp .ne 44, 3) := by decide +kernel
theorem dL_areDoors_363 : decode cL_areDoors 363 = .ok (.aload_n 0, 1) := by decide +kernel
theorem dL_areDoors_364 : decode cL_areDoors 364 = .ok (.iconst 1, 1) := by decide +kernel
theorem dL_areDoors_365 : decode cL_areDoors 365 = .ok (.invokevirtual 84, 3) := by decide +kernel
theorem dL_areDoors_368 : decode cL_areDoors 368 = .ok (.aload_n 3, 1) := by decide +kernel
theorem dL_areDoors_369 : decode cL_areDoors 369 = .ok (.iconst 1, 1) := by decide +kernel
theorem dL_areDoors_370 : decode cL_areDoors 370 = .ok (.iaload, 1) := by decide +kernel
theorem dL_areDoors_371 : decode cL_areDoors 371 = .ok (.if_icmp .ne 33, 3) := by decide +kernel
theorem dL_areDoors_374 : decode cL_areDoors 374 = .ok (.aload_n 0, 1) := by decide +kernel
theorem dL_areDoors_375 : decode cL_areDoors 375 = .ok (.iconst 2, 1) := by decide +kernel
theorem dL_areDoors_376 : decode cL_areDoors 376 = .ok (.invokevirtual 84, 3) := by decide +kernel
theorem dL_areDoors_379 : decode cL_areDoors 379 = .ok (.aload_n 3, 1) := by decide +kernel
theorem dL_areDoors_380 : decode cL_areDoors 380 = .ok (.iconst 2, 1) := by decide +kernel
theorem dL_areDoors_381 : decode cL_areDoors 381 = .ok (.iaload, 1) := by decide +kernel
theorem dL_areDoors_382 : decode cL_areDoors 382 = .ok (.if_icmp .ne 22, 3) := by decide +kernel
theorem dL_areDoors_385 : decode cL_areDoors 385 = .ok (.aload_n 0, 1) := by decide +kernel
theorem dL_areDoors_386 : decode cL_areDoors 386 = .ok (.invokevirtual 87, 3) := by decide +kernel
theorem dL_areDoors_389 : decode cL_areDoors 389 = .ok (.iload 5, 2) := by decide +kernel
theorem dL_areDoors_391 : decode cL_areDoors 391 = .ok (.i2d, 1) := by decide +kernel
theorem dL_areDoors_392 : decode cL_areDoors 392 = .ok (.ldc2_w 91, 3) := by decide +kernel
theorem dL_areDoors_395 : decode cL_areDoors 395 = .ok (.ddiv, 1) := by decide +kernel
theorem dL_areDoors_396 : decode cL_areDoors 396 = .ok (.dcmp .l, 1) := by decide +kernel
theorem dL_areDoors_397 : decode cL_areDoors 397 = .ok (.ifCond .ne 7, 3) := by decide +kernel
theorem dL_areDoors_400 : decode cL_areDoors 400 = .ok (.iconst 1, 1) := by decide +kernel
theorem dL_areDoors_401 : decode cL_areDoors 401 = .ok (.goto 4, 3) := by decide +kernel
theorem dL_areDoors_404 : decode cL_areDoors 404 = .ok (.iconst 0, 1) := by decide +kernel
theorem dL_areDoors_405 : decode cL_areDoors 405 = .ok (.ireturn, 1) := by decide +kernel
theorem dL_bestWord_0 : decode cL_bestWord 0 = .ok (.bipush 40, 2) := by decide +kernel
theorem dL_bestWord_2 : decode cL_bestWord 2 = .ok (.newarray .int, 2) := by decide +kernel
theorem dL_bestWord_4 : decode cL_bestWord 4 = .ok (.astore 4, 2) := by decide +kernel
theorem dL_bestWord_6 : decode cL_bestWord 6 = .ok (.bipush 16, 2) := by decide +kernel
theorem dL_bestWord_8 : decode cL_bestWord 8 = .ok (.newarray .int, 2) := by decide +kernel
theorem dL_bestWord_10 : decode cL_bestWord 10 = .ok (.astore 5, 2) := by decide +kernel
theorem dL_bestWord_12 : decode cL_bestWord 12 = .ok (.iconst (-1), 1) := by decide +kernel
theorem dL_bestWord_13 : decode cL_bestWord 13 = .ok (.istore 6, 2) := by decide +kernel
theorem dL_bestWord_15 : decode cL_bestWord 15 = .ok (.iconst (-1), 1) := by decide +kernel
theorem dL_bestWord_16 : decode cL_bestWord 16 = .ok (.istore 7, 2) := by decide +kernel
theorem dL_bestWord_18 : decode cL_bestWord 18 = .ok (.aload_n 0, 1) := by decide +kernel
theorem dL_bestWord_19 : decode cL_bestWord 19 = .ok (.iload_n 3, 1) := by decide +kernel
theorem dL_bestWord_20 : decode cL_bestWord 20 = .ok (.invokestatic 15, 3) := by decide +kernel
theorem dL_bestWord_23 : decode cL_bestWord 23 = .ok (.istore 8, 2) := by decide +kernel
theorem dL_bestWord_25 : decode cL_bestWord 25 = .ok (.bipush 39, 2) := by decide +kernel
theorem dL_bestWord_27 : decode cL_bestWord 27 = .ok (.istore 9, 2) := by decide +kernel
theorem dL_bestWord_29 : decode cL_bestWord 29 = .ok (.iload 9, 2) := by decide +kernel
theorem dL_bestWord_31 : decode cL_bestWord 31 = .ok (.ifCond .lt 97, 3) := by decide +kernel
theorem dL_bestWord_34 : decode cL_bestWord 34 = .ok (.aload_n 0, 1) := by decide +kernel
theorem dL_bestWord_35 : decode cL_bestWord 35 = .ok (.iload 9, 2) := by decide +kernel
theorem dL_bestWord_37 : decode cL_bestWord 37 = .ok (.iaload, 1) := by decide +kernel
theorem dL_bestWord_38 : decode cL_bestWord 38 = .ok (.ifCond .ge 84, 3) := by decide +kernel
theorem dL_bestWord_41 : decode cL_bestWord 41 = .ok (.aload_n 0, 1) := by decide +kernel
theorem dL_bestWord_42 : decode cL_bestWord 42 = .ok (.aload_n 2, 1) := by decide +kernel
theorem dL_bestWord_43 : decode cL_bestWord 43 = .ok (.iload 9, 2) := by decide +kernel
theorem dL_bestWord_45 : decode cL_bestWord 45 = .ok (.iload_n 3, 1) := by decide +kernel
theorem dL_bestWord_46 : decode cL_bestWord 46 = .ok (.iload 8, 2) := by decide +kernel
theorem dL_bestWord_48 : decode cL_bestWord 48 = .ok (.invokestatic 93, 3) := by decide +kernel
theorem dL_bestWord_51 : decode cL_bestWord 51 = .ok (.ifCond .ne 71, 3) := by decide +kernel
theorem dL_bestWord_54 : decode cL_bestWord 54 = .ok (.aload_n 0, 1) := by decide +kernel
theorem dL_bestWord_55 : decode cL_bestWord 55 = .ok (.aload 4, 2) := by decide +kernel
theorem dL_bestWord_57 : decode cL_bestWord 57 = .ok (.invokestatic 97, 3) := by decide +kernel
theorem dL_bestWord_60 : decode cL_bestWord 60 = .ok (.aload_n 1, 1) := by decide +kernel
theorem dL_bestWord_61 : decode cL_bestWord 61 = .ok (.aload 5, 2) := by decide +kernel
theorem dL_bestWord_63 : decode cL_bestWord 63 = .ok (.invokestatic 97, 3) := by decide +kernel
theorem dL_bestWord_66 : decode cL_bestWord 66 = .ok (.aload 4, 2) := by decide +kernel
theorem dL_bestWord_68 : decode cL_bestWord 68 = .ok (.aload 5, 2) := by decide +kernel
theorem dL_bestWord_70 : decode cL_bestWord 70 = .ok (.iload 9, 2) := by decide +kernel
theorem dL_bestWord_72 : decode cL_bestWord 72 = .ok (.iload_n 3, 1) := by decide +kernel
theorem dL_bestWord_73 : decode cL_bestWord 73 = .ok (.iload 8, 2) := by decide +kernel
theorem dL_bestWord_75 : decode cL_bestWord 75 = .ok (.invokestatic 101, 3) := by decide +kernel
theorem dL_bestWord_78 : decode cL_bestWord 78 = .ok (.aload 4, 2) := by decide +kernel
theorem dL_bestWord_80 : decode cL_bestWord 80 = .ok (.aload 5, 2) := by decide +kernel
theorem dL_bestWord_82 : decode cL_bestWord 82 = .ok (.iload_n 3, 1) := by decide +kernel
theorem dL_bestWord_83 : decode cL_bestWord 83 = .ok (.iconst 4, 1) := by decide +kernel
theorem dL_bestWord_84 : decode cL_bestWord 84 = .ok (.idiv, 1) := by decide +kernel
theorem dL_bestWord_85 : decode cL_bestWord 85 = .ok (.invokestatic 46, 3) := by decide +kernel
theorem dL_bestWord_88 : decode cL_bestWord 88 = .ok (.istore 10, 2) := by decide +kernel
theorem dL_bestWord_90 : decode cL_bestWord 90 = .ok (.iload 10, 2) := by decide +kernel
theorem dL_bestWord_92 : decode cL_bestWord 92 = .ok (.iload 7, 2) := by decide +kernel
theorem dL_bestWord_94 : decode cL_bestWord 94 = .ok (.if_icmp .lt 8, 3) := by decide +kernel
theorem dL_bestWord_97 : decode cL_bestWord 97 = .ok (.iload 9, 2) := by decide +kernel
theorem dL_bestWord_99 : decode cL_bestWord 99 = .ok (.goto 5, 3) := by decide +kernel
theorem dL_bestWord_102 : decode cL_bestWord 102 = .ok (.iload 6, 2) := by decide +kernel
theorem dL_bestWord_104 : decode cL_bestWord 104 = .ok (.istore 6, 2) := by decide +kernel
theorem dL_bestWord_106 : decode cL_bestWord 106 = .ok (.iload 10, 2) := by decide +kernel
theorem dL_bestWord_108 : decode cL_bestWord 108 = .ok (.iload 7, 2) := by decide +kernel
theorem dL_bestWord_110 : decode cL_bestWord 110 = .ok (.if_icmp .lt 8, 3) := by decide +kernel
theorem dL_bestWord_113 : decode cL_bestWord 113 = .ok (.iload 10, 2) := by decide +kernel
theorem dL_bestWord_115 : decode cL_bestWord 115 = .ok (.goto 5, 3) := by decide +kernel
theorem dL_bestWord_118 : decode cL_bestWord 118 = .ok (.iload 7, 2) := by decide +kernel
theorem dL_bestWord_120 : decode cL_bestWord 120 = .ok (.istore 7, 2) := by decide +kernel
theorem dL_bestWord_122 : decode cL_bestWord 122 = .ok (.iinc 9 (-1), 3) := by decide +kernel
theorem dL_bestWord_125 : decode cL_bestWord 125 = .ok (.goto (-96), 3) := by decide +kernel
theorem dL_bestWord_128 : decode cL_bestWord 128 = .ok (.iload 6, 2) := by decide +kernel
theorem dL_bestWord_130 : decode cL_bestWord 130 = .ok (.ireturn, 1) := by decide +kernel
theorem dL_would_0 : decode cL_would 0 = .ok (.iload 5, 2) := by decide +kernel
theorem dL_would_2 : decode cL_would 2 = .ok (.bipush 16, 2) := by decide +kernel
theorem dL_would_4 : decode cL_would 4 = .ok (.invokestatic 105, 3) := by decide +kernel
theorem dL_would_7 : decode cL_would 7 = .ok (.istore 6, 2) := by decide +kernel
theorem dL_would_9 : decode cL_would 9 = .ok (.iload 5, 2) := by decide +kernel
theorem dL_would_11 : decode cL_would 11 = .ok (.iconst 4, 1) := by decide +kernel
theorem dL_would_12 : decode cL_would 12 = .ok (.ishr, 1) := by decide +kernel
theorem dL_would_13 : decode cL_would 13 = .ok (.bipush 40, 2) := by decide +kernel
theorem dL_would_15 : decode cL_would 15 = .ok (.invokestatic 105, 3) := by decide +kernel
theorem dL_would_18 : decode cL_would 18 = .ok (.istore 7, 2) := by decide +kernel
theorem dL_would_20 : decode cL_would 20 = .ok (.iload 5, 2) := by decide +kernel
theorem dL_would_22 : decode cL_would 22 = .ok (.bipush 9, 2) := by decide +kernel
theorem dL_would_24 : decode cL_would 24 = .ok (.ishr, 1) := by decide +kernel
theorem dL_would_25 : decode cL_would 25 = .ok (.aload_n 1, 1) := by decide +kernel
theorem dL_would_26 : decode cL_would 26 = .ok (.iload 6, 2) := by decide +kernel
theorem dL_would_28 : decode cL_would 28 = .ok (.invokestatic 15, 3) := by decide +kernel
theorem dL_would_31 : decode cL_would 31 = .ok (.iconst 1, 1) := by decide +kernel
theorem dL_would_32 : decode cL_would 32 = .ok (.iadd, 1) := by decide +kernel
theorem dL_would_33 : decode cL_would 33 = .ok (.invokestatic 105, 3) := by decide +kernel
theorem dL_would_36 : decode cL_would 36 = .ok (.istore 8, 2) := by decide +kernel
theorem dL_would_38 : decode cL_would 38 = .ok (.aload_n 1, 1) := by decide +kernel
theorem dL_would_39 : decode cL_would 39 = .ok (.iload 7, 2) := by decide +kernel
theorem dL_would_41 : decode cL_would 41 = .ok (.iload 6, 2) := by decide +kernel
theorem dL_would_43 : decode cL_would 43 = .ok (.invokestatic 9, 3) := by decide +kernel
theorem dL_would_46 : decode cL_would 46 = .ok (.ifCond .eq 7, 3) := by decide +kernel
theorem dL_would_49 : decode cL_would 49 = .ok (.iconst (-1), 1) := by decide +kernel
theorem dL_would_50 : decode cL_would 50 = .ok (.goto 14, 3) := by decide +kernel
theorem dL_would_53 : decode cL_would 53 = .ok (.aload_n 1, 1) := by decide +kernel
theorem dL_would_54 : decode cL_would 54 = .ok (.aload_n 3, 1) := by decide +kernel
theorem dL_would_55 : decode cL_would 55 = .ok (.iload 7, 2) := by decide +kernel
theorem dL_would_57 : decode cL_would 57 = .ok (.iload 6, 2) := by decide +kernel
theorem dL_would_59 : decode cL_would 59 = .ok (.iload 8, 2) := by decide +kernel
theorem dL_would_61 : decode cL_would 61 = .ok (.invokestatic 93, 3) := by decide +kernel
theorem dL_would_64 : decode cL_would 64 = .ok (.istore 9, 2) := by decide +kernel
theorem dL_would_66 : decode cL_would 66 = .ok (.aload_n 0, 1) := by decide +kernel
theorem dL_would_67 : decode cL_would 67 = .ok (.iload 7, 2) := by decide +kernel
theorem dL_would_69 : decode cL_would 69 = .ok (.iload 6, 2) := by decide +kernel
theorem dL_would_71 : decode cL_would 71 = .ok (.iconst 4, 1) := by decide +kernel
theorem dL_would_72 : decode cL_would 72 = .ok (.idiv, 1) := by decide +kernel
theorem dL_would_73 : decode cL_would 73 = .ok (.iload 6, 2) := by decide +kernel
theorem dL_would_75 : decode cL_would 75 = .ok (.iconst 4, 1) := by decide +kernel
theorem dL_would_76 : decode cL_would 76 = .ok (.irem, 1) := by decide +kernel
theorem dL_would_77 : decode cL_would 77 = .ok (.iload 8, 2) := by decide +kernel
theorem dL_would_79 : decode cL_would 79 = .ok (.invokevirtual 108, 3) := by decide +kernel
theorem dL_would_82 : decode cL_would 82 = .ok (.iload 9, 2) := by decide +kernel
theorem dL_would_84 : decode cL_would 84 = .ok (.if_icmp .ne 39, 3) := by decide +kernel
theorem dL_would_87 : decode cL_would 87 = .ok (.aload_n 0, 1) := by decide +kernel
theorem dL_would_88 : decode cL_would 88 = .ok (.invokevirtual 112, 3) := by decide +kernel
theorem dL_would_91 : decode cL_would 91 = .ok (.aload_n 1, 1) := by decide +kernel
theorem dL_would_92 : decode cL_would 92 = .ok (.aload_n 2, 1) := by decide +kernel
theorem dL_would_93 : decode cL_would 93 = .ok (.aload_n 3, 1) := by decide +kernel
theorem dL_would_94 : decode cL_would 94 = .ok (.invokestatic 49, 3) := by decide +kernel
theorem dL_would_97 : decode cL_would 97 = .ok (.if_icmp .ne 26, 3) := by decide +kernel
theorem dL_would_100 : decode cL_would 100 = .ok (.aload_n 0, 1) := by decide +kernel
theorem dL_would_101 : decode cL_would 101 = .ok (.iload 6, 2) := by decide +kernel
theorem dL_would_103 : decode cL_would 103 = .ok (.iconst 4, 1) := by decide +kernel
theorem dL_would_104 : decode cL_would 104 = .ok (.idiv, 1) := by decide +kernel
theorem dL_would_105 : decode cL_would 105 = .ok (.iload 6, 2) := by decide +kernel
theorem dL_would_107 : decode cL_would 107 = .ok (.iconst 4, 1) := by decide +kernel
theorem dL_would_108 : decode cL_would 108 = .ok (.irem, 1) := by decide +kernel
theorem dL_would_109 : decode cL_would 109 = .ok (.invokevirtual 115, 3) := by decide +kernel
theorem dL_would_112 : decode cL_would 112 = .ok (.aload_n 1, 1) := by decide +kernel
theorem dL_would_113 : decode cL_would 113 = .ok (.aload_n 2, 1) := by decide +kernel
theorem dL_would_114 : decode cL_would 114 = .ok (.aload_n 3, 1) := by decide +kernel
theorem dL_would_115 : decode cL_would 115 = .ok (.iload 6, 2) := by decide +kernel
theorem dL_would_117 : decode cL_would 117 = .ok (.invokestatic 118, 3) := by decide +kernel
theorem dL_would_120 : decode cL_would 120 = .ok (.if_icmp .eq 5, 3) := by decide +kernel
theorem dL_would_123 : decode cL_would 123 = .ok (.iconst 0, 1) := by decide +kernel
theorem dL_would_124 : decode cL_would 124 = .ok (.ireturn, 1) := by decide +kernel
theorem dL_would_125 : decode cL_would 125 = .ok (.bipush 40, 2) := by decide +kernel
theorem dL_would_127 : decode cL_would 127 = .ok (.newarray .int, 2) := by decide +kernel
theorem dL_would_129 : decode cL_would 129 = .ok (.astore 10, 2) := by decide +kernel
theorem dL_would_131 : decode cL_would 131 = .ok (.bipush 16, 2) := by decide +kernel
theorem dL_would_133 : decode cL_would 133 = .ok (.newarray .int, 2) := by decide +kernel
theorem dL_would_135 : decode cL_would 135 = .ok (.astore 11, 2) := by decide +kernel
theorem dL_would_137 : decode cL_would 137 = .ok (.bipush 14, 2) := by decide +kernel
theorem dL_would_139 : decode cL_would 139 = .ok (.newarray .int, 2) := by decide +kernel
theorem dL_would_141 : decode cL_would 141 = .ok (.astore 12, 2) := by decide +kernel
theorem dL_would_143 : decode cL_would 143 = .ok (.bipush 40, 2) := by decide +kernel
theorem dL_would_145 : decode cL_would 145 = .ok (.newarray .int, 2) := by decide +kernel
theorem dL_would_147 : decode cL_would 147 = .ok (.astore 13, 2) := by decide +kernel
theorem dL_would_149 : decode cL_would 149 = .ok (.aload_n 1, 1) := by decide +kernel
theorem dL_would_150 : decode cL_would 150 = .ok (.aload 10, 2) := by decide +kernel
theorem dL_would_152 : decode cL_would 152 = .ok (.invokestatic 97, 3) := by decide +kernel
theorem dL_would_155 : decode cL_would 155 = .ok (.aload_n 2, 1) := by decide +kernel
theorem dL_would_156 : decode cL_would 156 = .ok (.aload 11, 2) := by decide +kernel
theorem dL_would_158 : decode cL_would 158 = .ok (.invokestatic 97, 3) := by decide +kernel
theorem dL_would_161 : decode cL_would 161 = .ok (.aload_n 3, 1) := by decide +kernel
theorem dL_would_162 : decode cL_would 162 = .ok (.aload 12, 2) := by decide +kernel
theorem dL_would_164 : decode cL_would 164 = .ok (.invokestatic 97, 3) := by decide +kernel
theorem dL_would_167 : decode cL_would 167 = .ok (.aload 4, 2) := by decide +kernel
theorem dL_would_169 : decode cL_would 169 = .ok (.aload 13, 2) := by decide +kernel
theorem dL_would_171 : decode cL_would 171 = .ok (.invokestatic 97, 3) := by decide +kernel
theorem dL_would_174 : decode cL_would 174 = .ok (.iconst 1, 1) := by decide +kernel
theorem dL_would_175 : decode cL_would 175 = .ok (.iload 5, 2) := by decide +kernel
theorem dL_would_177 : decode cL_would 177 = .ok (.bipush 7, 2) := by decide +kernel
theorem dL_would_179 : decode cL_would 179 = .ok (.ishr, 1) := by decide +kernel
theorem dL_would_180 : decode cL_would 180 = .ok (.iload 5, 2) := by decide +kernel
theorem dL_would_182 : decode cL_would 182 = .ok (.bipush 12, 2) := by decide +kernel
theorem dL_would_184 : decode cL_would 184 = .ok (.ishr, 1) := by decide +kernel
theorem dL_would_185 : decode cL_would 185 = .ok (.iconst 4, 1) := by decide +kernel
theorem dL_would_186 : decode cL_would 186 = .ok (.invokestatic 105, 3) := by decide +kernel
theorem dL_would_189 : decode cL_would 189 = .ok (.ifCond .ne 8, 3) := by decide +kernel
theorem dL_would_192 : decode cL_would 192 = .ok (.bipush 20, 2) := by decide +kernel
theorem dL_would_194 : decode cL_would 194 = .ok (.goto 4, 3) := by decide +kernel
theorem dL_would_197 : decode cL_would 197 = .ok (.iconst 4, 1) := by decide +kernel
theorem dL_would_198 : decode cL_would 198 = .ok (.invokestatic 105, 3) := by decide +kernel
theorem dL_would_201 : decode cL_would 201 = .ok (.iadd, 1) := by decide +kernel
theorem dL_would_202 : decode cL_would 202 = .ok (.istore 14, 2) := by decide +kernel
theorem dL_would_204 : decode cL_would 204 = .ok (.iconst 0, 1) := by decide +kernel
theorem dL_would_205 : decode cL_would 205 = .ok (.istore 15, 2) := by decide +kernel
theorem dL_would_207 : decode cL_would 207 = .ok (.iload 15, 2) := by decide +kernel
theorem dL_would_209 : decode cL_would 209 = .ok (.iload 14, 2) := by decide +kernel
theorem dL_would_211 : decode cL_would 211 = .ok (.if_icmp .ge 22, 3) := by decide +kernel
theorem dL_would_214 : decode cL_would 214 = .ok (.aload 10, 2) := by decide +kernel
theorem dL_would_216 : decode cL_would 216 = .ok (.aload 11, 2) := by decide +kernel
theorem dL_would_218 : decode cL_would 218 = .ok (.aload 12, 2) := by decide +kernel
theorem dL_would_220 : decode cL_would 220 = .ok (.aload 13, 2) := by decide +kernel
theorem dL_would_222 : decode cL_would 222 = .ok (.invokestatic 121, 3) := by decide +kernel
theorem dL_would_225 : decode cL_would 225 = .ok (.istore 16, 2) := by decide +kernel
theorem dL_would_227 : decode cL_would 227 = .ok (.iinc 15 1, 3) := by decide +kernel
theorem dL_would_230 : decode cL_would 230 = .ok (.goto (-23), 3) := by decide +kernel
theorem dL_would_233 : decode cL_would 233 = .ok (.iload 5, 2) := by decide +kernel
theorem dL_would_235 : decode cL_would 235 = .ok (.bipush 15, 2) := by decide +kernel
theorem dL_would_237 : decode cL_would 237 = .ok (.ishr, 1) := by decide +kernel
theorem dL_would_238 : decode cL_would 238 = .ok (.iconst 4, 1) := by decide +kernel
theorem dL_would_239 : decode cL_would 239 = .ok (.invokestatic 105, 3) := by decide +kernel
theorem dL_would_242 : decode cL_would 242 = .ok (.istore 15, 2) := by decide +kernel
theorem dL_would_244 : decode cL_would 244 = .ok (.aload_n 0, 1) := by decide +kernel
theorem dL_would_245 : decode cL_would 245 = .ok (.iload 14, 2) := by decide +kernel
theorem dL_would_247 : decode cL_would 247 = .ok (.iload 15, 2) := by decide +kernel
theorem dL_would_249 : decode cL_would 249 = .ok (.invokevirtual 125, 3) := by decide +kernel
theorem dL_would_252 : decode cL_would 252 = .ok (.aload 10, 2) := by decide +kernel
theorem dL_would_254 : decode cL_would 254 = .ok (.aload 11, 2) := by decide +kernel
theorem dL_would_256 : decode cL_would 256 = .ok (.iload 15, 2) := by decide +kernel
theorem dL_would_258 : decode cL_would 258 = .ok (.invokestatic 46, 3) := by decide +kernel
theorem dL_would_261 : decode cL_would 261 = .ok (.if_icmp .ne 7, 3) := by decide +kernel
theorem dL_would_264 : decode cL_would 264 = .ok (.iconst 1, 1) := by decide +kernel
theorem dL_would_265 : decode cL_would 265 = .ok (.goto 4, 3) := by decide +kernel
theorem dL_would_268 : decode cL_would 268 = .ok (.iconst 0, 1) := by decide +kernel
theorem dL_would_269 : decode cL_would 269 = .ok (.ireturn, 1) := by decide +kernel
theorem dL_some_0 : decode cL_some 0 = .ok (.iconst (-1), 1) := by decide +kernel
theorem dL_some_1 : decode cL_some 1 = .ok (.istore_n 3, 1) := by decide +kernel
theorem dL_some_2 : decode cL_some 2 = .ok (.iconst 0, 1) := by decide +kernel
theorem dL_some_3 : decode cL_some 3 = .ok (.istore 4, 2) := by decide +kernel
theorem dL_some_5 : decode cL_some 5 = .ok (.iload 4, 2) := by decide +kernel
theorem dL_some_7 : decode cL_some 7 = .ok (.bipush 40, 2) := by decide +kernel
theorem dL_some_9 : decode cL_some 9 = .ok (.if_icmp .ge 45, 3) := by decide +kernel
theorem dL_some_12 : decode cL_some 12 = .ok (.iload_n 3, 1) := by decide +kernel
theorem dL_some_13 : decode cL_some 13 = .ok (.ifCond .ge 41, 3) := by decide +kernel
theorem dL_some_16 : decode cL_some 16 = .ok (.iload_n 1, 1) := by decide +kernel
theorem dL_some_17 : decode cL_some 17 = .ok (.iload 4, 2) := by decide +kernel
theorem dL_some_19 : decode cL_some 19 = .ok (.iadd, 1) := by decide +kernel
theorem dL_some_20 : decode cL_some 20 = .ok (.bipush 40, 2) := by decide +kernel
theorem dL_some_22 : decode cL_some 22 = .ok (.irem, 1) := by decide +kernel
theorem dL_some_23 : decode cL_some 23 = .ok (.istore 5, 2) := by decide +kernel
theorem dL_some_25 : decode cL_some 25 = .ok (.aload_n 0, 1) := by decide +kernel
theorem dL_some_26 : decode cL_some 26 = .ok (.iload 5, 2) := by decide +kernel
theorem dL_some_28 : decode cL_some 28 = .ok (.iaload, 1) := by decide +kernel
theorem dL_some_29 : decode cL_some 29 = .ok (.ifCond .ge 7, 3) := by decide +kernel
theorem dL_some_32 : decode cL_some 32 = .ok (.iconst 1, 1) := by decide +kernel
theorem dL_some_33 : decode cL_some 33 = .ok (.goto 4, 3) := by decide +kernel
theorem dL_some_36 : decode cL_some 36 = .ok (.iconst 0, 1) := by decide +kernel
theorem dL_some_37 : decode cL_some 37 = .ok (.iload_n 2, 1) := by decide +kernel
theorem dL_some_38 : decode cL_some 38 = .ok (.if_icmp .ne 8, 3) := by decide +kernel
theorem dL_some_41 : decode cL_some 41 = .ok (.iload 5, 2) := by decide +kernel
theorem dL_some_43 : decode cL_some 43 = .ok (.goto 4, 3) := by decide +kernel
theorem dL_some_46 : decode cL_some 46 = .ok (.iload_n 3, 1) := by decide +kernel
theorem dL_some_47 : decode cL_some 47 = .ok (.istore_n 3, 1) := by decide +kernel
theorem dL_some_48 : decode cL_some 48 = .ok (.iinc 4 1, 3) := by decide +kernel
theorem dL_some_51 : decode cL_some 51 = .ok (.goto (-46), 3) := by decide +kernel
theorem dL_some_54 : decode cL_some 54 = .ok (.iload_n 3, 1) := by decide +kernel
theorem dL_some_55 : decode cL_some 55 = .ok (.ireturn, 1) := by decide +kernel
theorem dL_puts_0 : decode cL_puts 0 = .ok (.aload_n 1, 1) := by decide +kernel
theorem dL_puts_1 : decode cL_puts 1 = .ok (.iload 4, 2) := by decide +kernel
theorem dL_puts_3 : decode cL_puts 3 = .ok (.bipush 40, 2) := by decide +kernel
theorem dL_puts_5 : decode cL_puts 5 = .ok (.invokestatic 105, 3) := by decide +kernel
theorem dL_puts_8 : decode cL_puts 8 = .ok (.iconst 1, 1) := by decide +kernel
theorem dL_puts_9 : decode cL_puts 9 = .ok (.invokestatic 128, 3) := by decide +kernel
theorem dL_puts_12 : decode cL_puts 12 = .ok (.istore 6, 2) := by decide +kernel
theorem dL_puts_14 : decode cL_puts 14 = .ok (.iload 4, 2) := by decide +kernel
theorem dL_puts_16 : decode cL_puts 16 = .ok (.bipush 6, 2) := by decide +kernel
theorem dL_puts_18 : decode cL_puts 18 = .ok (.ishr, 1) := by decide +kernel
theorem dL_puts_19 : decode cL_puts 19 = .ok (.iload 4, 2) := by decide +kernel
theorem dL_puts_21 : decode cL_puts 21 = .ok (.bipush 12, 2) := by decide +kernel
theorem dL_puts_23 : decode cL_puts 23 = .ok (.ishr, 1) := by decide +kernel
theorem dL_puts_24 : decode cL_puts 24 = .ok (.iconst 3, 1) := by decide +kernel
theorem dL_puts_25 : decode cL_puts 25 = .ok (.invokestatic 105, 3) := by decide +kernel
theorem dL_puts_28 : decode cL_puts 28 = .ok (.ifCond .ne 8, 3) := by decide +kernel
theorem dL_puts_31 : decode cL_puts 31 = .ok (.bipush 16, 2) := by decide +kernel
theorem dL_puts_33 : decode cL_puts 33 = .ok (.goto 4, 3) := by decide +kernel
theorem dL_puts_36 : decode cL_puts 36 = .ok (.iconst 5, 1) := by decide +kernel
theorem dL_puts_37 : decode cL_puts 37 = .ok (.invokestatic 105, 3) := by decide +kernel
theorem dL_puts_40 : decode cL_puts 40 = .ok (.istore 7, 2) := by decide +kernel
theorem dL_puts_42 : decode cL_puts 42 = .ok (.aload_n 1, 1) := by decide +kernel
theorem dL_puts_43 : decode cL_puts 43 = .ok (.iload 7, 2) := by decide +kernel
theorem dL_puts_45 : decode cL_puts 45 = .ok (.invokestatic 15, 3) := by decide +kernel
theorem dL_puts_48 : decode cL_puts 48 = .ok (.istore 8, 2) := by decide +kernel
theorem dL_puts_50 : decode cL_puts 50 = .ok (.iload 5, 2) := by decide +kernel
theorem dL_puts_52 : decode cL_puts 52 = .ok (.iconst 3, 1) := by decide +kernel
theorem dL_puts_53 : decode cL_puts 53 = .ok (.invokestatic 105, 3) := by decide +kernel
theorem dL_puts_56 : decode cL_puts 56 = .ok (.ifCond .ne 17, 3) := by decide +kernel
theorem dL_puts_59 : decode cL_puts 59 = .ok (.iload 5, 2) := by decide +kernel
theorem dL_puts_61 : decode cL_puts 61 = .ok (.iconst 2, 1) := by decide +kernel
theorem dL_puts_62 : decode cL_puts 62 = .ok (.ishr, 1) := by decide +kernel
theorem dL_puts_63 : decode cL_puts 63 = .ok (.iload 8, 2) := by decide +kernel
theorem dL_puts_65 : decode cL_puts 65 = .ok (.iconst 1, 1) := by decide +kernel
theorem dL_puts_66 : decode cL_puts 66 = .ok (.iadd, 1) := by decide +kernel
theorem dL_puts_67 : decode cL_puts 67 = .ok (.invokestatic 105, 3) := by decide +kernel
theorem dL_puts_70 : decode cL_puts 70 = .ok (.goto 5, 3) := by decide +kernel
theorem dL_puts_73 : decode cL_puts 73 = .ok (.iload 8, 2) := by decide +kernel
theorem dL_puts_75 : decode cL_puts 75 = .ok (.istore 9, 2) := by decide +kernel
theorem dL_puts_77 : decode cL_puts 77 = .ok (.iload 6, 2) := by decide +kernel
theorem dL_puts_79 : decode cL_puts 79 = .ok (.ifCond .ge 17, 3) := by decide +kernel
theorem dL_puts_82 : decode cL_puts 82 = .ok (.aload_n 0, 1) := by decide +kernel
theorem dL_puts_83 : decode cL_puts 83 = .ok (.iconst 0, 1) := by decide +kernel
theorem dL_puts_84 : decode cL_puts 84 = .ok (.invokevirtual 81, 3) := by decide +kernel
theorem dL_puts_87 : decode cL_puts 87 = .ok (.ifCond .ne 7, 3) := by decide +kernel
theorem dL_puts_90 : decode cL_puts 90 = .ok (.iconst 1, 1) := by decide +kernel
theorem dL_puts_91 : decode cL_puts 91 = .ok (.goto 4, 3) := by decide +kernel
theorem dL_puts_94 : decode cL_puts 94 = .ok (.iconst 0, 1) := by decide +kernel
theorem dL_puts_95 : decode cL_puts 95 = .ok (.ireturn, 1) := by decide +kernel
theorem dL_puts_96 : decode cL_puts 96 = .ok (.aload_n 1, 1) := by decide +kernel
theorem dL_puts_97 : decode cL_puts 97 = .ok (.aload_n 3, 1) := by decide +kernel
theorem dL_puts_98 : decode cL_puts 98 = .ok (.iload 6, 2) := by decide +kernel
theorem dL_puts_100 : decode cL_puts 100 = .ok (.iload 7, 2) := by decide +kernel
theorem dL_puts_102 : decode cL_puts 102 = .ok (.iload 9, 2) := by decide +kernel
theorem dL_puts_104 : decode cL_puts 104 = .ok (.invokestatic 93, 3) := by decide +kernel
theorem dL_puts_107 : decode cL_puts 107 = .ok (.istore 10, 2) := by decide +kernel
theorem dL_puts_109 : decode cL_puts 109 = .ok (.iload 10, 2) := by decide +kernel
theorem dL_puts_111 : decode cL_puts 111 = .ok (.ifCond .ne 14, 3) := by decide +kernel
theorem dL_puts_114 : decode cL_puts 114 = .ok (.aload_n 1, 1) := by decide +kernel
theorem dL_puts_115 : decode cL_puts 115 = .ok (.aload_n 2, 1) := by decide +kernel
theorem dL_puts_116 : decode cL_puts 116 = .ok (.iload 6, 2) := by decide +kernel
theorem dL_puts_118 : decode cL_puts 118 = .ok (.iload 7, 2) := by decide +kernel
theorem dL_puts_120 : decode cL_puts 120 = .ok (.iload 9, 2) := by decide +kernel
theorem dL_puts_122 : decode cL_puts 122 = .ok (.invokestatic 101, 3) := by decide +kernel
theorem dL_puts_125 : decode cL_puts 125 = .ok (.aload_n 3, 1) := by decide +kernel
theorem dL_puts_126 : decode cL_puts 126 = .ok (.iload 10, 2) := by decide +kernel
theorem dL_puts_128 : decode cL_puts 128 = .ok (.ifCond .ne 7, 3) := by decide +kernel
theorem dL_puts_131 : decode cL_puts 131 = .ok (.iconst 4, 1) := by decide +kernel
theorem dL_puts_132 : decode cL_puts 132 = .ok (.goto 4, 3) := by decide +kernel
theorem dL_puts_135 : decode cL_puts 135 = .ok (.iconst 5, 1) := by decide +kernel
theorem dL_puts_136 : decode cL_puts 136 = .ok (.dup2, 1) := by decide +kernel
theorem dL_puts_137 : decode cL_puts 137 = .ok (.iaload, 1) := by decide +kernel
theorem dL_puts_138 : decode cL_puts 138 = .ok (.iconst 1, 1) := by decide +kernel
theorem dL_puts_139 : decode cL_puts 139 = .ok (.iadd, 1) := by decide +kernel
theorem dL_puts_140 : decode cL_puts 140 = .ok (.iastore, 1) := by decide +kernel
theorem dL_puts_141 : decode cL_puts 141 = .ok (.aload_n 0, 1) := by decide +kernel
theorem dL_puts_142 : decode cL_puts 142 = .ok (.iload 6, 2) := by decide +kernel
theorem dL_puts_144 : decode cL_puts 144 = .ok (.iload 7, 2) := by decide +kernel
theorem dL_puts_146 : decode cL_puts 146 = .ok (.iconst 4, 1) := by decide +kernel
theorem dL_puts_147 : decode cL_puts 147 = .ok (.idiv, 1) := by decide +kernel
theorem dL_puts_148 : decode cL_puts 148 = .ok (.iload 7, 2) := by decide +kernel
theorem dL_puts_150 : decode cL_puts 150 = .ok (.iconst 4, 1) := by decide +kernel
theorem dL_puts_151 : decode cL_puts 151 = .ok (.irem, 1) := by decide +kernel
theorem dL_puts_152 : decode cL_puts 152 = .ok (.iload 9, 2) := by decide +kernel
theorem dL_puts_154 : decode cL_puts 154 = .ok (.invokevirtual 132, 3) := by decide +kernel
theorem dL_puts_157 : decode cL_puts 157 = .ok (.iload 10, 2) := by decide +kernel
theorem dL_puts_159 : decode cL_puts 159 = .ok (.if_icmp .ne 7, 3) := by decide +kernel
theorem dL_puts_162 : decode cL_puts 162 = .ok (.iconst 1, 1) := by decide +kernel
theorem dL_puts_163 : decode cL_puts 163 = .ok (.goto 4, 3) := by decide +kernel
theorem dL_puts_166 : decode cL_puts 166 = .ok (.iconst 0, 1) := by decide +kernel
theorem dL_puts_167 : decode cL_puts 167 = .ok (.ireturn, 1) := by decide +kernel
theorem dL_moves_0 : decode cL_moves 0 = .ok (.aload_n 1, 1) := by decide +kernel
theorem dL_moves_1 : decode cL_moves 1 = .ok (.iload 4, 2) := by decide +kernel
theorem dL_moves_3 : decode cL_moves 3 = .ok (.bipush 40, 2) := by decide +kernel
theorem dL_moves_5 : decode cL_moves 5 = .ok (.invokestatic 105, 3) := by decide +kernel
theorem dL_moves_8 : decode cL_moves 8 = .ok (.iconst 0, 1) := by decide +kernel
theorem dL_moves_9 : decode cL_moves 9 = .ok (.invokestatic 128, 3) := by decide +kernel
theorem dL_moves_12 : decode cL_moves 12 = .ok (.istore 5, 2) := by decide +kernel
theorem dL_moves_14 : decode cL_moves 14 = .ok (.iload 4, 2) := by decide +kernel
theorem dL_moves_16 : decode cL_moves 16 = .ok (.bipush 6, 2) := by decide +kernel
theorem dL_moves_18 : decode cL_moves 18 = .ok (.ishr, 1) := by decide +kernel
theorem dL_moves_19 : decode cL_moves 19 = .ok (.bipush 16, 2) := by decide +kernel
theorem dL_moves_21 : decode cL_moves 21 = .ok (.invokestatic 105, 3) := by decide +kernel
theorem dL_moves_24 : decode cL_moves 24 = .ok (.istore 6, 2) := by decide +kernel
theorem dL_moves_26 : decode cL_moves 26 = .ok (.iload 5, 2) := by decide +kernel
theorem dL_moves_28 : decode cL_moves 28 = .ok (.ifCond .lt 14, 3) := by decide +kernel
theorem dL_moves_31 : decode cL_moves 31 = .ok (.aload_n 1, 1) := by decide +kernel
theorem dL_moves_32 : decode cL_moves 32 = .ok (.iload 5, 2) := by decide +kernel
theorem dL_moves_34 : decode cL_moves 34 = .ok (.iload 6, 2) := by decide +kernel
theorem dL_moves_36 : decode cL_moves 36 = .ok (.invokestatic 9, 3) := by decide +kernel
theorem dL_moves_39 : decode cL_moves 39 = .ok (.ifCond .eq 5, 3) := by decide +kernel
theorem dL_moves_42 : decode cL_moves 42 = .ok (.iconst 1, 1) := by decide +kernel
theorem dL_moves_43 : decode cL_moves 43 = .ok (.ireturn, 1) := by decide +kernel
theorem dL_moves_44 : decode cL_moves 44 = .ok (.aload_n 1, 1) := by decide +kernel
theorem dL_moves_45 : decode cL_moves 45 = .ok (.aload_n 3, 1) := by decide +kernel
theorem dL_moves_46 : decode cL_moves 46 = .ok (.iload 5, 2) := by decide +kernel
theorem dL_moves_48 : decode cL_moves 48 = .ok (.iload 6, 2) := by decide +kernel
theorem dL_moves_50 : decode cL_moves 50 = .ok (.aload_n 1, 1) := by decide +kernel
theorem dL_moves_51 : decode cL_moves 51 = .ok (.iload 6, 2) := by decide +kernel
theorem dL_moves_53 : decode cL_moves 53 = .ok (.invokestatic 15, 3) := by decide +kernel
theorem dL_moves_56 : decode cL_moves 56 = .ok (.invokestatic 93, 3) := by decide +kernel
theorem dL_moves_59 : decode cL_moves 59 = .ok (.istore 7, 2) := by decide +kernel
theorem dL_moves_61 : decode cL_moves 61 = .ok (.iload 7, 2) := by decide +kernel
theorem dL_moves_63 : decode cL_moves 63 = .ok (.ifCond .ne 25, 3) := by decide +kernel
theorem dL_moves_66 : decode cL_moves 66 = .ok (.aload_n 1, 1) := by decide +kernel
theorem dL_moves_67 : decode cL_moves 67 = .ok (.aload_n 2, 1) := by decide +kernel
theorem dL_moves_68 : decode cL_moves 68 = .ok (.iload 5, 2) := by decide +kernel
theorem dL_moves_70 : decode cL_moves 70 = .ok (.invokestatic 53, 3) := by decide +kernel
theorem dL_moves_73 : decode cL_moves 73 = .ok (.aload_n 1, 1) := by decide +kernel
theorem dL_moves_74 : decode cL_moves 74 = .ok (.aload_n 2, 1) := by decide +kernel
theorem dL_moves_75 : decode cL_moves 75 = .ok (.iload 5, 2) := by decide +kernel
theorem dL_moves_77 : decode cL_moves 77 = .ok (.iload 6, 2) := by decide +kernel
theorem dL_moves_79 : decode cL_moves 79 = .ok (.aload_n 1, 1) := by decide +kernel
theorem dL_moves_80 : decode cL_moves 80 = .ok (.iload 6, 2) := by decide +kernel
theorem dL_moves_82 : decode cL_moves 82 = .ok (.invokestatic 15, 3) := by decide +kernel
theorem dL_moves_85 : decode cL_moves 85 = .ok (.invokestatic 101, 3) := by decide +kernel
theorem dL_moves_88 : decode cL_moves 88 = .ok (.aload_n 3, 1) := by decide +kernel
theorem dL_moves_89 : decode cL_moves 89 = .ok (.iload 7, 2) := by decide +kernel
theorem dL_moves_91 : decode cL_moves 91 = .ok (.ifCond .ne 7, 3) := by decide +kernel
theorem dL_moves_94 : decode cL_moves 94 = .ok (.iconst 4, 1) := by decide +kernel
theorem dL_moves_95 : decode cL_moves 95 = .ok (.goto 4, 3) := by decide +kernel
theorem dL_moves_98 : decode cL_moves 98 = .ok (.iconst 5, 1) := by decide +kernel
theorem dL_moves_99 : decode cL_moves 99 = .ok (.dup2, 1) := by decide +kernel
theorem dL_moves_100 : decode cL_moves 100 = .ok (.iaload, 1) := by decide +kernel
theorem dL_moves_101 : decode cL_moves 101 = .ok (.iconst 1, 1) := by decide +kernel
theorem dL_moves_102 : decode cL_moves 102 = .ok (.iadd, 1) := by decide +kernel
theorem dL_moves_103 : decode cL_moves 103 = .ok (.iastore, 1) := by decide +kernel
theorem dL_moves_104 : decode cL_moves 104 = .ok (.aload_n 0, 1) := by decide +kernel
theorem dL_moves_105 : decode cL_moves 105 = .ok (.iload 5, 2) := by decide +kernel
theorem dL_moves_107 : decode cL_moves 107 = .ok (.iload 6, 2) := by decide +kernel
theorem dL_moves_109 : decode cL_moves 109 = .ok (.iconst 4, 1) := by decide +kernel
theorem dL_moves_110 : decode cL_moves 110 = .ok (.idiv, 1) := by decide +kernel
theorem dL_moves_111 : decode cL_moves 111 = .ok (.iload 6, 2) := by decide +kernel
theorem dL_moves_113 : decode cL_moves 113 = .ok (.iconst 4, 1) := by decide +kernel
theorem dL_moves_114 : decode cL_moves 114 = .ok (.irem, 1) := by decide +kernel
theorem dL_moves_115 : decode cL_moves 115 = .ok (.invokevirtual 135, 3) := by decide +kernel
theorem dL_moves_118 : decode cL_moves 118 = .ok (.iload 7, 2) := by decide +kernel
theorem dL_moves_120 : decode cL_moves 120 = .ok (.if_icmp .ne 7, 3) := by decide +kernel
theorem dL_moves_123 : decode cL_moves 123 = .ok (.iconst 1, 1) := by decide +kernel
theorem dL_moves_124 : decode cL_moves 124 = .ok (.goto 4, 3) := by decide +kernel
theorem dL_moves_127 : decode cL_moves 127 = .ok (.iconst 0, 1) := by decide +kernel
theorem dL_moves_128 : decode cL_moves 128 = .ok (.ireturn, 1) := by decide +kernel
theorem dL_takesOff_0 : decode cL_takesOff 0 = .ok (.aload_n 1, 1) := by decide +kernel
theorem dL_takesOff_1 : decode cL_takesOff 1 = .ok (.iload_n 3, 1) := by decide +kernel
theorem dL_takesOff_2 : decode cL_takesOff 2 = .ok (.bipush 40, 2) := by decide +kernel
theorem dL_takesOff_4 : decode cL_takesOff 4 = .ok (.invokestatic 105, 3) := by decide +kernel
theorem dL_takesOff_7 : decode cL_takesOff 7 = .ok (.iconst 0, 1) := by decide +kernel
theorem dL_takesOff_8 : decode cL_takesOff 8 = .ok (.invokestatic 128, 3) := by decide +kernel
theorem dL_takesOff_11 : decode cL_takesOff 11 = .ok (.istore 4, 2) := by decide +kernel
theorem dL_takesOff_13 : decode cL_takesOff 13 = .ok (.iload 4, 2) := by decide +kernel
theorem dL_takesOff_15 : decode cL_takesOff 15 = .ok (.ifCond .ge 19, 3) := by decide +kernel
theorem dL_takesOff_18 : decode cL_takesOff 18 = .ok (.aload_n 0, 1) := by decide +kernel
theorem dL_takesOff_19 : decode cL_takesOff 19 = .ok (.iconst 0, 1) := by decide +kernel
theorem dL_takesOff_20 : decode cL_takesOff 20 = .ok (.invokevirtual 81, 3) := by decide +kernel
theorem dL_takesOff_23 : decode cL_takesOff 23 = .ok (.bipush 40, 2) := by decide +kernel
theorem dL_takesOff_25 : decode cL_takesOff 25 = .ok (.if_icmp .ne 7, 3) := by decide +kernel
theorem dL_takesOff_28 : decode cL_takesOff 28 = .ok (.iconst 1, 1) := by decide +kernel
theorem dL_takesOff_29 : decode cL_takesOff 29 = .ok (.goto 4, 3) := by decide +kernel
theorem dL_takesOff_32 : decode cL_takesOff 32 = .ok (.iconst 0, 1) := by decide +kernel
theorem dL_takesOff_33 : decode cL_takesOff 33 = .ok (.ireturn, 1) := by decide +kernel
theorem dL_takesOff_34 : decode cL_takesOff 34 = .ok (.aload_n 1, 1) := by decide +kernel
theorem dL_takesOff_35 : decode cL_takesOff 35 = .ok (.iload 4, 2) := by decide +kernel
theorem dL_takesOff_37 : decode cL_takesOff 37 = .ok (.iaload, 1) := by decide +kernel
theorem dL_takesOff_38 : decode cL_takesOff 38 = .ok (.bipush 8, 2) := by decide +kernel
theorem dL_takesOff_40 : decode cL_takesOff 40 = .ok (.idiv, 1) := by decide +kernel
theorem dL_takesOff_41 : decode cL_takesOff 41 = .ok (.istore 5, 2) := by decide +kernel
theorem dL_takesOff_43 : decode cL_takesOff 43 = .ok (.aload_n 1, 1) := by decide +kernel
theorem dL_takesOff_44 : decode cL_takesOff 44 = .ok (.aload_n 2, 1) := by decide +kernel
theorem dL_takesOff_45 : decode cL_takesOff 45 = .ok (.iload 4, 2) := by decide +kernel
theorem dL_takesOff_47 : decode cL_takesOff 47 = .ok (.invokestatic 53, 3) := by decide +kernel
theorem dL_takesOff_50 : decode cL_takesOff 50 = .ok (.aload_n 0, 1) := by decide +kernel
theorem dL_takesOff_51 : decode cL_takesOff 51 = .ok (.iload 4, 2) := by decide +kernel
theorem dL_takesOff_53 : decode cL_takesOff 53 = .ok (.invokevirtual 138, 3) := by decide +kernel
theorem dL_takesOff_56 : decode cL_takesOff 56 = .ok (.iload 5, 2) := by decide +kernel
theorem dL_takesOff_58 : decode cL_takesOff 58 = .ok (.invokestatic 70, 3) := by decide +kernel
theorem dL_takesOff_61 : decode cL_takesOff 61 = .ok (.if_icmp .ne 7, 3) := by decide +kernel
theorem dL_takesOff_64 : decode cL_takesOff 64 = .ok (.iconst 1, 1) := by decide +kernel
theorem dL_takesOff_65 : decode cL_takesOff 65 = .ok (.goto 4, 3) := by decide +kernel
theorem dL_takesOff_68 : decode cL_takesOff 68 = .ok (.iconst 0, 1) := by decide +kernel
theorem dL_takesOff_69 : decode cL_takesOff 69 = .ok (.ireturn, 1) := by decide +kernel
theorem dL_clears_0 : decode cL_clears 0 = .ok (.iconst 0, 1) := by decide +kernel
theorem dL_clears_1 : decode cL_clears 1 = .ok (.istore 4, 2) := by decide +kernel
theorem dL_clears_3 : decode cL_clears 3 = .ok (.iconst 0, 1) := by decide +kernel
theorem dL_clears_4 : decode cL_clears 4 = .ok (.istore 5, 2) := by decide +kernel
theorem dL_clears_6 : decode cL_clears 6 = .ok (.iload 5, 2) := by decide +kernel
theorem dL_clears_8 : decode cL_clears 8 = .ok (.bipush 40, 2) := by decide +kernel
theorem dL_clears_10 : decode cL_clears 10 = .ok (.if_icmp .ge 37, 3) := by decide +kernel
theorem dL_clears_13 : decode cL_clears 13 = .ok (.aload_n 1, 1) := by decide +kernel
theorem dL_clears_14 : decode cL_clears 14 = .ok (.iload 5, 2) := by decide +kernel
theorem dL_clears_16 : decode cL_clears 16 = .ok (.iaload, 1) := by decide +kernel
theorem dL_clears_17 : decode cL_clears 17 = .ok (.ifCond .lt 24, 3) := by decide +kernel
theorem dL_clears_20 : decode cL_clears 20 = .ok (.aload_n 1, 1) := by decide +kernel
theorem dL_clears_21 : decode cL_clears 21 = .ok (.iload 5, 2) := by decide +kernel
theorem dL_clears_23 : decode cL_clears 23 = .ok (.iaload, 1) := by decide +kernel
theorem dL_clears_24 : decode cL_clears 24 = .ok (.bipush 32, 2) := by decide +kernel
theorem dL_clears_26 : decode cL_clears 26 = .ok (.idiv, 1) := by decide +kernel
theorem dL_clears_27 : decode cL_clears 27 = .ok (.iload_n 3, 1) := by decide +kernel
theorem dL_clears_28 : decode cL_clears 28 = .ok (.if_icmp .ne 13, 3) := by decide +kernel
theorem dL_clears_31 : decode cL_clears 31 = .ok (.aload_n 1, 1) := by decide +kernel
theorem dL_clears_32 : decode cL_clears 32 = .ok (.aload_n 2, 1) := by decide +kernel
theorem dL_clears_33 : decode cL_clears 33 = .ok (.iload 5, 2) := by decide +kernel
theorem dL_clears_35 : decode cL_clears 35 = .ok (.invokestatic 53, 3) := by decide +kernel
theorem dL_clears_38 : decode cL_clears 38 = .ok (.iinc 4 1, 3) := by decide +kernel
theorem dL_clears_41 : decode cL_clears 41 = .ok (.iinc 5 1, 3) := by decide +kernel
theorem dL_clears_44 : decode cL_clears 44 = .ok (.goto (-38), 3) := by decide +kernel
theorem dL_clears_47 : decode cL_clears 47 = .ok (.aload_n 0, 1) := by decide +kernel
theorem dL_clears_48 : decode cL_clears 48 = .ok (.iload_n 3, 1) := by decide +kernel
theorem dL_clears_49 : decode cL_clears 49 = .ok (.invokevirtual 141, 3) := by decide +kernel
theorem dL_clears_52 : decode cL_clears 52 = .ok (.iload 4, 2) := by decide +kernel
theorem dL_clears_54 : decode cL_clears 54 = .ok (.if_icmp .ne 7, 3) := by decide +kernel
theorem dL_clears_57 : decode cL_clears 57 = .ok (.iconst 1, 1) := by decide +kernel
theorem dL_clears_58 : decode cL_clears 58 = .ok (.goto 4, 3) := by decide +kernel
theorem dL_clears_61 : decode cL_clears 61 = .ok (.iconst 0, 1) := by decide +kernel
theorem dL_clears_62 : decode cL_clears 62 = .ok (.ireturn, 1) := by decide +kernel
theorem dL_isFree_0 : decode cL_isFree 0 = .ok (.aload_n 0, 1) := by decide +kernel
theorem dL_isFree_1 : decode cL_isFree 1 = .ok (.iload_n 2, 1) := by decide +kernel
theorem dL_isFree_2 : decode cL_isFree 2 = .ok (.invokestatic 15, 3) := by decide +kernel
theorem dL_isFree_5 : decode cL_isFree 5 = .ok (.ifCond .le 13, 3) := by decide +kernel
theorem dL_isFree_8 : decode cL_isFree 8 = .ok (.aload_n 1, 1) := by decide +kernel
theorem dL_isFree_9 : decode cL_isFree 9 = .ok (.iload_n 2, 1) := by decide +kernel
theorem dL_isFree_10 : decode cL_isFree 10 = .ok (.iaload, 1) := by decide +kernel
theorem dL_isFree_11 : decode cL_isFree 11 = .ok (.ifCond .ge 7, 3) := by decide +kernel
theorem dL_isFree_14 : decode cL_isFree 14 = .ok (.iconst 1, 1) := by decide +kernel
theorem dL_isFree_15 : decode cL_isFree 15 = .ok (.goto 4, 3) := by decide +kernel
theorem dL_isFree_18 : decode cL_isFree 18 = .ok (.iconst 0, 1) := by decide +kernel
theorem dL_isFree_19 : decode cL_isFree 19 = .ok (.istore_n 3, 1) := by decide +kernel
theorem dL_isFree_20 : decode cL_isFree 20 = .ok (.iconst 0, 1) := by decide +kernel
theorem dL_isFree_21 : decode cL_isFree 21 = .ok (.istore 4, 2) := by decide +kernel
theorem dL_isFree_23 : decode cL_isFree 23 = .ok (.iload 4, 2) := by decide +kernel
theorem dL_isFree_25 : decode cL_isFree 25 = .ok (.bipush 16, 2) := by decide +kernel
theorem dL_isFree_27 : decode cL_isFree 27 = .ok (.if_icmp .ge 27, 3) := by decide +kernel
theorem dL_isFree_30 : decode cL_isFree 30 = .ok (.iload_n 3, 1) := by decide +kernel
theorem dL_isFree_31 : decode cL_isFree 31 = .ok (.ifCond .eq 15, 3) := by decide +kernel
theorem dL_isFree_34 : decode cL_isFree 34 = .ok (.aload_n 1, 1) := by decide +kernel
theorem dL_isFree_35 : decode cL_isFree 35 = .ok (.iload 4, 2) := by decide +kernel
theorem dL_isFree_37 : decode cL_isFree 37 = .ok (.iaload, 1) := by decide +kernel
theorem dL_isFree_38 : decode cL_isFree 38 = .ok (.iload_n 2, 1) := by decide +kernel
theorem dL_isFree_39 : decode cL_isFree 39 = .ok (.if_icmp .eq 7, 3) := by decide +kernel
theorem dL_isFree_42 : decode cL_isFree 42 = .ok (.iconst 1, 1) := by decide +kernel
theorem dL_isFree_43 : decode cL_isFree 43 = .ok (.goto 4, 3) := by decide +kernel
theorem dL_isFree_46 : decode cL_isFree 46 = .ok (.iconst 0, 1) := by decide +kernel
theorem dL_isFree_47 : decode cL_isFree 47 = .ok (.istore_n 3, 1) := by decide +kernel
theorem dL_isFree_48 : decode cL_isFree 48 = .ok (.iinc 4 1, 3) := by decide +kernel
theorem dL_isFree_51 : decode cL_isFree 51 = .ok (.goto (-28), 3) := by decide +kernel
theorem dL_isFree_54 : decode cL_isFree 54 = .ok (.iload_n 3, 1) := by decide +kernel
theorem dL_isFree_55 : decode cL_isFree 55 = .ok (.ireturn, 1) := by decide +kernel
theorem dL_freeLine_0 : decode cL_freeLine 0 = .ok (.iconst (-1), 1) := by decide +kernel
theorem dL_freeLine_1 : decode cL_freeLine 1 = .ok (.istore 5, 2) := by decide +kernel
theorem dL_freeLine_3 : decode cL_freeLine 3 = .ok (.iconst 0, 1) := by decide +kernel
theorem dL_freeLine_4 : decode cL_freeLine 4 = .ok (.istore 6, 2) := by decide +kernel
theorem dL_freeLine_6 : decode cL_freeLine 6 = .ok (.iload 6, 2) := by decide +kernel
theorem dL_freeLine_8 : decode cL_freeLine 8 = .ok (.bipush 16, 2) := by decide +kernel
theorem dL_freeLine_10 : decode cL_freeLine 10 = .ok (.if_icmp .ge 60, 3) := by decide +kernel
theorem dL_freeLine_13 : decode cL_freeLine 13 = .ok (.iload 5, 2) := by decide +kernel
theorem dL_freeLine_15 : decode cL_freeLine 15 = .ok (.ifCond .ge 55, 3) := by decide +kernel
theorem dL_freeLine_18 : decode cL_freeLine 18 = .ok (.iload_n 2, 1) := by decide +kernel
theorem dL_freeLine_19 : decode cL_freeLine 19 = .ok (.iload 6, 2) := by decide +kernel
theorem dL_freeLine_21 : decode cL_freeLine 21 = .ok (.iadd, 1) := by decide +kernel
theorem dL_freeLine_22 : decode cL_freeLine 22 = .ok (.bipush 16, 2) := by decide +kernel
theorem dL_freeLine_24 : decode cL_freeLine 24 = .ok (.irem, 1) := by decide +kernel
theorem dL_freeLine_25 : decode cL_freeLine 25 = .ok (.istore 7, 2) := by decide +kernel
theorem dL_freeLine_27 : decode cL_freeLine 27 = .ok (.iload 7, 2) := by decide +kernel
theorem dL_freeLine_29 : decode cL_freeLine 29 = .ok (.iconst 4, 1) := by decide +kernel
theorem dL_freeLine_30 : decode cL_freeLine 30 = .ok (.idiv, 1) := by decide +kernel
theorem dL_freeLine_31 : decode cL_freeLine 31 = .ok (.iload_n 3, 1) := by decide +kernel
theorem dL_freeLine_32 : decode cL_freeLine 32 = .ok (.if_icmp .ne 7, 3) := by decide +kernel
theorem dL_freeLine_35 : decode cL_freeLine 35 = .ok (.iconst 1, 1) := by decide +kernel
theorem dL_freeLine_36 : decode cL_freeLine 36 = .ok (.goto 4, 3) := by decide +kernel
theorem dL_freeLine_39 : decode cL_freeLine 39 = .ok (.iconst 0, 1) := by decide +kernel
theorem dL_freeLine_40 : decode cL_freeLine 40 = .ok (.iload 4, 2) := by decide +kernel
theorem dL_freeLine_42 : decode cL_freeLine 42 = .ok (.if_icmp .ne 18, 3) := by decide +kernel
theorem dL_freeLine_45 : decode cL_freeLine 45 = .ok (.aload_n 0, 1) := by decide +kernel
theorem dL_freeLine_46 : decode cL_freeLine 46 = .ok (.aload_n 1, 1) := by decide +kernel
theorem dL_freeLine_47 : decode cL_freeLine 47 = .ok (.iload 7, 2) := by decide +kernel
theorem dL_freeLine_49 : decode cL_freeLine 49 = .ok (.invokestatic 144, 3) := by decide +kernel
theorem dL_freeLine_52 : decode cL_freeLine 52 = .ok (.ifCond .eq 8, 3) := by decide +kernel
theorem dL_freeLine_55 : decode cL_freeLine 55 = .ok (.iload 7, 2) := by decide +kernel
theorem dL_freeLine_57 : decode cL_freeLine 57 = .ok (.goto 5, 3) := by decide +kernel
theorem dL_freeLine_60 : decode cL_freeLine 60 = .ok (.iload 5, 2) := by decide +kernel
theorem dL_freeLine_62 : decode cL_freeLine 62 = .ok (.istore 5, 2) := by decide +kernel
theorem dL_freeLine_64 : decode cL_freeLine 64 = .ok (.iinc 6 1, 3) := by decide +kernel
theorem dL_freeLine_67 : decode cL_freeLine 67 = .ok (.goto (-61), 3) := by decide +kernel
theorem dL_freeLine_70 : decode cL_freeLine 70 = .ok (.iload 5, 2) := by decide +kernel
theorem dL_freeLine_72 : decode cL_freeLine 72 = .ok (.ireturn, 1) := by decide +kernel
theorem dL_lends_0 : decode cL_lends 0 = .ok (.aload_n 1, 1) := by decide +kernel
theorem dL_lends_1 : decode cL_lends 1 = .ok (.aload_n 2, 1) := by decide +kernel
theorem dL_lends_2 : decode cL_lends 2 = .ok (.iload_n 3, 1) := by decide +kernel
theorem dL_lends_3 : decode cL_lends 3 = .ok (.bipush 16, 2) := by decide +kernel
theorem dL_lends_5 : decode cL_lends 5 = .ok (.invokestatic 105, 3) := by decide +kernel
theorem dL_lends_8 : decode cL_lends 8 = .ok (.iload_n 3, 1) := by decide +kernel
theorem dL_lends_9 : decode cL_lends 9 = .ok (.iconst 4, 1) := by decide +kernel
theorem dL_lends_10 : decode cL_lends 10 = .ok (.invokestatic 105, 3) := by decide +kernel
theorem dL_lends_13 : decode cL_lends 13 = .ok (.iconst 1, 1) := by decide +kernel
theorem dL_lends_14 : decode cL_lends 14 = .ok (.invokestatic 148, 3) := by decide +kernel
theorem dL_lends_17 : decode cL_lends 17 = .ok (.istore 4, 2) := by decide +kernel
theorem dL_lends_19 : decode cL_lends 19 = .ok (.aload_n 1, 1) := by decide +kernel
theorem dL_lends_20 : decode cL_lends 20 = .ok (.aload_n 2, 1) := by decide +kernel
theorem dL_lends_21 : decode cL_lends 21 = .ok (.iload_n 3, 1) := by decide +kernel
theorem dL_lends_22 : decode cL_lends 22 = .ok (.iconst 4, 1) := by decide +kernel
theorem dL_lends_23 : decode cL_lends 23 = .ok (.ishr, 1) := by decide +kernel
theorem dL_lends_24 : decode cL_lends 24 = .ok (.bipush 16, 2) := by decide +kernel
theorem dL_lends_26 : decode cL_lends 26 = .ok (.invokestatic 105, 3) := by decide +kernel
theorem dL_lends_29 : decode cL_lends 29 = .ok (.iload_n 3, 1) := by decide +kernel
theorem dL_lends_30 : decode cL_lends 30 = .ok (.iconst 4, 1) := by decide +kernel
theorem dL_lends_31 : decode cL_lends 31 = .ok (.invokestatic 105, 3) := by decide +kernel
theorem dL_lends_34 : decode cL_lends 34 = .ok (.iconst 0, 1) := by decide +kernel
theorem dL_lends_35 : decode cL_lends 35 = .ok (.invokestatic 148, 3) := by decide +kernel
theorem dL_lends_38 : decode cL_lends 38 = .ok (.istore 5, 2) := by decide +kernel
theorem dL_lends_40 : decode cL_lends 40 = .ok (.iload 4, 2) := by decide +kernel
theorem dL_lends_42 : decode cL_lends 42 = .ok (.ifCond .lt 8, 3) := by decide +kernel
theorem dL_lends_45 : decode cL_lends 45 = .ok (.iload 5, 2) := by decide +kernel
theorem dL_lends_47 : decode cL_lends 47 = .ok (.ifCond .ge 5, 3) := by decide +kernel
theorem dL_lends_50 : decode cL_lends 50 = .ok (.iconst 1, 1) := by decide +kernel
theorem dL_lends_51 : decode cL_lends 51 = .ok (.ireturn, 1) := by decide +kernel
theorem dL_lends_52 : decode cL_lends 52 = .ok (.aload_n 2, 1) := by decide +kernel
theorem dL_lends_53 : decode cL_lends 53 = .ok (.iload 4, 2) := by decide +kernel
theorem dL_lends_55 : decode cL_lends 55 = .ok (.iload 5, 2) := by decide +kernel
theorem dL_lends_57 : decode cL_lends 57 = .ok (.iastore, 1) := by decide +kernel
theorem dL_lends_58 : decode cL_lends 58 = .ok (.aload_n 0, 1) := by decide +kernel
theorem dL_lends_59 : decode cL_lends 59 = .ok (.iload 4, 2) := by decide +kernel
theorem dL_lends_61 : decode cL_lends 61 = .ok (.iconst 4, 1) := by decide +kernel
theorem dL_lends_62 : decode cL_lends 62 = .ok (.idiv, 1) := by decide +kernel
theorem dL_lends_63 : decode cL_lends 63 = .ok (.iload 4, 2) := by decide +kernel
theorem dL_lends_65 : decode cL_lends 65 = .ok (.iconst 4, 1) := by decide +kernel
theorem dL_lends_66 : decode cL_lends 66 = .ok (.irem, 1) := by decide +kernel
theorem dL_lends_67 : decode cL_lends 67 = .ok (.iload 5, 2) := by decide +kernel
theorem dL_lends_69 : decode cL_lends 69 = .ok (.iconst 4, 1) := by decide +kernel
theorem dL_lends_70 : decode cL_lends 70 = .ok (.idiv, 1) := by decide +kernel
theorem dL_lends_71 : decode cL_lends 71 = .ok (.iload 5, 2) := by decide +kernel
theorem dL_lends_73 : decode cL_lends 73 = .ok (.iconst 4, 1) := by decide +kernel
theorem dL_lends_74 : decode cL_lends 74 = .ok (.irem, 1) := by decide +kernel
theorem dL_lends_75 : decode cL_lends 75 = .ok (.invokevirtual 152, 3) := by decide +kernel
theorem dL_lends_78 : decode cL_lends 78 = .ok (.aload_n 1, 1) := by decide +kernel
theorem dL_lends_79 : decode cL_lends 79 = .ok (.iload 5, 2) := by decide +kernel
theorem dL_lends_81 : decode cL_lends 81 = .ok (.invokestatic 23, 3) := by decide +kernel
theorem dL_lends_84 : decode cL_lends 84 = .ok (.iconst 4, 1) := by decide +kernel
theorem dL_lends_85 : decode cL_lends 85 = .ok (.idiv, 1) := by decide +kernel
theorem dL_lends_86 : decode cL_lends 86 = .ok (.iconst 5, 1) := by decide +kernel
theorem dL_lends_87 : decode cL_lends 87 = .ok (.irem, 1) := by decide +kernel
theorem dL_lends_88 : decode cL_lends 88 = .ok (.if_icmp .ne 7, 3) := by decide +kernel
theorem dL_lends_91 : decode cL_lends 91 = .ok (.iconst 1, 1) := by decide +kernel
theorem dL_lends_92 : decode cL_lends 92 = .ok (.goto 4, 3) := by decide +kernel
theorem dL_lends_95 : decode cL_lends 95 = .ok (.iconst 0, 1) := by decide +kernel
theorem dL_lends_96 : decode cL_lends 96 = .ok (.ireturn, 1) := by decide +kernel
theorem dL_bringsBack_0 : decode cL_bringsBack 0 = .ok (.iconst (-1), 1) := by decide +kernel
theorem dL_bringsBack_1 : decode cL_bringsBack 1 = .ok (.istore 4, 2) := by decide +kernel
theorem dL_bringsBack_3 : decode cL_bringsBack 3 = .ok (.iconst 0, 1) := by decide +kernel
theorem dL_bringsBack_4 : decode cL_bringsBack 4 = .ok (.istore 5, 2) := by decide +kernel
theorem dL_bringsBack_6 : decode cL_bringsBack 6 = .ok (.iload 5, 2) := by decide +kernel
theorem dL_bringsBack_8 : decode cL_bringsBack 8 = .ok (.bipush 16, 2) := by decide +kernel
theorem dL_bringsBack_10 : decode cL_bringsBack 10 = .ok (.if_icmp .ge 49, 3) := by decide +kernel
theorem dL_bringsBack_13 : decode cL_bringsBack 13 = .ok (.iload 4, 2) := by decide +kernel
theorem dL_bringsBack_15 : decode cL_bringsBack 15 = .ok (.ifCond .ge 44, 3) := by decide +kernel
theorem dL_bringsBack_18 : decode cL_bringsBack 18 = .ok (.aload_n 2, 1) := by decide +kernel
theorem dL_bringsBack_19 : decode cL_bringsBack 19 = .ok (.iload_n 3, 1) := by decide +kernel
theorem dL_bringsBack_20 : decode cL_bringsBack 20 = .ok (.bipush 16, 2) := by decide +kernel
theorem dL_bringsBack_22 : decode cL_bringsBack 22 = .ok (.invokestatic 105, 3) := by decide +kernel
theorem dL_bringsBack_25 : decode cL_bringsBack 25 = .ok (.iload 5, 2) := by decide +kernel
theorem dL_bringsBack_27 : decode cL_bringsBack 27 = .ok (.iadd, 1) := by decide +kernel
theorem dL_bringsBack_28 : decode cL_bringsBack 28 = .ok (.bipush 16, 2) := by decide +kernel
theorem dL_bringsBack_30 : decode cL_bringsBack 30 = .ok (.irem, 1) := by decide +kernel
theorem dL_bringsBack_31 : decode cL_bringsBack 31 = .ok (.iaload, 1) := by decide +kernel
theorem dL_bringsBack_32 : decode cL_bringsBack 32 = .ok (.ifCond .ge 7, 3) := by decide +kernel
theorem dL_bringsBack_35 : decode cL_bringsBack 35 = .ok (.iconst (-1), 1) := by decide +kernel
theorem dL_bringsBack_36 : decode cL_bringsBack 36 = .ok (.goto 15, 3) := by decide +kernel
theorem dL_bringsBack_39 : decode cL_bringsBack 39 = .ok (.iload_n 3, 1) := by decide +kernel
theorem dL_bringsBack_40 : decode cL_bringsBack 40 = .ok (.bipush 16, 2) := by decide +kernel
theorem dL_bringsBack_42 : decode cL_bringsBack 42 = .ok (.invokestatic 105, 3) := by decide +kernel
theorem dL_bringsBack_45 : decode cL_bringsBack 45 = .ok (.iload 5, 2) := by decide +kernel
theorem dL_bringsBack_47 : decode cL_bringsBack 47 = .ok (.iadd, 1) := by decide +kernel
theorem dL_bringsBack_48 : decode cL_bringsBack 48 = .ok (.bipush 16, 2) := by decide +kernel
theorem dL_bringsBack_50 : decode cL_bringsBack 50 = .ok (.irem, 1) := by decide +kernel
theorem dL_bringsBack_51 : decode cL_bringsBack 51 = .ok (.istore 4, 2) := by decide +kernel
theorem dL_bringsBack_53 : decode cL_bringsBack 53 = .ok (.iinc 5 1, 3) := by decide +kernel
theorem dL_bringsBack_56 : decode cL_bringsBack 56 = .ok (.goto (-50), 3) := by decide +kernel
theorem dL_bringsBack_59 : decode cL_bringsBack 59 = .ok (.iload 4, 2) := by decide +kernel
theorem dL_bringsBack_61 : decode cL_bringsBack 61 = .ok (.ifCond .ge 18, 3) := by decide +kernel
theorem dL_bringsBack_64 : decode cL_bringsBack 64 = .ok (.aload_n 0, 1) := by decide +kernel
theorem dL_bringsBack_65 : decode cL_bringsBack 65 = .ok (.bipush 6, 2) := by decide +kernel
theorem dL_bringsBack_67 : decode cL_bringsBack 67 = .ok (.invokevirtual 81, 3) := by decide +kernel
theorem dL_bringsBack_70 : decode cL_bringsBack 70 = .ok (.ifCond .ne 7, 3) := by decide +kernel
theorem dL_bringsBack_73 : decode cL_bringsBack 73 = .ok (.iconst 1, 1) := by decide +kernel
theorem dL_bringsBack_74 : decode cL_bringsBack 74 = .ok (.goto 4, 3) := by decide +kernel
theorem dL_bringsBack_77 : decode cL_bringsBack 77 = .ok (.iconst 0, 1) := by decide +kernel
theorem dL_bringsBack_78 : decode cL_bringsBack 78 = .ok (.ireturn, 1) := by decide +kernel
theorem dL_bringsBack_79 : decode cL_bringsBack 79 = .ok (.aload_n 2, 1) := by decide +kernel
theorem dL_bringsBack_80 : decode cL_bringsBack 80 = .ok (.iload 4, 2) := by decide +kernel
theorem dL_bringsBack_82 : decode cL_bringsBack 82 = .ok (.iconst (-1), 1) := by decide +kernel
theorem dL_bringsBack_83 : decode cL_bringsBack 83 = .ok (.iastore, 1) := by decide +kernel
theorem dL_bringsBack_84 : decode cL_bringsBack 84 = .ok (.aload_n 0, 1) := by decide +kernel
theorem dL_bringsBack_85 : decode cL_bringsBack 85 = .ok (.iload 4, 2) := by decide +kernel
theorem dL_bringsBack_87 : decode cL_bringsBack 87 = .ok (.iconst 4, 1) := by decide +kernel
theorem dL_bringsBack_88 : decode cL_bringsBack 88 = .ok (.idiv, 1) := by decide +kernel
theorem dL_bringsBack_89 : decode cL_bringsBack 89 = .ok (.iload 4, 2) := by decide +kernel
theorem dL_bringsBack_91 : decode cL_bringsBack 91 = .ok (.iconst 4, 1) := by decide +kernel
theorem dL_bringsBack_92 : decode cL_bringsBack 92 = .ok (.irem, 1) := by decide +kernel
theorem dL_bringsBack_93 : decode cL_bringsBack 93 = .ok (.invokevirtual 155, 3) := by decide +kernel
theorem dL_bringsBack_96 : decode cL_bringsBack 96 = .ok (.aload_n 1, 1) := by decide +kernel
theorem dL_bringsBack_97 : decode cL_bringsBack 97 = .ok (.iload 4, 2) := by decide +kernel
theorem dL_bringsBack_99 : decode cL_bringsBack 99 = .ok (.invokestatic 23, 3) := by decide +kernel
theorem dL_bringsBack_102 : decode cL_bringsBack 102 = .ok (.iconst 4, 1) := by decide +kernel
theorem dL_bringsBack_103 : decode cL_bringsBack 103 = .ok (.idiv, 1) := by decide +kernel
theorem dL_bringsBack_104 : decode cL_bringsBack 104 = .ok (.iconst 5, 1) := by decide +kernel
theorem dL_bringsBack_105 : decode cL_bringsBack 105 = .ok (.irem, 1) := by decide +kernel
theorem dL_bringsBack_106 : decode cL_bringsBack 106 = .ok (.if_icmp .ne 7, 3) := by decide +kernel
theorem dL_bringsBack_109 : decode cL_bringsBack 109 = .ok (.iconst 1, 1) := by decide +kernel
theorem dL_bringsBack_110 : decode cL_bringsBack 110 = .ok (.goto 4, 3) := by decide +kernel
theorem dL_bringsBack_113 : decode cL_bringsBack 113 = .ok (.iconst 0, 1) := by decide +kernel
theorem dL_bringsBack_114 : decode cL_bringsBack 114 = .ok (.ireturn, 1) := by decide +kernel
theorem dL_sleeps_0 : decode cL_sleeps 0 = .ok (.iconst 0, 1) := by decide +kernel
theorem dL_sleeps_1 : decode cL_sleeps 1 = .ok (.istore 6, 2) := by decide +kernel
theorem dL_sleeps_3 : decode cL_sleeps 3 = .ok (.iconst 0, 1) := by decide +kernel
theorem dL_sleeps_4 : decode cL_sleeps 4 = .ok (.istore 7, 2) := by decide +kernel
theorem dL_sleeps_6 : decode cL_sleeps 6 = .ok (.iload 7, 2) := by decide +kernel
theorem dL_sleeps_8 : decode cL_sleeps 8 = .ok (.iload 5, 2) := by decide +kernel
theorem dL_sleeps_10 : decode cL_sleeps 10 = .ok (.if_icmp .ge 22, 3) := by decide +kernel
theorem dL_sleeps_13 : decode cL_sleeps 13 = .ok (.iload 6, 2) := by decide +kernel
theorem dL_sleeps_15 : decode cL_sleeps 15 = .ok (.aload_n 1, 1) := by decide +kernel
theorem dL_sleeps_16 : decode cL_sleeps 16 = .ok (.aload_n 2, 1) := by decide +kernel
theorem dL_sleeps_17 : decode cL_sleeps 17 = .ok (.aload_n 3, 1) := by decide +kernel
theorem dL_sleeps_18 : decode cL_sleeps 18 = .ok (.aload 4, 2) := by decide +kernel
theorem dL_sleeps_20 : decode cL_sleeps 20 = .ok (.invokestatic 121, 3) := by decide +kernel
theorem dL_sleeps_23 : decode cL_sleeps 23 = .ok (.iadd, 1) := by decide +kernel
theorem dL_sleeps_24 : decode cL_sleeps 24 = .ok (.istore 6, 2) := by decide +kernel
theorem dL_sleeps_26 : decode cL_sleeps 26 = .ok (.iinc 7 1, 3) := by decide +kernel
theorem dL_sleeps_29 : decode cL_sleeps 29 = .ok (.goto (-23), 3) := by decide +kernel
theorem dL_sleeps_32 : decode cL_sleeps 32 = .ok (.aload_n 0, 1) := by decide +kernel
theorem dL_sleeps_33 : decode cL_sleeps 33 = .ok (.iload 5, 2) := by decide +kernel
theorem dL_sleeps_35 : decode cL_sleeps 35 = .ok (.invokevirtual 158, 3) := by decide +kernel
theorem dL_sleeps_38 : decode cL_sleeps 38 = .ok (.iload 6, 2) := by decide +kernel
theorem dL_sleeps_40 : decode cL_sleeps 40 = .ok (.if_icmp .ne 7, 3) := by decide +kernel
theorem dL_sleeps_43 : decode cL_sleeps 43 = .ok (.iconst 1, 1) := by decide +kernel
theorem dL_sleeps_44 : decode cL_sleeps 44 = .ok (.goto 4, 3) := by decide +kernel
theorem dL_sleeps_47 : decode cL_sleeps 47 = .ok (.iconst 0, 1) := by decide +kernel
theorem dL_sleeps_48 : decode cL_sleeps 48 = .ok (.ireturn, 1) := by decide +kernel
theorem dL_sets_0 : decode cL_sets 0 = .ok (.iload_n 2, 1) := by decide +kernel
theorem dL_sets_1 : decode cL_sets 1 = .ok (.iconst 3, 1) := by decide +kernel
theorem dL_sets_2 : decode cL_sets 2 = .ok (.invokestatic 105, 3) := by decide +kernel
theorem dL_sets_5 : decode cL_sets 5 = .ok (.istore_n 3, 1) := by decide +kernel
theorem dL_sets_6 : decode cL_sets 6 = .ok (.aload_n 1, 1) := by decide +kernel
theorem dL_sets_7 : decode cL_sets 7 = .ok (.iload_n 3, 1) := by decide +kernel
theorem dL_sets_8 : decode cL_sets 8 = .ok (.iaload, 1) := by decide +kernel
theorem dL_sets_9 : decode cL_sets 9 = .ok (.istore 4, 2) := by decide +kernel
theorem dL_sets_11 : decode cL_sets 11 = .ok (.aload_n 1, 1) := by decide +kernel
theorem dL_sets_12 : decode cL_sets 12 = .ok (.iload_n 3, 1) := by decide +kernel
theorem dL_sets_13 : decode cL_sets 13 = .ok (.iload_n 3, 1) := by decide +kernel
theorem dL_sets_14 : decode cL_sets 14 = .ok (.ifCond .ne 13, 3) := by decide +kernel
theorem dL_sets_17 : decode cL_sets 17 = .ok (.iload_n 2, 1) := by decide +kernel
theorem dL_sets_18 : decode cL_sets 18 = .ok (.iconst 3, 1) := by decide +kernel
theorem dL_sets_19 : decode cL_sets 19 = .ok (.ishr, 1) := by decide +kernel
theorem dL_sets_20 : decode cL_sets 20 = .ok (.iconst 2, 1) := by decide +kernel
theorem dL_sets_21 : decode cL_sets 21 = .ok (.invokestatic 105, 3) := by decide +kernel
theorem dL_sets_24 : decode cL_sets 24 = .ok (.goto 44, 3) := by decide +kernel
theorem dL_sets_27 : decode cL_sets 27 = .ok (.iload_n 3, 1) := by decide +kernel
theorem dL_sets_28 : decode cL_sets 28 = .ok (.iconst 1, 1) := by decide +kernel
theorem dL_sets_29 : decode cL_sets 29 = .ok (.if_icmp .ne 31, 3) := by decide +kernel
theorem dL_sets_32 : decode cL_sets 32 = .ok (.iload_n 2, 1) := by decide +kernel
theorem dL_sets_33 : decode cL_sets 33 = .ok (.iconst 3, 1) := by decide +kernel
theorem dL_sets_34 : decode cL_sets 34 = .ok (.ishr, 1) := by decide +kernel
theorem dL_sets_35 : decode cL_sets 35 = .ok (.iload_n 2, 1) := by decide +kernel
theorem dL_sets_36 : decode cL_sets 36 = .ok (.bipush 9, 2) := by decide +kernel
theorem dL_sets_38 : decode cL_sets 38 = .ok (.ishr, 1) := by decide +kernel
theorem dL_sets_39 : decode cL_sets 39 = .ok (.iconst 4, 1) := by decide +kernel
theorem dL_sets_40 : decode cL_sets 40 = .ok (.invokestatic 105, 3) := by decide +kernel
theorem dL_sets_43 : decode cL_sets 43 = .ok (.ifCond .ne 9, 3) := by decide +kernel
theorem dL_sets_46 : decode cL_sets 46 = .ok (.sipush 201, 3) := by decide +kernel
theorem dL_sets_49 : decode cL_sets 49 = .ok (.goto 5, 3) := by decide +kernel
theorem dL_sets_52 : decode cL_sets 52 = .ok (.bipush 25, 2) := by decide +kernel
theorem dL_sets_54 : decode cL_sets 54 = .ok (.invokestatic 105, 3) := by decide +kernel
theorem dL_sets_57 : decode cL_sets 57 = .ok (.goto 11, 3) := by decide +kernel
theorem dL_sets_60 : decode cL_sets 60 = .ok (.iload_n 2, 1) := by decide +kernel
theorem dL_sets_61 : decode cL_sets 61 = .ok (.iconst 3, 1) := by decide +kernel
theorem dL_sets_62 : decode cL_sets 62 = .ok (.ishr, 1) := by decide +kernel
theorem dL_sets_63 : decode cL_sets 63 = .ok (.bipush 10, 2) := by decide +kernel
theorem dL_sets_65 : decode cL_sets 65 = .ok (.invokestatic 105, 3) := by decide +kernel
theorem dL_sets_68 : decode cL_sets 68 = .ok (.iastore, 1) := by decide +kernel
theorem dL_sets_69 : decode cL_sets 69 = .ok (.aload_n 0, 1) := by decide +kernel
theorem dL_sets_70 : decode cL_sets 70 = .ok (.iload_n 3, 1) := by decide +kernel
theorem dL_sets_71 : decode cL_sets 71 = .ok (.aload_n 1, 1) := by decide +kernel
theorem dL_sets_72 : decode cL_sets 72 = .ok (.iload_n 3, 1) := by decide +kernel
theorem dL_sets_73 : decode cL_sets 73 = .ok (.iaload, 1) := by decide +kernel
theorem dL_sets_74 : decode cL_sets 74 = .ok (.invokevirtual 161, 3) := by decide +kernel
theorem dL_sets_77 : decode cL_sets 77 = .ok (.iload 4, 2) := by decide +kernel
theorem dL_sets_79 : decode cL_sets 79 = .ok (.if_icmp .ne 7, 3) := by decide +kernel
theorem dL_sets_82 : decode cL_sets 82 = .ok (.iconst 1, 1) := by decide +kernel
theorem dL_sets_83 : decode cL_sets 83 = .ok (.goto 4, 3) := by decide +kernel
theorem dL_sets_86 : decode cL_sets 86 = .ok (.iconst 0, 1) := by decide +kernel
theorem dL_sets_87 : decode cL_sets 87 = .ok (.ireturn, 1) := by decide +kernel
theorem dL_acts_0 : decode cL_acts 0 = .ok (.iload 5, 2) := by decide +kernel
theorem dL_acts_2 : decode cL_acts 2 = .ok (.tableswitch 185 0 14 #[74, 74, 74, 74, 74, 86, 95, 95, 105, 135, 135, 135, 144, 153, 153], 74) := by decide +kernel
theorem dL_acts_76 : decode cL_acts 76 = .ok (.aload_n 0, 1) := by decide +kernel
theorem dL_acts_77 : decode cL_acts 77 = .ok (.aload_n 1, 1) := by decide +kernel
theorem dL_acts_78 : decode cL_acts 78 = .ok (.aload_n 2, 1) := by decide +kernel
theorem dL_acts_79 : decode cL_acts 79 = .ok (.aload_n 3, 1) := by decide +kernel
theorem dL_acts_80 : decode cL_acts 80 = .ok (.iload 6, 2) := by decide +kernel
theorem dL_acts_82 : decode cL_acts 82 = .ok (.iload 7, 2) := by decide +kernel
theorem dL_acts_84 : decode cL_acts 84 = .ok (.invokestatic 164, 3) := by decide +kernel
theorem dL_acts_87 : decode cL_acts 87 = .ok (.ireturn, 1) := by decide +kernel
theorem dL_acts_88 : decode cL_acts 88 = .ok (.aload_n 0, 1) := by decide +kernel
theorem dL_acts_89 : decode cL_acts 89 = .ok (.aload_n 1, 1) := by decide +kernel
theorem dL_acts_90 : decode cL_acts 90 = .ok (.aload_n 2, 1) := by decide +kernel
theorem dL_acts_91 : decode cL_acts 91 = .ok (.iload 6, 2) := by decide +kernel
theorem dL_acts_93 : decode cL_acts 93 = .ok (.invokestatic 168, 3) := by decide +kernel
theorem dL_acts_96 : decode cL_acts 96 = .ok (.ireturn, 1) := by decide +kernel
theorem dL_acts_97 : decode cL_acts 97 = .ok (.aload_n 0, 1) := by decide +kernel
theorem dL_acts_98 : decode cL_acts 98 = .ok (.aload_n 1, 1) := by decide +kernel
theorem dL_acts_99 : decode cL_acts 99 = .ok (.aload_n 2, 1) := by decide +kernel
theorem dL_acts_100 : decode cL_acts 100 = .ok (.aload_n 3, 1) := by decide +kernel
theorem dL_acts_101 : decode cL_acts 101 = .ok (.iload 6, 2) := by decide +kernel
theorem dL_acts_103 : decode cL_acts 103 = .ok (.invokestatic 171, 3) := by decide +kernel
theorem dL_acts_106 : decode cL_acts 106 = .ok (.ireturn, 1) := by decide +kernel
theorem dL_acts_107 : decode cL_acts 107 = .ok (.iload 7, 2) := by decide +kernel
theorem dL_acts_109 : decode cL_acts 109 = .ok (.iconst 3, 1) := by decide +kernel
theorem dL_acts_110 : decode cL_acts 110 = .ok (.invokestatic 105, 3) := by decide +kernel
theorem dL_acts_113 : decode cL_acts 113 = .ok (.ifCond .gt 18, 3) := by decide +kernel
theorem dL_acts_116 : decode cL_acts 116 = .ok (.aload_n 0, 1) := by decide +kernel
theorem dL_acts_117 : decode cL_acts 117 = .ok (.aload_n 1, 1) := by decide +kernel
theorem dL_acts_118 : decode cL_acts 118 = .ok (.aload_n 2, 1) := by decide +kernel
theorem dL_acts_119 : decode cL_acts 119 = .ok (.iload 6, 2) := by decide +kernel
theorem dL_acts_121 : decode cL_acts 121 = .ok (.iconst 4, 1) := by decide +kernel
theorem dL_acts_122 : decode cL_acts 122 = .ok (.invokestatic 105, 3) := by decide +kernel
theorem dL_acts_125 : decode cL_acts 125 = .ok (.invokestatic 175, 3) := by decide +kernel
theorem dL_acts_128 : decode cL_acts 128 = .ok (.ifCond .eq 7, 3) := by decide +kernel
theorem dL_acts_131 : decode cL_acts 131 = .ok (.iconst 1, 1) := by decide +kernel
theorem dL_acts_132 : decode cL_acts 132 = .ok (.goto 4, 3) := by decide +kernel
theorem dL_acts_135 : decode cL_acts 135 = .ok (.iconst 0, 1) := by decide +kernel
theorem dL_acts_136 : decode cL_acts 136 = .ok (.ireturn, 1) := by decide +kernel
theorem dL_acts_137 : decode cL_acts 137 = .ok (.aload_n 0, 1) := by decide +kernel
theorem dL_acts_138 : decode cL_acts 138 = .ok (.aload_n 1, 1) := by decide +kernel
theorem dL_acts_139 : decode cL_acts 139 = .ok (.aload_n 2, 1) := by decide +kernel
theorem dL_acts_140 : decode cL_acts 140 = .ok (.iload 6, 2) := by decide +kernel
theorem dL_acts_142 : decode cL_acts 142 = .ok (.invokestatic 178, 3) := by decide +kernel
theorem dL_acts_145 : decode cL_acts 145 = .ok (.ireturn, 1) := by decide +kernel
theorem dL_acts_146 : decode cL_acts 146 = .ok (.aload_n 0, 1) := by decide +kernel
theorem dL_acts_147 : decode cL_acts 147 = .ok (.aload_n 1, 1) := by decide +kernel
theorem dL_acts_148 : decode cL_acts 148 = .ok (.aload_n 2, 1) := by decide +kernel
theorem dL_acts_149 : decode cL_acts 149 = .ok (.iload 6, 2) := by decide +kernel
theorem dL_acts_151 : decode cL_acts 151 = .ok (.invokestatic 181, 3) := by decide +kernel
theorem dL_acts_154 : decode cL_acts 154 = .ok (.ireturn, 1) := by decide +kernel
theorem dL_acts_155 : decode cL_acts 155 = .ok (.aload_n 0, 1) := by decide +kernel
theorem dL_acts_156 : decode cL_acts 156 = .ok (.aload_n 1, 1) := by decide +kernel
theorem dL_acts_157 : decode cL_acts 157 = .ok (.aload_n 2, 1) := by decide +kernel
theorem dL_acts_158 : decode cL_acts 158 = .ok (.aload_n 3, 1) := by decide +kernel
theorem dL_acts_159 : decode cL_acts 159 = .ok (.aload 4, 2) := by decide +kernel
theorem dL_acts_161 : decode cL_acts 161 = .ok (.iconst 1, 1) := by decide +kernel
theorem dL_acts_162 : decode cL_acts 162 = .ok (.iload 6, 2) := by decide +kernel
theorem dL_acts_164 : decode cL_acts 164 = .ok (.iload 7, 2) := by decide +kernel
theorem dL_acts_166 : decode cL_acts 166 = .ok (.iconst 3, 1) := by decide +kernel
theorem dL_acts_167 : decode cL_acts 167 = .ok (.invokestatic 105, 3) := by decide +kernel
theorem dL_acts_170 : decode cL_acts 170 = .ok (.ifCond .ne 8, 3) := by decide +kernel
theorem dL_acts_173 : decode cL_acts 173 = .ok (.bipush 20, 2) := by decide +kernel
theorem dL_acts_175 : decode cL_acts 175 = .ok (.goto 4, 3) := by decide +kernel
theorem dL_acts_178 : decode cL_acts 178 = .ok (.iconst 3, 1) := by decide +kernel
theorem dL_acts_179 : decode cL_acts 179 = .ok (.invokestatic 105, 3) := by decide +kernel
theorem dL_acts_182 : decode cL_acts 182 = .ok (.iadd, 1) := by decide +kernel
theorem dL_acts_183 : decode cL_acts 183 = .ok (.invokestatic 184, 3) := by decide +kernel
theorem dL_acts_186 : decode cL_acts 186 = .ok (.ireturn, 1) := by decide +kernel
theorem dL_acts_187 : decode cL_acts 187 = .ok (.aload_n 0, 1) := by decide +kernel
theorem dL_acts_188 : decode cL_acts 188 = .ok (.aload_n 3, 1) := by decide +kernel
theorem dL_acts_189 : decode cL_acts 189 = .ok (.iload 6, 2) := by decide +kernel
theorem dL_acts_191 : decode cL_acts 191 = .ok (.invokestatic 188, 3) := by decide +kernel
theorem dL_acts_194 : decode cL_acts 194 = .ok (.ireturn, 1) := by decide +kernel
theorem dL_law_0 : decode cL_law 0 = .ok (.new 58, 3) := by decide +kernel
theorem dL_law_3 : decode cL_law 3 = .ok (.dup, 1) := by decide +kernel
theorem dL_law_4 : decode cL_law 4 = .ok (.invokespecial 192, 3) := by decide +kernel
theorem dL_law_7 : decode cL_law 7 = .ok (.astore_n 1, 1) := by decide +kernel
theorem dL_law_8 : decode cL_law 8 = .ok (.bipush 40, 2) := by decide +kernel
theorem dL_law_10 : decode cL_law 10 = .ok (.newarray .int, 2) := by decide +kernel
theorem dL_law_12 : decode cL_law 12 = .ok (.astore_n 2, 1) := by decide +kernel
theorem dL_law_13 : decode cL_law 13 = .ok (.bipush 16, 2) := by decide +kernel
theorem dL_law_15 : decode cL_law 15 = .ok (.newarray .int, 2) := by decide +kernel
theorem dL_law_17 : decode cL_law 17 = .ok (.astore_n 3, 1) := by decide +kernel
theorem dL_law_18 : decode cL_law 18 = .ok (.bipush 40, 2) := by decide +kernel
theorem dL_law_20 : decode cL_law 20 = .ok (.newarray .int, 2) := by decide +kernel
theorem dL_law_22 : decode cL_law 22 = .ok (.astore 4, 2) := by decide +kernel
theorem dL_law_24 : decode cL_law 24 = .ok (.bipush 14, 2) := by decide +kernel
theorem dL_law_26 : decode cL_law 26 = .ok (.newarray .int, 2) := by decide +kernel
theorem dL_law_28 : decode cL_law 28 = .ok (.astore 5, 2) := by decide +kernel
theorem dL_law_30 : decode cL_law 30 = .ok (.aload 5, 2) := by decide +kernel
theorem dL_law_32 : decode cL_law 32 = .ok (.iconst 1, 1) := by decide +kernel
theorem dL_law_33 : decode cL_law 33 = .ok (.bipush 20, 2) := by decide +kernel
theorem dL_law_35 : decode cL_law 35 = .ok (.iastore, 1) := by decide +kernel
theorem dL_law_36 : decode cL_law 36 = .ok (.aload 5, 2) := by decide +kernel
theorem dL_law_38 : decode cL_law 38 = .ok (.iconst 2, 1) := by decide +kernel
theorem dL_law_39 : decode cL_law 39 = .ok (.iconst 1, 1) := by decide +kernel
theorem dL_law_40 : decode cL_law 40 = .ok (.iastore, 1) := by decide +kernel
theorem dL_law_41 : decode cL_law 41 = .ok (.iconst 0, 1) := by decide +kernel
theorem dL_law_42 : decode cL_law 42 = .ok (.istore 6, 2) := by decide +kernel
theorem dL_law_44 : decode cL_law 44 = .ok (.iload 6, 2) := by decide +kernel
theorem dL_law_46 : decode cL_law 46 = .ok (.bipush 40, 2) := by decide +kernel
theorem dL_law_48 : decode cL_law 48 = .ok (.if_icmp .ge 22, 3) := by decide +kernel
theorem dL_law_51 : decode cL_law 51 = .ok (.aload_n 2, 1) := by decide +kernel
theorem dL_law_52 : decode cL_law 52 = .ok (.iload 6, 2) := by decide +kernel
theorem dL_law_54 : decode cL_law 54 = .ok (.iconst (-1), 1) := by decide +kernel
theorem dL_law_55 : decode cL_law 55 = .ok (.iastore, 1) := by decide +kernel
theorem dL_law_56 : decode cL_law 56 = .ok (.aload_n 3, 1) := by decide +kernel
theorem dL_law_57 : decode cL_law 57 = .ok (.iload 6, 2) := by decide +kernel
theorem dL_law_59 : decode cL_law 59 = .ok (.bipush 16, 2) := by decide +kernel
theorem dL_law_61 : decode cL_law 61 = .ok (.irem, 1) := by decide +kernel
theorem dL_law_62 : decode cL_law 62 = .ok (.iconst (-1), 1) := by decide +kernel
theorem dL_law_63 : decode cL_law 63 = .ok (.iastore, 1) := by decide +kernel
theorem dL_law_64 : decode cL_law 64 = .ok (.iinc 6 1, 3) := by decide +kernel
theorem dL_law_67 : decode cL_law 67 = .ok (.goto (-23), 3) := by decide +kernel
theorem dL_law_70 : decode cL_law 70 = .ok (.aload_n 1, 1) := by decide +kernel
theorem dL_law_71 : decode cL_law 71 = .ok (.aload_n 2, 1) := by decide +kernel
theorem dL_law_72 : decode cL_law 72 = .ok (.aload 4, 2) := by decide +kernel
theorem dL_law_74 : decode cL_law 74 = .ok (.invokestatic 193, 3) := by decide +kernel
theorem dL_law_77 : decode cL_law 77 = .ok (.ifCond .eq 18, 3) := by decide +kernel
theorem dL_law_80 : decode cL_law 80 = .ok (.aload_n 1, 1) := by decide +kernel
theorem dL_law_81 : decode cL_law 81 = .ok (.aload_n 2, 1) := by decide +kernel
theorem dL_law_82 : decode cL_law 82 = .ok (.aload_n 3, 1) := by decide +kernel
theorem dL_law_83 : decode cL_law 83 = .ok (.aload 5, 2) := by decide +kernel
theorem dL_law_85 : decode cL_law 85 = .ok (.invokestatic 197, 3) := by decide +kernel
theorem dL_law_88 : decode cL_law 88 = .ok (.ifCond .eq 7, 3) := by decide +kernel
theorem dL_law_91 : decode cL_law 91 = .ok (.iconst 1, 1) := by decide +kernel
theorem dL_law_92 : decode cL_law 92 = .ok (.goto 4, 3) := by decide +kernel
theorem dL_law_95 : decode cL_law 95 = .ok (.iconst 0, 1) := by decide +kernel
theorem dL_law_96 : decode cL_law 96 = .ok (.istore 6, 2) := by decide +kernel
theorem dL_law_98 : decode cL_law 98 = .ok (.iconst 0, 1) := by decide +kernel
theorem dL_law_99 : decode cL_law 99 = .ok (.istore 7, 2) := by decide +kernel
theorem dL_law_101 : decode cL_law 101 = .ok (.iload 7, 2) := by decide +kernel
theorem dL_law_103 : decode cL_law 103 = .ok (.bipush 40, 2) := by decide +kernel
theorem dL_law_105 : decode cL_law 105 = .ok (.if_icmp .ge 138, 3) := by decide +kernel
theorem dL_law_108 : decode cL_law 108 = .ok (.iload 6, 2) := by decide +kernel
theorem dL_law_110 : decode cL_law 110 = .ok (.ifCond .eq 133, 3) := by decide +kernel
theorem dL_law_113 : decode cL_law 113 = .ok (.aload_n 0, 1) := by decide +kernel
theorem dL_law_114 : decode cL_law 114 = .ok (.iconst 2, 1) := by decide +kernel
theorem dL_law_115 : decode cL_law 115 = .ok (.iload 7, 2) := by decide +kernel
theorem dL_law_117 : decode cL_law 117 = .ok (.imul, 1) := by decide +kernel
theorem dL_law_118 : decode cL_law 118 = .ok (.invokestatic 201, 3) := by decide +kernel
theorem dL_law_121 : decode cL_law 121 = .ok (.istore 8, 2) := by decide +kernel
theorem dL_law_123 : decode cL_law 123 = .ok (.aload_n 0, 1) := by decide +kernel
theorem dL_law_124 : decode cL_law 124 = .ok (.iconst 2, 1) := by decide +kernel
theorem dL_law_125 : decode cL_law 125 = .ok (.iload 7, 2) := by decide +kernel
theorem dL_law_127 : decode cL_law 127 = .ok (.imul, 1) := by decide +kernel
theorem dL_law_128 : decode cL_law 128 = .ok (.iconst 1, 1) := by decide +kernel
theorem dL_law_129 : decode cL_law 129 = .ok (.iadd, 1) := by decide +kernel
theorem dL_law_130 : decode cL_law 130 = .ok (.invokestatic 201, 3) := by decide +kernel
theorem dL_law_133 : decode cL_law 133 = .ok (.istore 9, 2) := by decide +kernel
theorem dL_law_135 : decode cL_law 135 = .ok (.iload 7, 2) := by decide +kernel
theorem dL_law_137 : decode cL_law 137 = .ok (.bipush 14, 2) := by decide +kernel
theorem dL_law_139 : decode cL_law 139 = .ok (.if_icmp .ge 7, 3) := by decide +kernel
theorem dL_law_142 : decode cL_law 142 = .ok (.iconst 0, 1) := by decide +kernel
theorem dL_law_143 : decode cL_law 143 = .ok (.goto 25, 3) := by decide +kernel
theorem dL_law_146 : decode cL_law 146 = .ok (.iload 7, 2) := by decide +kernel
theorem dL_law_148 : decode cL_law 148 = .ok (.bipush 17, 2) := by decide +kernel
theorem dL_law_150 : decode cL_law 150 = .ok (.if_icmp .ge 8, 3) := by decide +kernel
theorem dL_law_153 : decode cL_law 153 = .ok (.bipush 9, 2) := by decide +kernel
theorem dL_law_155 : decode cL_law 155 = .ok (.goto 13, 3) := by decide +kernel
theorem dL_law_158 : decode cL_law 158 = .ok (.iload 8, 2) := by decide +kernel
theorem dL_law_160 : decode cL_law 160 = .ok (.bipush 18, 2) := by decide +kernel
theorem dL_law_162 : decode cL_law 162 = .ok (.ishr, 1) := by decide +kernel
theorem dL_law_163 : decode cL_law 163 = .ok (.bipush 16, 2) := by decide +kernel
theorem dL_law_165 : decode cL_law 165 = .ok (.invokestatic 105, 3) := by decide +kernel
theorem dL_law_168 : decode cL_law 168 = .ok (.istore 10, 2) := by decide +kernel
theorem dL_law_170 : decode cL_law 170 = .ok (.aload_n 1, 1) := by decide +kernel
theorem dL_law_171 : decode cL_law 171 = .ok (.aload_n 2, 1) := by decide +kernel
theorem dL_law_172 : decode cL_law 172 = .ok (.aload_n 3, 1) := by decide +kernel
theorem dL_law_173 : decode cL_law 173 = .ok (.aload 5, 2) := by decide +kernel
theorem dL_law_175 : decode cL_law 175 = .ok (.aload 4, 2) := by decide +kernel
theorem dL_law_177 : decode cL_law 177 = .ok (.iload 10, 2) := by decide +kernel
theorem dL_law_179 : decode cL_law 179 = .ok (.iload 8, 2) := by decide +kernel
theorem dL_law_181 : decode cL_law 181 = .ok (.iload 9, 2) := by decide +kernel
theorem dL_law_183 : decode cL_law 183 = .ok (.invokestatic 204, 3) := by decide +kernel
theorem dL_law_186 : decode cL_law 186 = .ok (.ifCond .eq 48, 3) := by decide +kernel
theorem dL_law_189 : decode cL_law 189 = .ok (.aload_n 1, 1) := by decide +kernel
theorem dL_law_190 : decode cL_law 190 = .ok (.aload_n 2, 1) := by decide +kernel
theorem dL_law_191 : decode cL_law 191 = .ok (.aload 4, 2) := by decide +kernel
theorem dL_law_193 : decode cL_law 193 = .ok (.invokestatic 193, 3) := by decide +kernel
theorem dL_law_196 : decode cL_law 196 = .ok (.ifCond .eq 38, 3) := by decide +kernel
theorem dL_law_199 : decode cL_law 199 = .ok (.aload_n 1, 1) := by decide +kernel
theorem dL_law_200 : decode cL_law 200 = .ok (.aload_n 2, 1) := by decide +kernel
theorem dL_law_201 : decode cL_law 201 = .ok (.aload_n 3, 1) := by decide +kernel
theorem dL_law_202 : decode cL_law 202 = .ok (.aload 5, 2) := by decide +kernel
theorem dL_law_204 : decode cL_law 204 = .ok (.invokestatic 197, 3) := by decide +kernel
theorem dL_law_207 : decode cL_law 207 = .ok (.ifCond .eq 27, 3) := by decide +kernel
theorem dL_law_210 : decode cL_law 210 = .ok (.aload_n 1, 1) := by decide +kernel
theorem dL_law_211 : decode cL_law 211 = .ok (.aload_n 2, 1) := by decide +kernel
theorem dL_law_212 : decode cL_law 212 = .ok (.aload_n 3, 1) := by decide +kernel
theorem dL_law_213 : decode cL_law 213 = .ok (.aload 5, 2) := by decide +kernel
theorem dL_law_215 : decode cL_law 215 = .ok (.aload 4, 2) := by decide +kernel
theorem dL_law_217 : decode cL_law 217 = .ok (.iload 9, 2) := by decide +kernel
theorem dL_law_219 : decode cL_law 219 = .ok (.iconst 3, 1) := by decide +kernel
theorem dL_law_220 : decode cL_law 220 = .ok (.ishr, 1) := by decide +kernel
theorem dL_law_221 : decode cL_law 221 = .ok (.iload 8, 2) := by decide +kernel
theorem dL_law_223 : decode cL_law 223 = .ok (.ixor, 1) := by decide +kernel
theorem dL_law_224 : decode cL_law 224 = .ok (.invokestatic 208, 3) := by decide +kernel
theorem dL_law_227 : decode cL_law 227 = .ok (.ifCond .eq 7, 3) := by decide +kernel
theorem dL_law_230 : decode cL_law 230 = .ok (.iconst 1, 1) := by decide +kernel
theorem dL_law_231 : decode cL_law 231 = .ok (.goto 4, 3) := by decide +kernel
theorem dL_law_234 : decode cL_law 234 = .ok (.iconst 0, 1) := by decide +kernel
theorem dL_law_235 : decode cL_law 235 = .ok (.istore 6, 2) := by decide +kernel
theorem dL_law_237 : decode cL_law 237 = .ok (.iinc 7 1, 3) := by decide +kernel
theorem dL_law_240 : decode cL_law 240 = .ok (.goto (-139), 3) := by decide +kernel
theorem dL_law_243 : decode cL_law 243 = .ok (.iload 6, 2) := by decide +kernel
theorem dL_law_245 : decode cL_law 245 = .ok (.ireturn, 1) := by decide +kernel
end
section
/-- all words of the tables that a method may be told again -/
def WG : List Cond := lw_tbl.filter goodWord
theorem WG_in {w : Cond} {l : List Cond} (i : Nat) (hl : lw_tbl = l) (h : l[i]? = some w) (hg : goodWord w = true) : w ∈ WG := List.mem_filter.mpr ⟨hl ▸ List.mem_of_getElem? h, hg⟩
theorem WG_a {w : Cond} (h : w ∈ lw_tbl) (hg : goodWord w = true) : w ∈ WG := List.mem_filter.mpr ⟨h, hg⟩
theorem WG_t1 {w : Cond} (h : w ∈ tables_1_1) (hg : goodWord w = true) : w ∈ WG := WG_a (List.mem_append_right _ (List.mem_append_left _ h)) hg
theorem WG_t2 {w : Cond} (h : w ∈ tables_1_2) (hg : goodWord w = true) : w ∈ WG := WG_a (List.mem_append_right _ (List.mem_append_right _ (List.mem_append_left _ h))) hg
theorem WG_t3 {w : Cond} (h : w ∈ tables_1_3) (hg : goodWord w = true) : w ∈ WG := WG_a (List.mem_append_right _ (List.mem_append_right _ (List.mem_append_right _ (h)))) hg
theorem WG_p {w : Cond} (h : w ∈ k2_sels lw_privs) (hg : goodWord w = true) : w ∈ WG := WG_a (List.mem_append_left _ h) hg
theorem wd_0 : (Cond.selects "java/lang/Throwable" ⟨"java/lang/Throwable", "fillInStackTrace", "(I)Ljava/lang/Throwable;"⟩ ⟨"java/lang/Throwable", "fillInStackTrace", "(I)Ljava/lang/Throwable;"⟩) ∈ WG := WG_p (List.mem_of_getElem? (i := 0) (by decide +kernel)) rfl
theorem wd_1 : (Cond.selects "MagnetPoems$Board" yX0_clashes yX0_clashes) ∈ WG := WG_p (List.mem_of_getElem? (i := 1) (by decide +kernel)) rfl
theorem wd_2 : (Cond.selects "MagnetPoems" yX3_numberOf yX3_numberOf) ∈ WG := WG_p (List.mem_of_getElem? (i := 2) (by decide +kernel)) rfl
theorem wd_3 : (Cond.selects "MagnetPoems" yX3_share yX3_share) ∈ WG := WG_p (List.mem_of_getElem? (i := 3) (by decide +kernel)) rfl
theorem wd_4 : (Cond.selects "MagnetPoems" yX3_isPlaceToPut yX3_isPlaceToPut) ∈ WG := WG_p (List.mem_of_getElem? (i := 4) (by decide +kernel)) rfl
theorem wd_5 : (Cond.selects "MagnetPoems$Board" yX0_wouldClash yX0_wouldClash) ∈ WG := WG_p (List.mem_of_getElem? (i := 5) (by decide +kernel)) rfl
theorem wd_6 : (Cond.selects "MagnetPoems$Board" yX0_doorOfThief yX0_doorOfThief) ∈ WG := WG_p (List.mem_of_getElem? (i := 6) (by decide +kernel)) rfl
theorem wd_7 : (Cond.selects "MagnetPoems$Board" yX0_preyOn yX0_preyOn) ∈ WG := WG_p (List.mem_of_getElem? (i := 7) (by decide +kernel)) rfl
theorem wd_8 : (Cond.selects "MagnetPoems$Board" yX0_watchOneNightFewer yX0_watchOneNightFewer) ∈ WG := WG_p (List.mem_of_getElem? (i := 8) (by decide +kernel)) rfl
theorem wd_9 : (Cond.selects "MagnetPoems$Board" yX0_steal yX0_steal) ∈ WG := WG_p (List.mem_of_getElem? (i := 9) (by decide +kernel)) rfl
theorem wd_10 : (Cond.selects "MagnetPoems$Board" yX0_endLoansOf yX0_endLoansOf) ∈ WG := WG_p (List.mem_of_getElem? (i := 10) (by decide +kernel)) rfl
theorem wd_11 : (Cond.selects "MagnetPoems$History" yX1_stateAt yX1_stateAt) ∈ WG := WG_p (List.mem_of_getElem? (i := 11) (by decide +kernel)) rfl
theorem wd_12 : (Cond.initialized "MagnetPoemsLaw") ∈ WG := WG_t1 (List.mem_of_getElem? (i := 0) (by decide +kernel)) rfl
theorem wd_13 : (Cond.initialized "MagnetPoems") ∈ WG := WG_t1 (List.mem_of_getElem? (i := 1) (by decide +kernel)) rfl
theorem wd_14 : (Cond.initialized "MagnetPoems$Board") ∈ WG := WG_t1 (List.mem_of_getElem? (i := 2) (by decide +kernel)) rfl
theorem wd_15 : (Cond.initialized "MagnetPoems$History") ∈ WG := WG_t1 (List.mem_of_getElem? (i := 3) (by decide +kernel)) rfl
theorem wd_16 : (Cond.initialized "MagnetPoems$PoemReader") ∈ WG := WG_t1 (List.mem_of_getElem? (i := 4) (by decide +kernel)) rfl
theorem wd_17 : (Cond.initialized "java/lang/Throwable") ∈ WG := WG_t1 (List.mem_of_getElem? (i := 5) (by decide +kernel)) rfl
theorem wd_18 : (Cond.initialized "java/lang/Exception") ∈ WG := WG_t1 (List.mem_of_getElem? (i := 6) (by decide +kernel)) rfl
theorem wd_19 : (Cond.initialized "java/lang/RuntimeException") ∈ WG := WG_t1 (List.mem_of_getElem? (i := 7) (by decide +kernel)) rfl
theorem wd_20 : (Cond.initialized "java/lang/IndexOutOfBoundsException") ∈ WG := WG_t1 (List.mem_of_getElem? (i := 8) (by decide +kernel)) rfl
theorem wd_21 : (Cond.initialized "java/lang/IllegalArgumentException") ∈ WG := WG_t1 (List.mem_of_getElem? (i := 9) (by decide +kernel)) rfl
theorem wd_22 : (Cond.initialized "java/lang/IllegalStateException") ∈ WG := WG_t1 (List.mem_of_getElem? (i := 10) (by decide +kernel)) rfl
theorem wd_23 : (Cond.classLink "MagnetPoemsLaw" 58 "MagnetPoems") ∈ WG := WG_t1 (List.mem_of_getElem? (i := 11) (by decide +kernel)) rfl
theorem wd_24 : (Cond.instantiable "MagnetPoems" 8) ∈ WG := WG_t1 (List.mem_of_getElem? (i := 12) (by decide +kernel)) rfl
theorem wd_25 : (Cond.methodLink "MagnetPoemsLaw" 192 yX3_init) ∈ WG := WG_t1 (List.mem_of_getElem? (i := 13) (by decide +kernel)) rfl
theorem wd_26 : (Cond.instanceMethod yX3_init) ∈ WG := WG_t1 (List.mem_of_getElem? (i := 14) (by decide +kernel)) rfl
theorem wd_27 : (Cond.code yX3_init prog_1_method_1_code 2 (Option.none : Option FieldType)) ∈ WG := WG_t1 (List.mem_of_getElem? (i := 15) (rfl)) rfl
theorem wd_28 : (Cond.methodLink "MagnetPoems" 1 ⟨"java/lang/Object", "<init>", "()V"⟩) ∈ WG := WG_t1 (List.mem_of_getElem? (i := 16) (by decide +kernel)) rfl
theorem wd_29 : (Cond.instanceMethod ⟨"java/lang/Object", "<init>", "()V"⟩) ∈ WG := WG_t1 (List.mem_of_getElem? (i := 17) (by decide +kernel)) rfl
theorem wd_30 : (Cond.code ⟨"java/lang/Object", "<init>", "()V"⟩ object_method_1_code 1 (Option.none : Option FieldType)) ∈ WG := WG_t1 (List.mem_of_getElem? (i := 18) (rfl)) rfl
theorem wd_31 : (Cond.classLink "MagnetPoems" 7 "MagnetPoems$Board") ∈ WG := WG_t1 (List.mem_of_getElem? (i := 19) (by decide +kernel)) rfl
theorem wd_32 : (Cond.instantiable "MagnetPoems$Board" 13) ∈ WG := WG_t1 (List.mem_of_getElem? (i := 20) (by decide +kernel)) rfl
theorem wd_33 : (Cond.methodLink "MagnetPoems" 9 yX0_init) ∈ WG := WG_t1 (List.mem_of_getElem? (i := 21) (by decide +kernel)) rfl
theorem wd_34 : (Cond.instanceMethod yX0_init) ∈ WG := WG_t1 (List.mem_of_getElem? (i := 22) (by decide +kernel)) rfl
theorem wd_35 : (Cond.code yX0_init prog_2_method_1_code 1 (Option.none : Option FieldType)) ∈ WG := WG_t1 (List.mem_of_getElem? (i := 23) (rfl)) rfl
theorem wd_36 : (Cond.methodLink "MagnetPoems$Board" 3 ⟨"java/lang/Object", "<init>", "()V"⟩) ∈ WG := WG_t1 (List.mem_of_getElem? (i := 24) (by decide +kernel)) rfl
theorem wd_38 : (Cond.static yX3_fillRow) ∈ WG := WG_t1 (List.mem_of_getElem? (i := 26) (by decide +kernel)) rfl
theorem wd_39 : (Cond.code yX3_fillRow prog_1_method_58_code 3 (Option.none : Option FieldType)) ∈ WG := WG_t1 (List.mem_of_getElem? (i := 27) (rfl)) rfl
theorem wd_41 : (Cond.static yX3_setCell) ∈ WG := WG_t1 (List.mem_of_getElem? (i := 29) (by decide +kernel)) rfl
theorem wd_42 : (Cond.code yX3_setCell prog_1_method_56_code 3 (Option.none : Option FieldType)) ∈ WG := WG_t1 (List.mem_of_getElem? (i := 30) (rfl)) rfl
theorem wd_43 : (Cond.fieldLink "MagnetPoems$Board" 9 "MagnetPoems$Board" "homes" "[I") ∈ WG := WG_t1 (List.mem_of_getElem? (i := 31) (by decide +kernel)) rfl
theorem wd_44 : (Cond.fieldLink "MagnetPoems$Board" 15 "MagnetPoems$Board" "words" "[I") ∈ WG := WG_t1 (List.mem_of_getElem? (i := 32) (by decide +kernel)) rfl
theorem wd_45 : (Cond.fieldLink "MagnetPoems$Board" 18 "MagnetPoems$Board" "sizes" "[I") ∈ WG := WG_t1 (List.mem_of_getElem? (i := 33) (by decide +kernel)) rfl
theorem wd_46 : (Cond.fieldLink "MagnetPoems$Board" 21 "MagnetPoems$Board" "lenders" "[I") ∈ WG := WG_t1 (List.mem_of_getElem? (i := 34) (by decide +kernel)) rfl
theorem wd_47 : (Cond.fieldLink "MagnetPoems$Board" 24 "MagnetPoems$Board" "borrowers" "[I") ∈ WG := WG_t1 (List.mem_of_getElem? (i := 35) (by decide +kernel)) rfl
theorem wd_48 : (Cond.fieldLink "MagnetPoems$Board" 27 "MagnetPoems$Board" "thefts" "[I") ∈ WG := WG_t1 (List.mem_of_getElem? (i := 36) (by decide +kernel)) rfl
theorem wd_49 : (Cond.fieldLink "MagnetPoems$Board" 30 "MagnetPoems$Board" "watches" "[I") ∈ WG := WG_t1 (List.mem_of_getElem? (i := 37) (by decide +kernel)) rfl
theorem wd_50 : (Cond.fieldLink "MagnetPoems$Board" 33 "MagnetPoems$Board" "losses" "[I") ∈ WG := WG_t1 (List.mem_of_getElem? (i := 38) (by decide +kernel)) rfl
theorem wd_51 : (Cond.fieldLink "MagnetPoems$Board" 36 "MagnetPoems$Board" "settings" "[I") ∈ WG := WG_t1 (List.mem_of_getElem? (i := 39) (by decide +kernel)) rfl
theorem wd_52 : (Cond.fieldLink "MagnetPoems$Board" 51 "MagnetPoems$Board" "nights" "I") ∈ WG := WG_t1 (List.mem_of_getElem? (i := 40) (by decide +kernel)) rfl
theorem wd_54 : (Cond.fieldLink "MagnetPoems$Board" 55 "MagnetPoems$Board" "stolen" "I") ∈ WG := WG_t1 (List.mem_of_getElem? (i := 42) (by decide +kernel)) rfl
theorem wd_56 : (Cond.fieldLink "MagnetPoems$Board" 58 "MagnetPoems$Board" "shown" "I") ∈ WG := WG_t1 (List.mem_of_getElem? (i := 44) (by decide +kernel)) rfl
theorem wd_59 : (Cond.fieldLink "MagnetPoems$Board" 61 "MagnetPoems$Board" "refused" "I") ∈ WG := WG_t1 (List.mem_of_getElem? (i := 47) (by decide +kernel)) rfl
theorem wd_60 : (Cond.laysFinal "MagnetPoems$Board" "MagnetPoems$Board" "homes" "[I") ∈ WG := WG_t1 (List.mem_of_getElem? (i := 48) (by decide +kernel)) rfl
theorem wd_61 : (Cond.soleField "MagnetPoems$Board" "homes") ∈ WG := WG_t1 (List.mem_of_getElem? (i := 49) (by decide +kernel)) rfl
theorem wd_62 : (Cond.laysFinal "MagnetPoems$Board" "MagnetPoems$Board" "words" "[I") ∈ WG := WG_t1 (List.mem_of_getElem? (i := 50) (by decide +kernel)) rfl
theorem wd_63 : (Cond.soleField "MagnetPoems$Board" "words") ∈ WG := WG_t1 (List.mem_of_getElem? (i := 51) (by decide +kernel)) rfl
theorem wd_64 : (Cond.laysFinal "MagnetPoems$Board" "MagnetPoems$Board" "sizes" "[I") ∈ WG := WG_t1 (List.mem_of_getElem? (i := 52) (by decide +kernel)) rfl
theorem wd_65 : (Cond.soleField "MagnetPoems$Board" "sizes") ∈ WG := WG_t1 (List.mem_of_getElem? (i := 53) (by decide +kernel)) rfl
theorem wd_66 : (Cond.laysFinal "MagnetPoems$Board" "MagnetPoems$Board" "lenders" "[I") ∈ WG := WG_t1 (List.mem_of_getElem? (i := 54) (by decide +kernel)) rfl
theorem wd_67 : (Cond.soleField "MagnetPoems$Board" "lenders") ∈ WG := WG_t1 (List.mem_of_getElem? (i := 55) (by decide +kernel)) rfl
theorem wd_68 : (Cond.laysFinal "MagnetPoems$Board" "MagnetPoems$Board" "borrowers" "[I") ∈ WG := WG_t1 (List.mem_of_getElem? (i := 56) (by decide +kernel)) rfl
theorem wd_69 : (Cond.soleField "MagnetPoems$Board" "borrowers") ∈ WG := WG_t1 (List.mem_of_getElem? (i := 57) (by decide +kernel)) rfl
theorem wd_70 : (Cond.laysFinal "MagnetPoems$Board" "MagnetPoems$Board" "thefts" "[I") ∈ WG := WG_t1 (List.mem_of_getElem? (i := 58) (by decide +kernel)) rfl
theorem wd_71 : (Cond.soleField "MagnetPoems$Board" "thefts") ∈ WG := WG_t1 (List.mem_of_getElem? (i := 59) (by decide +kernel)) rfl
theorem wd_72 : (Cond.laysFinal "MagnetPoems$Board" "MagnetPoems$Board" "watches" "[I") ∈ WG := WG_t1 (List.mem_of_getElem? (i := 60) (by decide +kernel)) rfl
theorem wd_73 : (Cond.soleField "MagnetPoems$Board" "watches") ∈ WG := WG_t1 (List.mem_of_getElem? (i := 61) (by decide +kernel)) rfl
theorem wd_74 : (Cond.laysFinal "MagnetPoems$Board" "MagnetPoems$Board" "losses" "[I") ∈ WG := WG_t1 (List.mem_of_getElem? (i := 62) (by decide +kernel)) rfl
theorem wd_75 : (Cond.soleField "MagnetPoems$Board" "losses") ∈ WG := WG_t1 (List.mem_of_getElem? (i := 63) (by decide +kernel)) rfl
theorem wd_76 : (Cond.laysFinal "MagnetPoems$Board" "MagnetPoems$Board" "settings" "[I") ∈ WG := WG_t1 (List.mem_of_getElem? (i := 64) (by decide +kernel)) rfl
theorem wd_77 : (Cond.soleField "MagnetPoems$Board" "settings") ∈ WG := WG_t1 (List.mem_of_getElem? (i := 65) (by decide +kernel)) rfl
theorem wd_78 : (Cond.lays "MagnetPoems$Board" "MagnetPoems$Board" "nights" "I") ∈ WG := WG_t1 (List.mem_of_getElem? (i := 66) (by decide +kernel)) rfl
theorem wd_79 : (Cond.soleField "MagnetPoems$Board" "nights") ∈ WG := WG_t1 (List.mem_of_getElem? (i := 67) (by decide +kernel)) rfl
theorem wd_80 : (Cond.lays "MagnetPoems$Board" "MagnetPoems$Board" "stolen" "I") ∈ WG := WG_t1 (List.mem_of_getElem? (i := 68) (by decide +kernel)) rfl
theorem wd_81 : (Cond.soleField "MagnetPoems$Board" "stolen") ∈ WG := WG_t1 (List.mem_of_getElem? (i := 69) (by decide +kernel)) rfl
theorem wd_82 : (Cond.lays "MagnetPoems$Board" "MagnetPoems$Board" "shown" "I") ∈ WG := WG_t1 (List.mem_of_getElem? (i := 70) (by decide +kernel)) rfl
theorem wd_83 : (Cond.soleField "MagnetPoems$Board" "shown") ∈ WG := WG_t1 (List.mem_of_getElem? (i := 71) (by decide +kernel)) rfl
theorem wd_84 : (Cond.lays "MagnetPoems$Board" "MagnetPoems$Board" "refused" "I") ∈ WG := WG_t1 (List.mem_of_getElem? (i := 72) (by decide +kernel)) rfl
theorem wd_85 : (Cond.soleField "MagnetPoems$Board" "refused") ∈ WG := WG_t1 (List.mem_of_getElem? (i := 73) (by decide +kernel)) rfl
theorem wd_86 : (Cond.superclass "MagnetPoems$Board" "java/lang/Object") ∈ WG := WG_t1 (List.mem_of_getElem? (i := 74) (by decide +kernel)) rfl
theorem wd_87 : (Cond.arrayClass FieldType.int) ∈ WG := WG_t1 (List.mem_of_getElem? (i := 75) (by decide +kernel)) rfl
theorem wd_88 : (Cond.classLink "MagnetPoems" 19 "MagnetPoems$History") ∈ WG := WG_t1 (List.mem_of_getElem? (i := 76) (by decide +kernel)) rfl
theorem wd_89 : (Cond.instantiable "MagnetPoems$History" 3) ∈ WG := WG_t1 (List.mem_of_getElem? (i := 77) (by decide +kernel)) rfl
theorem wd_90 : (Cond.methodLink "MagnetPoems" 21 yX1_init) ∈ WG := WG_t1 (List.mem_of_getElem? (i := 78) (by decide +kernel)) rfl
theorem wd_91 : (Cond.instanceMethod yX1_init) ∈ WG := WG_t1 (List.mem_of_getElem? (i := 79) (by decide +kernel)) rfl
theorem wd_92 : (Cond.code yX1_init prog_3_method_1_code 2 (Option.none : Option FieldType)) ∈ WG := WG_t1 (List.mem_of_getElem? (i := 80) (rfl)) rfl
theorem wd_93 : (Cond.methodLink "MagnetPoems$History" 3 ⟨"java/lang/Object", "<init>", "()V"⟩) ∈ WG := WG_t1 (List.mem_of_getElem? (i := 81) (by decide +kernel)) rfl
theorem wd_94 : (Cond.classLink "MagnetPoems$History" 9 "MagnetPoems$Board") ∈ WG := WG_t1 (List.mem_of_getElem? (i := 82) (by decide +kernel)) rfl
theorem wd_96 : (Cond.methodLink "MagnetPoems$History" 17 yX0_init) ∈ WG := WG_t1 (List.mem_of_getElem? (i := 84) (by decide +kernel)) rfl
theorem wd_97 : (Cond.fieldLink "MagnetPoems$History" 11 "MagnetPoems$History" "states" "[LMagnetPoems$Board;") ∈ WG := WG_t1 (List.mem_of_getElem? (i := 85) (by decide +kernel)) rfl
theorem wd_98 : (Cond.fieldLink "MagnetPoems$History" 22 "MagnetPoems$History" "oldest" "I") ∈ WG := WG_t1 (List.mem_of_getElem? (i := 86) (by decide +kernel)) rfl
theorem wd_99 : (Cond.fieldLink "MagnetPoems$History" 18 "MagnetPoems$History" "size" "I") ∈ WG := WG_t1 (List.mem_of_getElem? (i := 87) (by decide +kernel)) rfl
theorem wd_101 : (Cond.laysFinal "MagnetPoems$History" "MagnetPoems$History" "states" "[LMagnetPoems$Board;") ∈ WG := WG_t1 (List.mem_of_getElem? (i := 89) (by decide +kernel)) rfl
theorem wd_102 : (Cond.soleField "MagnetPoems$History" "states") ∈ WG := WG_t1 (List.mem_of_getElem? (i := 90) (by decide +kernel)) rfl
theorem wd_103 : (Cond.lays "MagnetPoems$History" "MagnetPoems$History" "oldest" "I") ∈ WG := WG_t1 (List.mem_of_getElem? (i := 91) (by decide +kernel)) rfl
theorem wd_104 : (Cond.soleField "MagnetPoems$History" "oldest") ∈ WG := WG_t1 (List.mem_of_getElem? (i := 92) (by decide +kernel)) rfl
theorem wd_105 : (Cond.lays "MagnetPoems$History" "MagnetPoems$History" "size" "I") ∈ WG := WG_t1 (List.mem_of_getElem? (i := 93) (by decide +kernel)) rfl
theorem wd_106 : (Cond.soleField "MagnetPoems$History" "size") ∈ WG := WG_t1 (List.mem_of_getElem? (i := 94) (by decide +kernel)) rfl
theorem wd_107 : (Cond.superclass "MagnetPoems$History" "java/lang/Object") ∈ WG := WG_t1 (List.mem_of_getElem? (i := 95) (by decide +kernel)) rfl
theorem wd_108 : (Cond.classLink "MagnetPoems" 38 "MagnetPoems$PoemReader") ∈ WG := WG_t1 (List.mem_of_getElem? (i := 96) (by decide +kernel)) rfl
theorem wd_109 : (Cond.instantiable "MagnetPoems$PoemReader" 7) ∈ WG := WG_t1 (List.mem_of_getElem? (i := 97) (by decide +kernel)) rfl
theorem wd_111 : (Cond.instanceMethod yX2_init) ∈ WG := WG_t1 (List.mem_of_getElem? (i := 99) (by decide +kernel)) rfl
theorem wd_112 : (Cond.code yX2_init prog_4_method_1_code 1 (Option.none : Option FieldType)) ∈ WG := WG_t1 (List.mem_of_getElem? (i := 100) (rfl)) rfl
theorem wd_113 : (Cond.methodLink "MagnetPoems$PoemReader" 3 ⟨"java/lang/Object", "<init>", "()V"⟩) ∈ WG := WG_t1 (List.mem_of_getElem? (i := 101) (by decide +kernel)) rfl
theorem wd_114 : (Cond.fieldLink "MagnetPoems$PoemReader" 9 "MagnetPoems$PoemReader" "told" "[Z") ∈ WG := WG_t1 (List.mem_of_getElem? (i := 102) (by decide +kernel)) rfl
theorem wd_115 : (Cond.fieldLink "MagnetPoems$PoemReader" 15 "MagnetPoems$PoemReader" "words" "[I") ∈ WG := WG_t1 (List.mem_of_getElem? (i := 103) (by decide +kernel)) rfl
theorem wd_116 : (Cond.fieldLink "MagnetPoems$PoemReader" 19 "MagnetPoems$PoemReader" "lines" "[I") ∈ WG := WG_t1 (List.mem_of_getElem? (i := 104) (by decide +kernel)) rfl
theorem wd_117 : (Cond.laysFinal "MagnetPoems$PoemReader" "MagnetPoems$PoemReader" "told" "[Z") ∈ WG := WG_t1 (List.mem_of_getElem? (i := 105) (by decide +kernel)) rfl
theorem wd_118 : (Cond.soleField "MagnetPoems$PoemReader" "told") ∈ WG := WG_t1 (List.mem_of_getElem? (i := 106) (by decide +kernel)) rfl
theorem wd_119 : (Cond.laysFinal "MagnetPoems$PoemReader" "MagnetPoems$PoemReader" "words" "[I") ∈ WG := WG_t1 (List.mem_of_getElem? (i := 107) (by decide +kernel)) rfl
theorem wd_120 : (Cond.soleField "MagnetPoems$PoemReader" "words") ∈ WG := WG_t1 (List.mem_of_getElem? (i := 108) (by decide +kernel)) rfl
theorem wd_121 : (Cond.laysFinal "MagnetPoems$PoemReader" "MagnetPoems$PoemReader" "lines" "[I") ∈ WG := WG_t1 (List.mem_of_getElem? (i := 109) (by decide +kernel)) rfl
theorem wd_122 : (Cond.soleField "MagnetPoems$PoemReader" "lines") ∈ WG := WG_t1 (List.mem_of_getElem? (i := 110) (by decide +kernel)) rfl
theorem wd_123 : (Cond.lays "MagnetPoems$PoemReader" "MagnetPoems$PoemReader" "found" "I") ∈ WG := WG_t1 (List.mem_of_getElem? (i := 111) (by decide +kernel)) rfl
theorem wd_124 : (Cond.soleField "MagnetPoems$PoemReader" "found") ∈ WG := WG_t1 (List.mem_of_getElem? (i := 112) (by decide +kernel)) rfl
theorem wd_125 : (Cond.lays "MagnetPoems$PoemReader" "MagnetPoems$PoemReader" "line" "I") ∈ WG := WG_t1 (List.mem_of_getElem? (i := 113) (by decide +kernel)) rfl
theorem wd_126 : (Cond.soleField "MagnetPoems$PoemReader" "line") ∈ WG := WG_t1 (List.mem_of_getElem? (i := 114) (by decide +kernel)) rfl
theorem wd_127 : (Cond.lays "MagnetPoems$PoemReader" "MagnetPoems$PoemReader" "wordsOnLine" "I") ∈ WG := WG_t1 (List.mem_of_getElem? (i := 115) (by decide +kernel)) rfl
theorem wd_128 : (Cond.soleField "MagnetPoems$PoemReader" "wordsOnLine") ∈ WG := WG_t1 (List.mem_of_getElem? (i := 116) (by decide +kernel)) rfl
theorem wd_129 : (Cond.lays "MagnetPoems$PoemReader" "MagnetPoems$PoemReader" "number" "I") ∈ WG := WG_t1 (List.mem_of_getElem? (i := 117) (by decide +kernel)) rfl
theorem wd_130 : (Cond.soleField "MagnetPoems$PoemReader" "number") ∈ WG := WG_t1 (List.mem_of_getElem? (i := 118) (by decide +kernel)) rfl
theorem wd_131 : (Cond.superclass "MagnetPoems$PoemReader" "java/lang/Object") ∈ WG := WG_t1 (List.mem_of_getElem? (i := 119) (by decide +kernel)) rfl
theorem wd_132 : (Cond.arrayClass FieldType.boolean) ∈ WG := WG_t1 (List.mem_of_getElem? (i := 120) (by decide +kernel)) rfl
theorem wd_133 : (Cond.fieldLink "MagnetPoems" 10 "MagnetPoems" "board" "LMagnetPoems$Board;") ∈ WG := WG_t1 (List.mem_of_getElem? (i := 121) (by decide +kernel)) rfl
theorem wd_134 : (Cond.fieldLink "MagnetPoems" 16 "MagnetPoems" "dream" "LMagnetPoems$Board;") ∈ WG := WG_t1 (List.mem_of_getElem? (i := 122) (by decide +kernel)) rfl
theorem wd_135 : (Cond.fieldLink "MagnetPoems" 22 "MagnetPoems" "history" "LMagnetPoems$History;") ∈ WG := WG_t1 (List.mem_of_getElem? (i := 123) (by decide +kernel)) rfl
theorem wd_136 : (Cond.fieldLink "MagnetPoems" 26 "MagnetPoems" "slots" "[LMagnetPoems$Board;") ∈ WG := WG_t1 (List.mem_of_getElem? (i := 124) (by decide +kernel)) rfl
theorem wd_137 : (Cond.fieldLink "MagnetPoems" 30 "MagnetPoems" "kept" "[Z") ∈ WG := WG_t1 (List.mem_of_getElem? (i := 125) (by decide +kernel)) rfl
theorem wd_138 : (Cond.fieldLink "MagnetPoems" 34 "MagnetPoems" "buffer" "[I") ∈ WG := WG_t1 (List.mem_of_getElem? (i := 126) (by decide +kernel)) rfl
theorem wd_139 : (Cond.fieldLink "MagnetPoems" 41 "MagnetPoems" "reader" "LMagnetPoems$PoemReader;") ∈ WG := WG_t1 (List.mem_of_getElem? (i := 127) (by decide +kernel)) rfl
theorem wd_140 : (Cond.laysFinal "MagnetPoems" "MagnetPoems" "board" "LMagnetPoems$Board;") ∈ WG := WG_t1 (List.mem_of_getElem? (i := 128) (by decide +kernel)) rfl
theorem wd_141 : (Cond.soleField "MagnetPoems" "board") ∈ WG := WG_t1 (List.mem_of_getElem? (i := 129) (by decide +kernel)) rfl
theorem wd_142 : (Cond.laysFinal "MagnetPoems" "MagnetPoems" "dream" "LMagnetPoems$Board;") ∈ WG := WG_t1 (List.mem_of_getElem? (i := 130) (by decide +kernel)) rfl
theorem wd_143 : (Cond.soleField "MagnetPoems" "dream") ∈ WG := WG_t1 (List.mem_of_getElem? (i := 131) (by decide +kernel)) rfl
theorem wd_144 : (Cond.laysFinal "MagnetPoems" "MagnetPoems" "history" "LMagnetPoems$History;") ∈ WG := WG_t1 (List.mem_of_getElem? (i := 132) (by decide +kernel)) rfl
theorem wd_145 : (Cond.soleField "MagnetPoems" "history") ∈ WG := WG_t1 (List.mem_of_getElem? (i := 133) (by decide +kernel)) rfl
theorem wd_146 : (Cond.laysFinal "MagnetPoems" "MagnetPoems" "slots" "[LMagnetPoems$Board;") ∈ WG := WG_t1 (List.mem_of_getElem? (i := 134) (by decide +kernel)) rfl
theorem wd_147 : (Cond.soleField "MagnetPoems" "slots") ∈ WG := WG_t1 (List.mem_of_getElem? (i := 135) (by decide +kernel)) rfl
theorem wd_148 : (Cond.laysFinal "MagnetPoems" "MagnetPoems" "kept" "[Z") ∈ WG := WG_t1 (List.mem_of_getElem? (i := 136) (by decide +kernel)) rfl
theorem wd_149 : (Cond.soleField "MagnetPoems" "kept") ∈ WG := WG_t1 (List.mem_of_getElem? (i := 137) (by decide +kernel)) rfl
theorem wd_150 : (Cond.laysFinal "MagnetPoems" "MagnetPoems" "buffer" "[I") ∈ WG := WG_t1 (List.mem_of_getElem? (i := 138) (by decide +kernel)) rfl
theorem wd_151 : (Cond.soleField "MagnetPoems" "buffer") ∈ WG := WG_t1 (List.mem_of_getElem? (i := 139) (by decide +kernel)) rfl
theorem wd_152 : (Cond.lays "MagnetPoems" "MagnetPoems" "bufferLength" "I") ∈ WG := WG_t1 (List.mem_of_getElem? (i := 140) (by decide +kernel)) rfl
theorem wd_153 : (Cond.soleField "MagnetPoems" "bufferLength") ∈ WG := WG_t1 (List.mem_of_getElem? (i := 141) (by decide +kernel)) rfl
theorem wd_154 : (Cond.laysFinal "MagnetPoems" "MagnetPoems" "reader" "LMagnetPoems$PoemReader;") ∈ WG := WG_t1 (List.mem_of_getElem? (i := 142) (by decide +kernel)) rfl
theorem wd_155 : (Cond.soleField "MagnetPoems" "reader") ∈ WG := WG_t1 (List.mem_of_getElem? (i := 143) (by decide +kernel)) rfl
theorem wd_156 : (Cond.superclass "MagnetPoems" "java/lang/Object") ∈ WG := WG_t1 (List.mem_of_getElem? (i := 144) (by decide +kernel)) rfl
theorem wd_157 : (Cond.methodLink "MagnetPoemsLaw" 201 yL_cell) ∈ WG := WG_t1 (List.mem_of_getElem? (i := 145) (by decide +kernel)) rfl
theorem wd_158 : (Cond.static yL_cell) ∈ WG := WG_t1 (List.mem_of_getElem? (i := 146) (by decide +kernel)) rfl
theorem wd_159 : (Cond.code yL_cell method_2_code 2 (Option.some FieldType.int)) ∈ WG := WG_t1 (List.mem_of_getElem? (i := 147) (rfl)) rfl
theorem wd_161 : (Cond.methodLink "MagnetPoemsLaw" 105 yL_low) ∈ WG := WG_t1 (List.mem_of_getElem? (i := 149) (by decide +kernel)) rfl
theorem wd_162 : (Cond.static yL_low) ∈ WG := WG_t1 (List.mem_of_getElem? (i := 150) (by decide +kernel)) rfl
theorem wd_163 : (Cond.code yL_low method_3_code 2 (Option.some FieldType.int)) ∈ WG := WG_t1 (List.mem_of_getElem? (i := 151) (rfl)) rfl
theorem wd_165 : (Cond.methodLink "MagnetPoemsLaw" 193 yL_areWords) ∈ WG := WG_t1 (List.mem_of_getElem? (i := 153) (by decide +kernel)) rfl
theorem wd_166 : (Cond.static yL_areWords) ∈ WG := WG_t1 (List.mem_of_getElem? (i := 154) (by decide +kernel)) rfl
theorem wd_167 : (Cond.code yL_areWords method_21_code 6 (Option.some FieldType.boolean)) ∈ WG := WG_t1 (List.mem_of_getElem? (i := 155) (rfl)) rfl
theorem wd_168 : (Cond.methodLink "MagnetPoemsLaw" 57 yX3_wordOf) ∈ WG := WG_t1 (List.mem_of_getElem? (i := 156) (by decide +kernel)) rfl
theorem wd_169 : (Cond.instanceMethod yX3_wordOf) ∈ WG := WG_t1 (List.mem_of_getElem? (i := 157) (by decide +kernel)) rfl
theorem wd_170 : (Cond.selects "MagnetPoems" yX3_wordOf yX3_wordOf) ∈ WG := WG_t1 (List.mem_of_getElem? (i := 158) (by decide +kernel)) rfl
theorem wd_171 : (Cond.code yX3_wordOf prog_1_method_18_code 3 (Option.some FieldType.int)) ∈ WG := WG_t1 (List.mem_of_getElem? (i := 159) (rfl)) rfl
theorem wd_172 : (Cond.methodLink "MagnetPoems" 45 yX3_isWord) ∈ WG := WG_t1 (List.mem_of_getElem? (i := 160) (by decide +kernel)) rfl
theorem wd_173 : (Cond.static yX3_isWord) ∈ WG := WG_t1 (List.mem_of_getElem? (i := 161) (by decide +kernel)) rfl
theorem wd_174 : (Cond.code yX3_isWord prog_1_method_41_code 1 (Option.some FieldType.boolean)) ∈ WG := WG_t1 (List.mem_of_getElem? (i := 162) (rfl)) rfl
theorem wd_175 : (Cond.classLink "MagnetPoems" 53 "java/lang/IndexOutOfBoundsException") ∈ WG := WG_t1 (List.mem_of_getElem? (i := 163) (by decide +kernel)) rfl
theorem wd_176 : (Cond.instantiable "java/lang/IndexOutOfBoundsException" 6) ∈ WG := WG_t1 (List.mem_of_getElem? (i := 164) (by decide +kernel)) rfl
theorem wd_184 : (Cond.selects "java/lang/IndexOutOfBoundsException" ⟨"java/lang/Throwable", "fillInStackTrace", "(I)Ljava/lang/Throwable;"⟩ ⟨"java/lang/Throwable", "fillInStackTrace", "(I)Ljava/lang/Throwable;"⟩) ∈ WG := WG_t1 (List.mem_of_getElem? (i := 172) (by decide +kernel)) rfl
theorem wd_185 : (Cond.selects "java/lang/IndexOutOfBoundsException" ⟨"java/lang/Throwable", "fillInStackTrace", "()Ljava/lang/Throwable;"⟩ ⟨"java/lang/Throwable", "fillInStackTrace", "()Ljava/lang/Throwable;"⟩) ∈ WG := WG_t1 (List.mem_of_getElem? (i := 173) (by decide +kernel)) rfl
theorem wd_186 : (Cond.lays "java/lang/IndexOutOfBoundsException" "java/lang/Throwable" "cause" "Ljava/lang/Throwable;") ∈ WG := WG_t1 (List.mem_of_getElem? (i := 174) (by decide +kernel)) rfl
theorem wd_187 : (Cond.lays "java/lang/Throwable" "java/lang/Throwable" "cause" "Ljava/lang/Throwable;") ∈ WG := WG_t1 (List.mem_of_getElem? (i := 175) (by decide +kernel)) rfl
theorem wd_188 : (Cond.lays "java/lang/IndexOutOfBoundsException" "java/lang/Throwable" "stackTrace" "[Ljava/lang/StackTraceElement;") ∈ WG := WG_t1 (List.mem_of_getElem? (i := 176) (by decide +kernel)) rfl
theorem wd_189 : (Cond.lays "java/lang/Throwable" "java/lang/Throwable" "stackTrace" "[Ljava/lang/StackTraceElement;") ∈ WG := WG_t1 (List.mem_of_getElem? (i := 177) (by decide +kernel)) rfl
theorem wd_190 : (Cond.lays "java/lang/IndexOutOfBoundsException" "java/lang/Throwable" "suppressedExceptions" "Ljava/util/List;") ∈ WG := WG_t1 (List.mem_of_getElem? (i := 178) (by decide +kernel)) rfl
theorem wd_191 : (Cond.lays "java/lang/Throwable" "java/lang/Throwable" "suppressedExceptions" "Ljava/util/List;") ∈ WG := WG_t1 (List.mem_of_getElem? (i := 179) (by decide +kernel)) rfl
theorem wd_192 : (Cond.lays "java/lang/IndexOutOfBoundsException" "java/lang/Throwable" "detailMessage" "Ljava/lang/String;") ∈ WG := WG_t1 (List.mem_of_getElem? (i := 180) (by decide +kernel)) rfl
theorem wd_193 : (Cond.lays "java/lang/Throwable" "java/lang/Throwable" "detailMessage" "Ljava/lang/String;") ∈ WG := WG_t1 (List.mem_of_getElem? (i := 181) (by decide +kernel)) rfl
theorem wd_194 : (Cond.lays "java/lang/IndexOutOfBoundsException" "java/lang/Throwable" "backtrace" "Ljava/lang/Object;") ∈ WG := WG_t1 (List.mem_of_getElem? (i := 182) (by decide +kernel)) rfl
theorem wd_195 : (Cond.lays "java/lang/Throwable" "java/lang/Throwable" "backtrace" "Ljava/lang/Object;") ∈ WG := WG_t1 (List.mem_of_getElem? (i := 183) (by decide +kernel)) rfl
theorem wd_196 : (Cond.fieldLink "java/lang/Throwable" 198 "java/lang/Throwable" "backtrace" "Ljava/lang/Object;") ∈ WG := WG_t1 (List.mem_of_getElem? (i := 184) (by decide +kernel)) rfl
theorem wd_197 : (Cond.superclass "java/lang/Throwable" "java/lang/Object") ∈ WG := WG_t1 (List.mem_of_getElem? (i := 185) (by decide +kernel)) rfl
theorem wd_198 : (Cond.instanceMethod ⟨"java/lang/Throwable", "<init>", "()V"⟩) ∈ WG := WG_t1 (List.mem_of_getElem? (i := 186) (by decide +kernel)) rfl
theorem wd_199 : (Cond.code ⟨"java/lang/Throwable", "<init>", "()V"⟩ prog_13_method_1_code 1 (Option.none : Option FieldType)) ∈ WG := WG_t1 (List.mem_of_getElem? (i := 187) (rfl)) rfl
theorem wd_200 : (Cond.methodLink "java/lang/Throwable" 1 ⟨"java/lang/Object", "<init>", "()V"⟩) ∈ WG := WG_t1 (List.mem_of_getElem? (i := 188) (by decide +kernel)) rfl
theorem wd_201 : (Cond.fieldLink "java/lang/Throwable" 13 "java/lang/Throwable" "UNASSIGNED_STACK" "[Ljava/lang/StackTraceElement;") ∈ WG := WG_t1 (List.mem_of_getElem? (i := 189) (by decide +kernel)) rfl
theorem wd_203 : (Cond.fieldLink "java/lang/Throwable" 20 "java/lang/Throwable" "SUPPRESSED_SENTINEL" "Ljava/util/List;") ∈ WG := WG_t1 (List.mem_of_getElem? (i := 191) (by decide +kernel)) rfl
theorem wd_205 : (Cond.methodLink "java/lang/Throwable" 27 ⟨"java/lang/Throwable", "fillInStackTrace", "()Ljava/lang/Throwable;"⟩) ∈ WG := WG_t1 (List.mem_of_getElem? (i := 193) (by decide +kernel)) rfl
theorem wd_206 : (Cond.instanceMethod ⟨"java/lang/Throwable", "fillInStackTrace", "()Ljava/lang/Throwable;"⟩) ∈ WG := WG_t1 (List.mem_of_getElem? (i := 194) (by decide +kernel)) rfl
theorem wd_207 : (Cond.sameMethod "java/lang/Throwable" "java/lang/Throwable" "fillInStackTrace" "()Ljava/lang/Throwable;") ∈ WG := WG_t1 (List.mem_of_getElem? (i := 195) (by decide +kernel)) rfl
theorem wd_208 : (Cond.selects "java/lang/IllegalArgumentException" ⟨"java/lang/Throwable", "fillInStackTrace", "()Ljava/lang/Throwable;"⟩ ⟨"java/lang/Throwable", "fillInStackTrace", "()Ljava/lang/Throwable;"⟩) ∈ WG := WG_t1 (List.mem_of_getElem? (i := 196) (by decide +kernel)) rfl
theorem wd_209 : (Cond.selects "java/lang/IllegalStateException" ⟨"java/lang/Throwable", "fillInStackTrace", "()Ljava/lang/Throwable;"⟩ ⟨"java/lang/Throwable", "fillInStackTrace", "()Ljava/lang/Throwable;"⟩) ∈ WG := WG_t1 (List.mem_of_getElem? (i := 197) (by decide +kernel)) rfl
theorem wd_211 : (Cond.methodLink "java/lang/Throwable" 202 ⟨"java/lang/Throwable", "fillInStackTrace", "(I)Ljava/lang/Throwable;"⟩) ∈ WG := WG_t1 (List.mem_of_getElem? (i := 199) (by decide +kernel)) rfl
theorem wd_213 : (Cond.instanceMethod ⟨"java/lang/Throwable", "fillInStackTrace", "(I)Ljava/lang/Throwable;"⟩) ∈ WG := WG_t1 (List.mem_of_getElem? (i := 201) (by decide +kernel)) rfl
theorem wd_214 : (Cond.instantiable "java/lang/Throwable" 6) ∈ WG := WG_t1 (List.mem_of_getElem? (i := 202) (by decide +kernel)) rfl
theorem wd_215 : (Cond.native ⟨"java/lang/Throwable", "fillInStackTrace", "(I)Ljava/lang/Throwable;"⟩) ∈ WG := WG_t1 (List.mem_of_getElem? (i := 203) (by decide +kernel)) rfl
theorem wd_217 : (Cond.methodLink "MagnetPoems" 57 ⟨"java/lang/IndexOutOfBoundsException", "<init>", "(Ljava/lang/String;)V"⟩) ∈ WG := WG_t1 (List.mem_of_getElem? (i := 205) (by decide +kernel)) rfl
theorem wd_218 : (Cond.instanceMethod ⟨"java/lang/IndexOutOfBoundsException", "<init>", "(Ljava/lang/String;)V"⟩) ∈ WG := WG_t1 (List.mem_of_getElem? (i := 206) (by decide +kernel)) rfl
theorem wd_219 : (Cond.code ⟨"java/lang/IndexOutOfBoundsException", "<init>", "(Ljava/lang/String;)V"⟩ prog_10_method_2_code 2 (Option.none : Option FieldType)) ∈ WG := WG_t1 (List.mem_of_getElem? (i := 207) (rfl)) rfl
theorem wd_220 : (Cond.methodLink "java/lang/IndexOutOfBoundsException" 7 ⟨"java/lang/RuntimeException", "<init>", "(Ljava/lang/String;)V"⟩) ∈ WG := WG_t1 (List.mem_of_getElem? (i := 208) (by decide +kernel)) rfl
theorem wd_221 : (Cond.instanceMethod ⟨"java/lang/RuntimeException", "<init>", "(Ljava/lang/String;)V"⟩) ∈ WG := WG_t1 (List.mem_of_getElem? (i := 209) (by decide +kernel)) rfl
theorem wd_222 : (Cond.code ⟨"java/lang/RuntimeException", "<init>", "(Ljava/lang/String;)V"⟩ prog_11_method_2_code 2 (Option.none : Option FieldType)) ∈ WG := WG_t1 (List.mem_of_getElem? (i := 210) (rfl)) rfl
theorem wd_223 : (Cond.methodLink "java/lang/RuntimeException" 7 ⟨"java/lang/Exception", "<init>", "(Ljava/lang/String;)V"⟩) ∈ WG := WG_t1 (List.mem_of_getElem? (i := 211) (by decide +kernel)) rfl
theorem wd_224 : (Cond.instanceMethod ⟨"java/lang/Exception", "<init>", "(Ljava/lang/String;)V"⟩) ∈ WG := WG_t1 (List.mem_of_getElem? (i := 212) (by decide +kernel)) rfl
theorem wd_225 : (Cond.code ⟨"java/lang/Exception", "<init>", "(Ljava/lang/String;)V"⟩ prog_7_method_2_code 2 (Option.none : Option FieldType)) ∈ WG := WG_t1 (List.mem_of_getElem? (i := 213) (rfl)) rfl
theorem wd_226 : (Cond.methodLink "java/lang/Exception" 7 ⟨"java/lang/Throwable", "<init>", "(Ljava/lang/String;)V"⟩) ∈ WG := WG_t1 (List.mem_of_getElem? (i := 214) (by decide +kernel)) rfl
theorem wd_227 : (Cond.instanceMethod ⟨"java/lang/Throwable", "<init>", "(Ljava/lang/String;)V"⟩) ∈ WG := WG_t1 (List.mem_of_getElem? (i := 215) (by decide +kernel)) rfl
theorem wd_228 : (Cond.code ⟨"java/lang/Throwable", "<init>", "(Ljava/lang/String;)V"⟩ prog_13_method_2_code 2 (Option.none : Option FieldType)) ∈ WG := WG_t1 (List.mem_of_getElem? (i := 216) (rfl)) rfl
theorem wd_229 : (Cond.fieldLink "java/lang/Throwable" 198 "java/lang/Throwable" "backtrace" "Ljava/lang/Object;") ∈ WG := WG_t1 (List.mem_of_getElem? (i := 217) (by decide +kernel)) rfl
theorem wd_230 : (Cond.fieldLink "java/lang/Throwable" 31 "java/lang/Throwable" "detailMessage" "Ljava/lang/String;") ∈ WG := WG_t1 (List.mem_of_getElem? (i := 218) (by decide +kernel)) rfl
theorem wd_231 : (Cond.fieldLink "java/lang/Throwable" 7 "java/lang/Throwable" "cause" "Ljava/lang/Throwable;") ∈ WG := WG_t1 (List.mem_of_getElem? (i := 219) (by decide +kernel)) rfl
theorem wd_232 : (Cond.fieldLink "java/lang/Throwable" 17 "java/lang/Throwable" "stackTrace" "[Ljava/lang/StackTraceElement;") ∈ WG := WG_t1 (List.mem_of_getElem? (i := 220) (by decide +kernel)) rfl
theorem wd_233 : (Cond.fieldLink "java/lang/Throwable" 24 "java/lang/Throwable" "suppressedExceptions" "Ljava/util/List;") ∈ WG := WG_t1 (List.mem_of_getElem? (i := 221) (by decide +kernel)) rfl
theorem wd_234 : (Cond.soleField "java/lang/Throwable" "backtrace") ∈ WG := WG_t1 (List.mem_of_getElem? (i := 222) (by decide +kernel)) rfl
theorem wd_235 : (Cond.soleField "java/lang/Throwable" "detailMessage") ∈ WG := WG_t1 (List.mem_of_getElem? (i := 223) (by decide +kernel)) rfl
theorem wd_236 : (Cond.soleField "java/lang/Throwable" "cause") ∈ WG := WG_t1 (List.mem_of_getElem? (i := 224) (by decide +kernel)) rfl
theorem wd_237 : (Cond.soleField "java/lang/Throwable" "stackTrace") ∈ WG := WG_t1 (List.mem_of_getElem? (i := 225) (by decide +kernel)) rfl
theorem wd_238 : (Cond.lays "java/lang/IndexOutOfBoundsException" "java/lang/Throwable" "depth" "I") ∈ WG := WG_t1 (List.mem_of_getElem? (i := 226) (by decide +kernel)) rfl
theorem wd_239 : (Cond.soleField "java/lang/Throwable" "depth") ∈ WG := WG_t1 (List.mem_of_getElem? (i := 227) (by decide +kernel)) rfl
theorem wd_240 : (Cond.soleField "java/lang/Throwable" "suppressedExceptions") ∈ WG := WG_t1 (List.mem_of_getElem? (i := 228) (by decide +kernel)) rfl
theorem wd_241 : (Cond.superclass "java/lang/IndexOutOfBoundsException" "java/lang/RuntimeException") ∈ WG := WG_t1 (List.mem_of_getElem? (i := 229) (by decide +kernel)) rfl
theorem wd_242 : (Cond.arrayClass FieldType.byte) ∈ WG := WG_t1 (List.mem_of_getElem? (i := 230) (by decide +kernel)) rfl
theorem wd_243 : (Cond.classLink "MagnetPoems" 127 "java/lang/IllegalArgumentException") ∈ WG := WG_t1 (List.mem_of_getElem? (i := 231) (by decide +kernel)) rfl
theorem wd_244 : (Cond.instantiable "java/lang/IllegalArgumentException" 6) ∈ WG := WG_t1 (List.mem_of_getElem? (i := 232) (by decide +kernel)) rfl
theorem wd_246 : (Cond.selects "java/lang/IllegalArgumentException" ⟨"java/lang/Throwable", "fillInStackTrace", "(I)Ljava/lang/Throwable;"⟩ ⟨"java/lang/Throwable", "fillInStackTrace", "(I)Ljava/lang/Throwable;"⟩) ∈ WG := WG_t1 (List.mem_of_getElem? (i := 234) (by decide +kernel)) rfl
theorem wd_247 : (Cond.lays "java/lang/IllegalArgumentException" "java/lang/Throwable" "cause" "Ljava/lang/Throwable;") ∈ WG := WG_t1 (List.mem_of_getElem? (i := 235) (by decide +kernel)) rfl
theorem wd_248 : (Cond.lays "java/lang/IllegalArgumentException" "java/lang/Throwable" "stackTrace" "[Ljava/lang/StackTraceElement;") ∈ WG := WG_t1 (List.mem_of_getElem? (i := 236) (by decide +kernel)) rfl
theorem wd_249 : (Cond.lays "java/lang/IllegalArgumentException" "java/lang/Throwable" "suppressedExceptions" "Ljava/util/List;") ∈ WG := WG_t1 (List.mem_of_getElem? (i := 237) (by decide +kernel)) rfl
theorem wd_250 : (Cond.lays "java/lang/IllegalArgumentException" "java/lang/Throwable" "detailMessage" "Ljava/lang/String;") ∈ WG := WG_t1 (List.mem_of_getElem? (i := 238) (by decide +kernel)) rfl
theorem wd_251 : (Cond.lays "java/lang/IllegalArgumentException" "java/lang/Throwable" "backtrace" "Ljava/lang/Object;") ∈ WG := WG_t1 (List.mem_of_getElem? (i := 239) (by decide +kernel)) rfl
theorem wd_253 : (Cond.methodLink "MagnetPoems" 131 ⟨"java/lang/IllegalArgumentException", "<init>", "(Ljava/lang/String;)V"⟩) ∈ WG := WG_t2 (List.mem_of_getElem? (i := 1) (by decide +kernel)) rfl
theorem wd_254 : (Cond.instanceMethod ⟨"java/lang/IllegalArgumentException", "<init>", "(Ljava/lang/String;)V"⟩) ∈ WG := WG_t2 (List.mem_of_getElem? (i := 2) (by decide +kernel)) rfl
theorem wd_255 : (Cond.code ⟨"java/lang/IllegalArgumentException", "<init>", "(Ljava/lang/String;)V"⟩ prog_8_method_2_code 2 (Option.none : Option FieldType)) ∈ WG := WG_t2 (List.mem_of_getElem? (i := 3) (rfl)) rfl
theorem wd_256 : (Cond.methodLink "java/lang/IllegalArgumentException" 7 ⟨"java/lang/RuntimeException", "<init>", "(Ljava/lang/String;)V"⟩) ∈ WG := WG_t2 (List.mem_of_getElem? (i := 4) (by decide +kernel)) rfl
theorem wd_257 : (Cond.lays "java/lang/IllegalArgumentException" "java/lang/Throwable" "depth" "I") ∈ WG := WG_t2 (List.mem_of_getElem? (i := 5) (by decide +kernel)) rfl
theorem wd_258 : (Cond.superclass "java/lang/IllegalArgumentException" "java/lang/RuntimeException") ∈ WG := WG_t2 (List.mem_of_getElem? (i := 6) (by decide +kernel)) rfl
theorem wd_259 : (Cond.methodLink "MagnetPoems" 233 yX0_wordProperty) ∈ WG := WG_t2 (List.mem_of_getElem? (i := 7) (by decide +kernel)) rfl
theorem wd_260 : (Cond.instanceMethod yX0_wordProperty) ∈ WG := WG_t2 (List.mem_of_getElem? (i := 8) (by decide +kernel)) rfl
theorem wd_261 : (Cond.selects "MagnetPoems$Board" yX0_wordProperty yX0_wordProperty) ∈ WG := WG_t2 (List.mem_of_getElem? (i := 9) (by decide +kernel)) rfl
theorem wd_262 : (Cond.code yX0_wordProperty prog_2_method_40_code 4 (Option.some FieldType.int)) ∈ WG := WG_t2 (List.mem_of_getElem? (i := 10) (rfl)) rfl
theorem wd_264 : (Cond.static yX3_cell) ∈ WG := WG_t2 (List.mem_of_getElem? (i := 12) (by decide +kernel)) rfl
theorem wd_265 : (Cond.code yX3_cell prog_1_method_55_code 2 (Option.some FieldType.int)) ∈ WG := WG_t2 (List.mem_of_getElem? (i := 13) (rfl)) rfl
theorem wd_267 : (Cond.static yX3_kindOf) ∈ WG := WG_t2 (List.mem_of_getElem? (i := 15) (by decide +kernel)) rfl
theorem wd_268 : (Cond.code yX3_kindOf prog_1_method_49_code 1 (Option.some FieldType.int)) ∈ WG := WG_t2 (List.mem_of_getElem? (i := 16) (rfl)) rfl
theorem wd_270 : (Cond.static yX3_endingOf) ∈ WG := WG_t2 (List.mem_of_getElem? (i := 18) (by decide +kernel)) rfl
theorem wd_271 : (Cond.code yX3_endingOf prog_1_method_50_code 1 (Option.some FieldType.int)) ∈ WG := WG_t2 (List.mem_of_getElem? (i := 19) (rfl)) rfl
theorem wd_273 : (Cond.static yX3_beatsOf) ∈ WG := WG_t2 (List.mem_of_getElem? (i := 21) (by decide +kernel)) rfl
theorem wd_274 : (Cond.code yX3_beatsOf prog_1_method_51_code 1 (Option.some FieldType.int)) ∈ WG := WG_t2 (List.mem_of_getElem? (i := 22) (rfl)) rfl
theorem wd_275 : (Cond.methodLink "MagnetPoems$Board" 83 yX0_placeOf) ∈ WG := WG_t2 (List.mem_of_getElem? (i := 23) (by decide +kernel)) rfl
theorem wd_276 : (Cond.instanceMethod yX0_placeOf) ∈ WG := WG_t2 (List.mem_of_getElem? (i := 24) (by decide +kernel)) rfl
theorem wd_277 : (Cond.selects "MagnetPoems$Board" yX0_placeOf yX0_placeOf) ∈ WG := WG_t2 (List.mem_of_getElem? (i := 25) (by decide +kernel)) rfl
theorem wd_278 : (Cond.code yX0_placeOf prog_2_method_8_code 4 (Option.some FieldType.int)) ∈ WG := WG_t2 (List.mem_of_getElem? (i := 26) (rfl)) rfl
theorem wd_279 : (Cond.methodLink "MagnetPoems$Board" 68 yX0_wordAt) ∈ WG := WG_t2 (List.mem_of_getElem? (i := 27) (by decide +kernel)) rfl
theorem wd_280 : (Cond.instanceMethod yX0_wordAt) ∈ WG := WG_t2 (List.mem_of_getElem? (i := 28) (by decide +kernel)) rfl
theorem wd_281 : (Cond.selects "MagnetPoems$Board" yX0_wordAt yX0_wordAt) ∈ WG := WG_t2 (List.mem_of_getElem? (i := 29) (by decide +kernel)) rfl
theorem wd_282 : (Cond.code yX0_wordAt prog_2_method_6_code 5 (Option.some FieldType.int)) ∈ WG := WG_t2 (List.mem_of_getElem? (i := 30) (rfl)) rfl
theorem wd_283 : (Cond.methodLink "MagnetPoemsLaw" 197 yL_areDoors) ∈ WG := WG_t2 (List.mem_of_getElem? (i := 31) (by decide +kernel)) rfl
theorem wd_284 : (Cond.static yL_areDoors) ∈ WG := WG_t2 (List.mem_of_getElem? (i := 32) (by decide +kernel)) rfl
theorem wd_285 : (Cond.code yL_areDoors method_24_code 12 (Option.some FieldType.boolean)) ∈ WG := WG_t2 (List.mem_of_getElem? (i := 33) (rfl)) rfl
theorem wd_286 : (Cond.methodLink "MagnetPoemsLaw" 74 yL_isLine) ∈ WG := WG_t2 (List.mem_of_getElem? (i := 34) (by decide +kernel)) rfl
theorem wd_287 : (Cond.static yL_isLine) ∈ WG := WG_t2 (List.mem_of_getElem? (i := 35) (by decide +kernel)) rfl
theorem wd_288 : (Cond.code yL_isLine method_23_code 12 (Option.some FieldType.boolean)) ∈ WG := WG_t2 (List.mem_of_getElem? (i := 36) (rfl)) rfl
theorem wd_289 : (Cond.methodLink "MagnetPoemsLaw" 19 yL_wordAt) ∈ WG := WG_t2 (List.mem_of_getElem? (i := 37) (by decide +kernel)) rfl
theorem wd_290 : (Cond.static yL_wordAt) ∈ WG := WG_t2 (List.mem_of_getElem? (i := 38) (by decide +kernel)) rfl
theorem wd_291 : (Cond.code yL_wordAt method_6_code 5 (Option.some FieldType.int)) ∈ WG := WG_t2 (List.mem_of_getElem? (i := 39) (rfl)) rfl
theorem wd_292 : (Cond.methodLink "MagnetPoemsLaw" 9 yL_isOn) ∈ WG := WG_t2 (List.mem_of_getElem? (i := 40) (by decide +kernel)) rfl
theorem wd_293 : (Cond.static yL_isOn) ∈ WG := WG_t2 (List.mem_of_getElem? (i := 41) (by decide +kernel)) rfl
theorem wd_294 : (Cond.code yL_isOn method_4_code 3 (Option.some FieldType.boolean)) ∈ WG := WG_t2 (List.mem_of_getElem? (i := 42) (rfl)) rfl
theorem wd_295 : (Cond.methodLink "MagnetPoemsLaw" 63 yX3_at) ∈ WG := WG_t2 (List.mem_of_getElem? (i := 43) (by decide +kernel)) rfl
theorem wd_296 : (Cond.instanceMethod yX3_at) ∈ WG := WG_t2 (List.mem_of_getElem? (i := 44) (by decide +kernel)) rfl
theorem wd_297 : (Cond.selects "MagnetPoems" yX3_at yX3_at) ∈ WG := WG_t2 (List.mem_of_getElem? (i := 45) (by decide +kernel)) rfl
theorem wd_298 : (Cond.code yX3_at prog_1_method_19_code 4 (Option.some FieldType.int)) ∈ WG := WG_t2 (List.mem_of_getElem? (i := 46) (rfl)) rfl
theorem wd_299 : (Cond.methodLink "MagnetPoems" 106 yX3_isLine) ∈ WG := WG_t2 (List.mem_of_getElem? (i := 47) (by decide +kernel)) rfl
theorem wd_300 : (Cond.static yX3_isLine) ∈ WG := WG_t2 (List.mem_of_getElem? (i := 48) (by decide +kernel)) rfl
theorem wd_301 : (Cond.code yX3_isLine prog_1_method_43_code 2 (Option.some FieldType.boolean)) ∈ WG := WG_t2 (List.mem_of_getElem? (i := 49) (rfl)) rfl
theorem wd_302 : (Cond.methodLink "MagnetPoems" 117 yX3_isDoor) ∈ WG := WG_t2 (List.mem_of_getElem? (i := 50) (by decide +kernel)) rfl
theorem wd_303 : (Cond.static yX3_isDoor) ∈ WG := WG_t2 (List.mem_of_getElem? (i := 51) (by decide +kernel)) rfl
theorem wd_304 : (Cond.code yX3_isDoor prog_1_method_42_code 1 (Option.some FieldType.boolean)) ∈ WG := WG_t2 (List.mem_of_getElem? (i := 52) (rfl)) rfl
theorem wd_306 : (Cond.methodLink "MagnetPoems" 72 yX3_lineNumber) ∈ WG := WG_t2 (List.mem_of_getElem? (i := 54) (by decide +kernel)) rfl
theorem wd_307 : (Cond.static yX3_lineNumber) ∈ WG := WG_t2 (List.mem_of_getElem? (i := 55) (by decide +kernel)) rfl
theorem wd_308 : (Cond.code yX3_lineNumber prog_1_method_53_code 2 (Option.some FieldType.int)) ∈ WG := WG_t2 (List.mem_of_getElem? (i := 56) (rfl)) rfl
theorem wd_309 : (Cond.methodLink "MagnetPoems" 238 yX0_wordAt) ∈ WG := WG_t2 (List.mem_of_getElem? (i := 57) (by decide +kernel)) rfl
theorem wd_310 : (Cond.methodLink "MagnetPoemsLaw" 67 yX3_lineOf) ∈ WG := WG_t2 (List.mem_of_getElem? (i := 58) (by decide +kernel)) rfl
theorem wd_311 : (Cond.instanceMethod yX3_lineOf) ∈ WG := WG_t2 (List.mem_of_getElem? (i := 59) (by decide +kernel)) rfl
theorem wd_312 : (Cond.selects "MagnetPoems" yX3_lineOf yX3_lineOf) ∈ WG := WG_t2 (List.mem_of_getElem? (i := 60) (by decide +kernel)) rfl
theorem wd_313 : (Cond.code yX3_lineOf prog_1_method_20_code 4 (Option.some FieldType.int)) ∈ WG := WG_t2 (List.mem_of_getElem? (i := 61) (rfl)) rfl
theorem wd_316 : (Cond.methodLink "MagnetPoems" 243 yX0_lineProperty) ∈ WG := WG_t2 (List.mem_of_getElem? (i := 64) (by decide +kernel)) rfl
theorem wd_317 : (Cond.instanceMethod yX0_lineProperty) ∈ WG := WG_t2 (List.mem_of_getElem? (i := 65) (by decide +kernel)) rfl
theorem wd_318 : (Cond.selects "MagnetPoems$Board" yX0_lineProperty yX0_lineProperty) ∈ WG := WG_t2 (List.mem_of_getElem? (i := 66) (by decide +kernel)) rfl
theorem wd_319 : (Cond.code yX0_lineProperty prog_2_method_41_code 3 (Option.some FieldType.int)) ∈ WG := WG_t2 (List.mem_of_getElem? (i := 67) (rfl)) rfl
theorem wd_320 : (Cond.methodLink "MagnetPoems$Board" 91 yX0_beatsOn) ∈ WG := WG_t2 (List.mem_of_getElem? (i := 68) (by decide +kernel)) rfl
theorem wd_321 : (Cond.instanceMethod yX0_beatsOn) ∈ WG := WG_t2 (List.mem_of_getElem? (i := 69) (by decide +kernel)) rfl
theorem wd_322 : (Cond.selects "MagnetPoems$Board" yX0_beatsOn yX0_beatsOn) ∈ WG := WG_t2 (List.mem_of_getElem? (i := 70) (by decide +kernel)) rfl
theorem wd_323 : (Cond.code yX0_beatsOn prog_2_method_18_code 4 (Option.some FieldType.int)) ∈ WG := WG_t2 (List.mem_of_getElem? (i := 71) (rfl)) rfl
theorem wd_324 : (Cond.methodLink "MagnetPoems$Board" 117 yX0_worthOfLine) ∈ WG := WG_t2 (List.mem_of_getElem? (i := 72) (by decide +kernel)) rfl
theorem wd_325 : (Cond.instanceMethod yX0_worthOfLine) ∈ WG := WG_t2 (List.mem_of_getElem? (i := 73) (by decide +kernel)) rfl
theorem wd_326 : (Cond.selects "MagnetPoems$Board" yX0_worthOfLine yX0_worthOfLine) ∈ WG := WG_t2 (List.mem_of_getElem? (i := 74) (by decide +kernel)) rfl
theorem wd_327 : (Cond.code yX0_worthOfLine prog_2_method_19_code 9 (Option.some FieldType.int)) ∈ WG := WG_t2 (List.mem_of_getElem? (i := 75) (rfl)) rfl
theorem wd_328 : (Cond.methodLink "MagnetPoems$Board" 111 yX0_endingOn) ∈ WG := WG_t2 (List.mem_of_getElem? (i := 76) (by decide +kernel)) rfl
theorem wd_329 : (Cond.instanceMethod yX0_endingOn) ∈ WG := WG_t2 (List.mem_of_getElem? (i := 77) (by decide +kernel)) rfl
theorem wd_330 : (Cond.selects "MagnetPoems$Board" yX0_endingOn yX0_endingOn) ∈ WG := WG_t2 (List.mem_of_getElem? (i := 78) (by decide +kernel)) rfl
theorem wd_331 : (Cond.code yX0_endingOn prog_2_method_20_code 5 (Option.some FieldType.int)) ∈ WG := WG_t2 (List.mem_of_getElem? (i := 79) (rfl)) rfl
theorem wd_333 : (Cond.static yX3_lineCode) ∈ WG := WG_t2 (List.mem_of_getElem? (i := 81) (by decide +kernel)) rfl
theorem wd_334 : (Cond.code yX3_lineCode prog_1_method_54_code 1 (Option.some FieldType.int)) ∈ WG := WG_t2 (List.mem_of_getElem? (i := 82) (rfl)) rfl
theorem wd_335 : (Cond.methodLink "MagnetPoems$Board" 127 yX0_rhymesOf) ∈ WG := WG_t2 (List.mem_of_getElem? (i := 83) (by decide +kernel)) rfl
theorem wd_336 : (Cond.instanceMethod yX0_rhymesOf) ∈ WG := WG_t2 (List.mem_of_getElem? (i := 84) (by decide +kernel)) rfl
theorem wd_337 : (Cond.selects "MagnetPoems$Board" yX0_rhymesOf yX0_rhymesOf) ∈ WG := WG_t2 (List.mem_of_getElem? (i := 85) (by decide +kernel)) rfl
theorem wd_338 : (Cond.code yX0_rhymesOf prog_2_method_21_code 7 (Option.some FieldType.int)) ∈ WG := WG_t2 (List.mem_of_getElem? (i := 86) (rfl)) rfl
theorem wd_340 : (Cond.methodLink "MagnetPoems$Board" 153 yX0_clashes) ∈ WG := WG_t2 (List.mem_of_getElem? (i := 88) (by decide +kernel)) rfl
theorem wd_342 : (Cond.instanceMethod yX0_clashes) ∈ WG := WG_t2 (List.mem_of_getElem? (i := 90) (by decide +kernel)) rfl
theorem wd_343 : (Cond.code yX0_clashes prog_2_method_17_code 3 (Option.some FieldType.boolean)) ∈ WG := WG_t2 (List.mem_of_getElem? (i := 91) (rfl)) rfl
theorem wd_345 : (Cond.static yX3_clash) ∈ WG := WG_t2 (List.mem_of_getElem? (i := 93) (by decide +kernel)) rfl
theorem wd_346 : (Cond.code yX3_clash prog_1_method_52_code 2 (Option.some FieldType.boolean)) ∈ WG := WG_t2 (List.mem_of_getElem? (i := 94) (rfl)) rfl
theorem wd_347 : (Cond.methodLink "MagnetPoems" 325 yX3_kindOf) ∈ WG := WG_t2 (List.mem_of_getElem? (i := 95) (by decide +kernel)) rfl
theorem wd_348 : (Cond.methodLink "MagnetPoemsLaw" 15 yL_many) ∈ WG := WG_t2 (List.mem_of_getElem? (i := 96) (by decide +kernel)) rfl
theorem wd_349 : (Cond.static yL_many) ∈ WG := WG_t2 (List.mem_of_getElem? (i := 97) (by decide +kernel)) rfl
theorem wd_350 : (Cond.code yL_many method_5_code 4 (Option.some FieldType.int)) ∈ WG := WG_t2 (List.mem_of_getElem? (i := 98) (rfl)) rfl
theorem wd_351 : (Cond.methodLink "MagnetPoemsLaw" 30 yL_beats) ∈ WG := WG_t2 (List.mem_of_getElem? (i := 99) (by decide +kernel)) rfl
theorem wd_352 : (Cond.static yL_beats) ∈ WG := WG_t2 (List.mem_of_getElem? (i := 100) (by decide +kernel)) rfl
theorem wd_353 : (Cond.code yL_beats method_8_code 4 (Option.some FieldType.int)) ∈ WG := WG_t2 (List.mem_of_getElem? (i := 101) (rfl)) rfl
theorem wd_354 : (Cond.methodLink "MagnetPoemsLaw" 37 yL_worth) ∈ WG := WG_t2 (List.mem_of_getElem? (i := 102) (by decide +kernel)) rfl
theorem wd_355 : (Cond.static yL_worth) ∈ WG := WG_t2 (List.mem_of_getElem? (i := 103) (by decide +kernel)) rfl
theorem wd_356 : (Cond.code yL_worth method_13_code 4 (Option.some FieldType.int)) ∈ WG := WG_t2 (List.mem_of_getElem? (i := 104) (rfl)) rfl
theorem wd_357 : (Cond.methodLink "MagnetPoemsLaw" 33 yL_ending) ∈ WG := WG_t2 (List.mem_of_getElem? (i := 105) (by decide +kernel)) rfl
theorem wd_358 : (Cond.static yL_ending) ∈ WG := WG_t2 (List.mem_of_getElem? (i := 106) (by decide +kernel)) rfl
theorem wd_359 : (Cond.code yL_ending method_14_code 3 (Option.some FieldType.int)) ∈ WG := WG_t2 (List.mem_of_getElem? (i := 107) (rfl)) rfl
theorem wd_360 : (Cond.methodLink "MagnetPoemsLaw" 23 yL_last) ∈ WG := WG_t2 (List.mem_of_getElem? (i := 108) (by decide +kernel)) rfl
theorem wd_361 : (Cond.static yL_last) ∈ WG := WG_t2 (List.mem_of_getElem? (i := 109) (by decide +kernel)) rfl
theorem wd_362 : (Cond.code yL_last method_7_code 2 (Option.some FieldType.int)) ∈ WG := WG_t2 (List.mem_of_getElem? (i := 110) (rfl)) rfl
theorem wd_363 : (Cond.methodLink "MagnetPoemsLaw" 70 yL_told) ∈ WG := WG_t2 (List.mem_of_getElem? (i := 111) (by decide +kernel)) rfl
theorem wd_364 : (Cond.static yL_told) ∈ WG := WG_t2 (List.mem_of_getElem? (i := 112) (by decide +kernel)) rfl
theorem wd_365 : (Cond.code yL_told method_22_code 1 (Option.some FieldType.int)) ∈ WG := WG_t2 (List.mem_of_getElem? (i := 113) (rfl)) rfl
theorem wd_366 : (Cond.methodLink "MagnetPoemsLaw" 40 yL_rhymes) ∈ WG := WG_t2 (List.mem_of_getElem? (i := 114) (by decide +kernel)) rfl
theorem wd_367 : (Cond.static yL_rhymes) ∈ WG := WG_t2 (List.mem_of_getElem? (i := 115) (by decide +kernel)) rfl
theorem wd_368 : (Cond.code yL_rhymes method_15_code 7 (Option.some FieldType.int)) ∈ WG := WG_t2 (List.mem_of_getElem? (i := 116) (rfl)) rfl
theorem wd_369 : (Cond.methodLink "MagnetPoemsLaw" 46 yL_doorWorth) ∈ WG := WG_t2 (List.mem_of_getElem? (i := 117) (by decide +kernel)) rfl
theorem wd_370 : (Cond.static yL_doorWorth) ∈ WG := WG_t2 (List.mem_of_getElem? (i := 118) (by decide +kernel)) rfl
theorem wd_371 : (Cond.code yL_doorWorth method_16_code 5 (Option.some FieldType.int)) ∈ WG := WG_t2 (List.mem_of_getElem? (i := 119) (rfl)) rfl
theorem wd_372 : (Cond.methodLink "MagnetPoemsLaw" 43 yL_doorWords) ∈ WG := WG_t2 (List.mem_of_getElem? (i := 120) (by decide +kernel)) rfl
theorem wd_373 : (Cond.static yL_doorWords) ∈ WG := WG_t2 (List.mem_of_getElem? (i := 121) (by decide +kernel)) rfl
theorem wd_374 : (Cond.code yL_doorWords method_17_code 4 (Option.some FieldType.int)) ∈ WG := WG_t2 (List.mem_of_getElem? (i := 122) (rfl)) rfl
theorem wd_375 : (Cond.methodLink "MagnetPoemsLaw" 78 yX3_doorOf) ∈ WG := WG_t2 (List.mem_of_getElem? (i := 123) (by decide +kernel)) rfl
theorem wd_376 : (Cond.instanceMethod yX3_doorOf) ∈ WG := WG_t2 (List.mem_of_getElem? (i := 124) (by decide +kernel)) rfl
theorem wd_377 : (Cond.selects "MagnetPoems" yX3_doorOf yX3_doorOf) ∈ WG := WG_t2 (List.mem_of_getElem? (i := 125) (by decide +kernel)) rfl
theorem wd_378 : (Cond.code yX3_doorOf prog_1_method_21_code 3 (Option.some FieldType.int)) ∈ WG := WG_t2 (List.mem_of_getElem? (i := 126) (rfl)) rfl
theorem wd_381 : (Cond.methodLink "MagnetPoems" 248 yX0_doorProperty) ∈ WG := WG_t2 (List.mem_of_getElem? (i := 129) (by decide +kernel)) rfl
theorem wd_382 : (Cond.instanceMethod yX0_doorProperty) ∈ WG := WG_t2 (List.mem_of_getElem? (i := 130) (by decide +kernel)) rfl
theorem wd_383 : (Cond.selects "MagnetPoems$Board" yX0_doorProperty yX0_doorProperty) ∈ WG := WG_t2 (List.mem_of_getElem? (i := 131) (by decide +kernel)) rfl
theorem wd_384 : (Cond.code yX0_doorProperty prog_2_method_42_code 3 (Option.some FieldType.int)) ∈ WG := WG_t2 (List.mem_of_getElem? (i := 132) (rfl)) rfl
theorem wd_385 : (Cond.methodLink "MagnetPoems$Board" 120 yX0_worthOfDoor) ∈ WG := WG_t2 (List.mem_of_getElem? (i := 133) (by decide +kernel)) rfl
theorem wd_386 : (Cond.instanceMethod yX0_worthOfDoor) ∈ WG := WG_t2 (List.mem_of_getElem? (i := 134) (by decide +kernel)) rfl
theorem wd_387 : (Cond.selects "MagnetPoems$Board" yX0_worthOfDoor yX0_worthOfDoor) ∈ WG := WG_t2 (List.mem_of_getElem? (i := 135) (by decide +kernel)) rfl
theorem wd_388 : (Cond.code yX0_worthOfDoor prog_2_method_23_code 4 (Option.some FieldType.int)) ∈ WG := WG_t2 (List.mem_of_getElem? (i := 136) (rfl)) rfl
theorem wd_389 : (Cond.methodLink "MagnetPoems$Board" 114 yX0_rhymesOfDoor) ∈ WG := WG_t2 (List.mem_of_getElem? (i := 137) (by decide +kernel)) rfl
theorem wd_390 : (Cond.instanceMethod yX0_rhymesOfDoor) ∈ WG := WG_t2 (List.mem_of_getElem? (i := 138) (by decide +kernel)) rfl
theorem wd_391 : (Cond.selects "MagnetPoems$Board" yX0_rhymesOfDoor yX0_rhymesOfDoor) ∈ WG := WG_t2 (List.mem_of_getElem? (i := 139) (by decide +kernel)) rfl
theorem wd_392 : (Cond.code yX0_rhymesOfDoor prog_2_method_22_code 6 (Option.some FieldType.int)) ∈ WG := WG_t2 (List.mem_of_getElem? (i := 140) (rfl)) rfl
theorem wd_393 : (Cond.methodLink "MagnetPoems$Board" 147 yX0_wordsOfDoor) ∈ WG := WG_t2 (List.mem_of_getElem? (i := 141) (by decide +kernel)) rfl
theorem wd_394 : (Cond.instanceMethod yX0_wordsOfDoor) ∈ WG := WG_t2 (List.mem_of_getElem? (i := 142) (by decide +kernel)) rfl
theorem wd_395 : (Cond.selects "MagnetPoems$Board" yX0_wordsOfDoor yX0_wordsOfDoor) ∈ WG := WG_t2 (List.mem_of_getElem? (i := 143) (by decide +kernel)) rfl
theorem wd_396 : (Cond.code yX0_wordsOfDoor prog_2_method_11_code 4 (Option.some FieldType.int)) ∈ WG := WG_t2 (List.mem_of_getElem? (i := 144) (rfl)) rfl
theorem wd_397 : (Cond.methodLink "MagnetPoemsLaw" 81 yX3_count) ∈ WG := WG_t2 (List.mem_of_getElem? (i := 145) (by decide +kernel)) rfl
theorem wd_398 : (Cond.instanceMethod yX3_count) ∈ WG := WG_t2 (List.mem_of_getElem? (i := 146) (by decide +kernel)) rfl
theorem wd_399 : (Cond.selects "MagnetPoems" yX3_count yX3_count) ∈ WG := WG_t2 (List.mem_of_getElem? (i := 147) (by decide +kernel)) rfl
theorem wd_400 : (Cond.code yX3_count prog_1_method_22_code 2 (Option.some FieldType.int)) ∈ WG := WG_t2 (List.mem_of_getElem? (i := 148) (rfl)) rfl
theorem wd_402 : (Cond.methodLink "MagnetPoems" 253 yX3_numberOf) ∈ WG := WG_t2 (List.mem_of_getElem? (i := 150) (by decide +kernel)) rfl
theorem wd_404 : (Cond.instanceMethod yX3_numberOf) ∈ WG := WG_t2 (List.mem_of_getElem? (i := 152) (by decide +kernel)) rfl
theorem wd_405 : (Cond.code yX3_numberOf prog_1_method_34_code 2 (Option.some FieldType.int)) ∈ WG := WG_t2 (List.mem_of_getElem? (i := 153) (rfl)) rfl
theorem wd_406 : (Cond.methodLink "MagnetPoems" 218 yX0_bagToldByWords) ∈ WG := WG_t2 (List.mem_of_getElem? (i := 154) (by decide +kernel)) rfl
theorem wd_407 : (Cond.instanceMethod yX0_bagToldByWords) ∈ WG := WG_t2 (List.mem_of_getElem? (i := 155) (by decide +kernel)) rfl
theorem wd_408 : (Cond.selects "MagnetPoems$Board" yX0_bagToldByWords yX0_bagToldByWords) ∈ WG := WG_t2 (List.mem_of_getElem? (i := 156) (by decide +kernel)) rfl
theorem wd_409 : (Cond.code yX0_bagToldByWords prog_2_method_9_code 3 (Option.some FieldType.int)) ∈ WG := WG_t2 (List.mem_of_getElem? (i := 157) (rfl)) rfl
theorem wd_410 : (Cond.methodLink "MagnetPoems" 295 yX0_bagToldByLines) ∈ WG := WG_t2 (List.mem_of_getElem? (i := 158) (by decide +kernel)) rfl
theorem wd_411 : (Cond.instanceMethod yX0_bagToldByLines) ∈ WG := WG_t2 (List.mem_of_getElem? (i := 159) (by decide +kernel)) rfl
theorem wd_412 : (Cond.selects "MagnetPoems$Board" yX0_bagToldByLines yX0_bagToldByLines) ∈ WG := WG_t2 (List.mem_of_getElem? (i := 160) (by decide +kernel)) rfl
theorem wd_413 : (Cond.code yX0_bagToldByLines prog_2_method_10_code 3 (Option.some FieldType.int)) ∈ WG := WG_t2 (List.mem_of_getElem? (i := 161) (rfl)) rfl
theorem wd_414 : (Cond.methodLink "MagnetPoems" 301 yX0_loans) ∈ WG := WG_t2 (List.mem_of_getElem? (i := 162) (by decide +kernel)) rfl
theorem wd_415 : (Cond.instanceMethod yX0_loans) ∈ WG := WG_t2 (List.mem_of_getElem? (i := 163) (by decide +kernel)) rfl
theorem wd_416 : (Cond.selects "MagnetPoems$Board" yX0_loans yX0_loans) ∈ WG := WG_t2 (List.mem_of_getElem? (i := 164) (by decide +kernel)) rfl
theorem wd_417 : (Cond.code yX0_loans prog_2_method_28_code 3 (Option.some FieldType.int)) ∈ WG := WG_t2 (List.mem_of_getElem? (i := 165) (rfl)) rfl
theorem wd_418 : (Cond.methodLink "MagnetPoems" 304 yX0_worthOfAll) ∈ WG := WG_t2 (List.mem_of_getElem? (i := 166) (by decide +kernel)) rfl
theorem wd_419 : (Cond.instanceMethod yX0_worthOfAll) ∈ WG := WG_t2 (List.mem_of_getElem? (i := 167) (by decide +kernel)) rfl
theorem wd_420 : (Cond.selects "MagnetPoems$Board" yX0_worthOfAll yX0_worthOfAll) ∈ WG := WG_t2 (List.mem_of_getElem? (i := 168) (by decide +kernel)) rfl
theorem wd_421 : (Cond.code yX0_worthOfAll prog_2_method_24_code 3 (Option.some FieldType.int)) ∈ WG := WG_t2 (List.mem_of_getElem? (i := 169) (rfl)) rfl
theorem wd_422 : (Cond.methodLink "MagnetPoemsLaw" 84 yX3_setting) ∈ WG := WG_t2 (List.mem_of_getElem? (i := 170) (by decide +kernel)) rfl
theorem wd_423 : (Cond.instanceMethod yX3_setting) ∈ WG := WG_t2 (List.mem_of_getElem? (i := 171) (by decide +kernel)) rfl
theorem wd_424 : (Cond.selects "MagnetPoems" yX3_setting yX3_setting) ∈ WG := WG_t2 (List.mem_of_getElem? (i := 172) (by decide +kernel)) rfl
theorem wd_425 : (Cond.code yX3_setting prog_1_method_23_code 2 (Option.some FieldType.int)) ∈ WG := WG_t2 (List.mem_of_getElem? (i := 173) (rfl)) rfl
theorem wd_426 : (Cond.methodLink "MagnetPoems" 165 yX3_isSetting) ∈ WG := WG_t2 (List.mem_of_getElem? (i := 174) (by decide +kernel)) rfl
theorem wd_427 : (Cond.static yX3_isSetting) ∈ WG := WG_t2 (List.mem_of_getElem? (i := 175) (by decide +kernel)) rfl
theorem wd_428 : (Cond.code yX3_isSetting prog_1_method_46_code 1 (Option.some FieldType.boolean)) ∈ WG := WG_t2 (List.mem_of_getElem? (i := 176) (rfl)) rfl
theorem wd_430 : (Cond.methodLink "MagnetPoems" 175 yX0_settingValue) ∈ WG := WG_t2 (List.mem_of_getElem? (i := 178) (by decide +kernel)) rfl
theorem wd_431 : (Cond.instanceMethod yX0_settingValue) ∈ WG := WG_t2 (List.mem_of_getElem? (i := 179) (by decide +kernel)) rfl
theorem wd_432 : (Cond.selects "MagnetPoems$Board" yX0_settingValue yX0_settingValue) ∈ WG := WG_t2 (List.mem_of_getElem? (i := 180) (by decide +kernel)) rfl
theorem wd_433 : (Cond.code yX0_settingValue prog_2_method_38_code 2 (Option.some FieldType.int)) ∈ WG := WG_t2 (List.mem_of_getElem? (i := 181) (rfl)) rfl
theorem wd_434 : (Cond.methodLink "MagnetPoemsLaw" 87 yX3_shownShare) ∈ WG := WG_t2 (List.mem_of_getElem? (i := 182) (by decide +kernel)) rfl
theorem wd_435 : (Cond.instanceMethod yX3_shownShare) ∈ WG := WG_t2 (List.mem_of_getElem? (i := 183) (by decide +kernel)) rfl
theorem wd_436 : (Cond.selects "MagnetPoems" yX3_shownShare yX3_shownShare) ∈ WG := WG_t2 (List.mem_of_getElem? (i := 184) (by decide +kernel)) rfl
theorem wd_437 : (Cond.code yX3_shownShare prog_1_method_28_code 1 (Option.some FieldType.double)) ∈ WG := WG_t2 (List.mem_of_getElem? (i := 185) (rfl)) rfl
theorem wd_438 : (Cond.methodLink "MagnetPoems" 265 yX3_share) ∈ WG := WG_t2 (List.mem_of_getElem? (i := 186) (by decide +kernel)) rfl
theorem wd_440 : (Cond.instanceMethod yX3_share) ∈ WG := WG_t2 (List.mem_of_getElem? (i := 188) (by decide +kernel)) rfl
theorem wd_441 : (Cond.code yX3_share prog_1_method_33_code 1 (Option.some FieldType.double)) ∈ WG := WG_t2 (List.mem_of_getElem? (i := 189) (rfl)) rfl
theorem wd_442 : (Cond.constantDouble "MagnetPoems" 293 4630826316843712512) ∈ WG := WG_t2 (List.mem_of_getElem? (i := 190) (by decide +kernel)) rfl
theorem wd_443 : (Cond.constantDouble "MagnetPoemsLaw" 91 4630826316843712512) ∈ WG := WG_t2 (List.mem_of_getElem? (i := 191) (by decide +kernel)) rfl
theorem wd_444 : (Cond.methodLink "MagnetPoemsLaw" 208 yL_would) ∈ WG := WG_t2 (List.mem_of_getElem? (i := 192) (by decide +kernel)) rfl
theorem wd_445 : (Cond.static yL_would) ∈ WG := WG_t2 (List.mem_of_getElem? (i := 193) (by decide +kernel)) rfl
theorem wd_446 : (Cond.code yL_would method_26_code 17 (Option.some FieldType.boolean)) ∈ WG := WG_t2 (List.mem_of_getElem? (i := 194) (rfl)) rfl
theorem wd_447 : (Cond.methodLink "MagnetPoemsLaw" 93 yL_reason) ∈ WG := WG_t2 (List.mem_of_getElem? (i := 195) (by decide +kernel)) rfl
theorem wd_448 : (Cond.static yL_reason) ∈ WG := WG_t2 (List.mem_of_getElem? (i := 196) (by decide +kernel)) rfl
theorem wd_449 : (Cond.code yL_reason method_12_code 9 (Option.some FieldType.int)) ∈ WG := WG_t2 (List.mem_of_getElem? (i := 197) (rfl)) rfl
theorem wd_450 : (Cond.methodLink "MagnetPoemsLaw" 108 yX3_whyNot) ∈ WG := WG_t2 (List.mem_of_getElem? (i := 198) (by decide +kernel)) rfl
theorem wd_451 : (Cond.instanceMethod yX3_whyNot) ∈ WG := WG_t2 (List.mem_of_getElem? (i := 199) (by decide +kernel)) rfl
theorem wd_452 : (Cond.selects "MagnetPoems" yX3_whyNot yX3_whyNot) ∈ WG := WG_t2 (List.mem_of_getElem? (i := 200) (by decide +kernel)) rfl
theorem wd_453 : (Cond.code yX3_whyNot prog_1_method_24_code 6 (Option.some FieldType.int)) ∈ WG := WG_t2 (List.mem_of_getElem? (i := 201) (rfl)) rfl
theorem wd_454 : (Cond.methodLink "MagnetPoems" 49 yX3_isPlaceToPut) ∈ WG := WG_t2 (List.mem_of_getElem? (i := 202) (by decide +kernel)) rfl
theorem wd_456 : (Cond.instanceMethod yX3_isPlaceToPut) ∈ WG := WG_t2 (List.mem_of_getElem? (i := 204) (by decide +kernel)) rfl
theorem wd_457 : (Cond.code yX3_isPlaceToPut prog_1_method_44_code 4 (Option.some FieldType.boolean)) ∈ WG := WG_t2 (List.mem_of_getElem? (i := 205) (rfl)) rfl
theorem wd_458 : (Cond.methodLink "MagnetPoems" 114 yX0_sizeOf) ∈ WG := WG_t2 (List.mem_of_getElem? (i := 206) (by decide +kernel)) rfl
theorem wd_459 : (Cond.instanceMethod yX0_sizeOf) ∈ WG := WG_t2 (List.mem_of_getElem? (i := 207) (by decide +kernel)) rfl
theorem wd_460 : (Cond.selects "MagnetPoems$Board" yX0_sizeOf yX0_sizeOf) ∈ WG := WG_t2 (List.mem_of_getElem? (i := 208) (by decide +kernel)) rfl
theorem wd_461 : (Cond.code yX0_sizeOf prog_2_method_5_code 2 (Option.some FieldType.int)) ∈ WG := WG_t2 (List.mem_of_getElem? (i := 209) (rfl)) rfl
theorem wd_463 : (Cond.methodLink "MagnetPoems" 95 yX0_homeOf) ∈ WG := WG_t2 (List.mem_of_getElem? (i := 211) (by decide +kernel)) rfl
theorem wd_464 : (Cond.instanceMethod yX0_homeOf) ∈ WG := WG_t2 (List.mem_of_getElem? (i := 212) (by decide +kernel)) rfl
theorem wd_465 : (Cond.selects "MagnetPoems$Board" yX0_homeOf yX0_homeOf) ∈ WG := WG_t2 (List.mem_of_getElem? (i := 213) (by decide +kernel)) rfl
theorem wd_466 : (Cond.code yX0_homeOf prog_2_method_3_code 2 (Option.some FieldType.int)) ∈ WG := WG_t2 (List.mem_of_getElem? (i := 214) (rfl)) rfl
theorem wd_467 : (Cond.methodLink "MagnetPoems" 76 yX0_refusal) ∈ WG := WG_t2 (List.mem_of_getElem? (i := 215) (by decide +kernel)) rfl
theorem wd_468 : (Cond.instanceMethod yX0_refusal) ∈ WG := WG_t2 (List.mem_of_getElem? (i := 216) (by decide +kernel)) rfl
theorem wd_469 : (Cond.selects "MagnetPoems$Board" yX0_refusal yX0_refusal) ∈ WG := WG_t2 (List.mem_of_getElem? (i := 217) (by decide +kernel)) rfl
theorem wd_470 : (Cond.code yX0_refusal prog_2_method_15_code 6 (Option.some FieldType.int)) ∈ WG := WG_t2 (List.mem_of_getElem? (i := 218) (rfl)) rfl
theorem wd_471 : (Cond.methodLink "MagnetPoems$Board" 97 yX0_wouldClash) ∈ WG := WG_t2 (List.mem_of_getElem? (i := 219) (by decide +kernel)) rfl
theorem wd_473 : (Cond.instanceMethod yX0_wouldClash) ∈ WG := WG_t2 (List.mem_of_getElem? (i := 221) (by decide +kernel)) rfl
theorem wd_474 : (Cond.code yX0_wouldClash prog_2_method_16_code 8 (Option.some FieldType.boolean)) ∈ WG := WG_t2 (List.mem_of_getElem? (i := 222) (rfl)) rfl
theorem wd_475 : (Cond.methodLink "MagnetPoemsLaw" 112 yX3_prey) ∈ WG := WG_t2 (List.mem_of_getElem? (i := 223) (by decide +kernel)) rfl
theorem wd_476 : (Cond.instanceMethod yX3_prey) ∈ WG := WG_t2 (List.mem_of_getElem? (i := 224) (by decide +kernel)) rfl
theorem wd_477 : (Cond.selects "MagnetPoems" yX3_prey yX3_prey) ∈ WG := WG_t2 (List.mem_of_getElem? (i := 225) (by decide +kernel)) rfl
theorem wd_478 : (Cond.code yX3_prey prog_1_method_26_code 1 (Option.some FieldType.int)) ∈ WG := WG_t2 (List.mem_of_getElem? (i := 226) (rfl)) rfl
theorem wd_479 : (Cond.methodLink "MagnetPoems" 259 yX0_nextPrey) ∈ WG := WG_t2 (List.mem_of_getElem? (i := 227) (by decide +kernel)) rfl
theorem wd_480 : (Cond.instanceMethod yX0_nextPrey) ∈ WG := WG_t2 (List.mem_of_getElem? (i := 228) (by decide +kernel)) rfl
theorem wd_481 : (Cond.selects "MagnetPoems$Board" yX0_nextPrey yX0_nextPrey) ∈ WG := WG_t2 (List.mem_of_getElem? (i := 229) (by decide +kernel)) rfl
theorem wd_482 : (Cond.code yX0_nextPrey prog_2_method_33_code 2 (Option.some FieldType.int)) ∈ WG := WG_t2 (List.mem_of_getElem? (i := 230) (rfl)) rfl
theorem wd_483 : (Cond.methodLink "MagnetPoems$Board" 133 yX0_doorOfThief) ∈ WG := WG_t2 (List.mem_of_getElem? (i := 231) (by decide +kernel)) rfl
theorem wd_485 : (Cond.instanceMethod yX0_doorOfThief) ∈ WG := WG_t2 (List.mem_of_getElem? (i := 233) (by decide +kernel)) rfl
theorem wd_486 : (Cond.code yX0_doorOfThief prog_2_method_34_code 5 (Option.some FieldType.int)) ∈ WG := WG_t2 (List.mem_of_getElem? (i := 234) (rfl)) rfl
theorem wd_487 : (Cond.methodLink "MagnetPoems$Board" 140 yX0_preyOn) ∈ WG := WG_t2 (List.mem_of_getElem? (i := 235) (by decide +kernel)) rfl
theorem wd_489 : (Cond.instanceMethod yX0_preyOn) ∈ WG := WG_t2 (List.mem_of_getElem? (i := 237) (by decide +kernel)) rfl
theorem wd_490 : (Cond.code yX0_preyOn prog_2_method_35_code 8 (Option.some FieldType.int)) ∈ WG := WG_t2 (List.mem_of_getElem? (i := 238) (rfl)) rfl
theorem wd_491 : (Cond.methodLink "MagnetPoemsLaw" 49 yL_prey) ∈ WG := WG_t2 (List.mem_of_getElem? (i := 239) (by decide +kernel)) rfl
theorem wd_492 : (Cond.static yL_prey) ∈ WG := WG_t3 (List.mem_of_getElem? (i := 0) (by decide +kernel)) rfl
theorem wd_493 : (Cond.code yL_prey method_18_code 9 (Option.some FieldType.int)) ∈ WG := WG_t3 (List.mem_of_getElem? (i := 1) (rfl)) rfl
theorem wd_494 : (Cond.methodLink "MagnetPoemsLaw" 115 yX3_bestWord) ∈ WG := WG_t3 (List.mem_of_getElem? (i := 2) (by decide +kernel)) rfl
theorem wd_495 : (Cond.instanceMethod yX3_bestWord) ∈ WG := WG_t3 (List.mem_of_getElem? (i := 3) (by decide +kernel)) rfl
theorem wd_496 : (Cond.selects "MagnetPoems" yX3_bestWord yX3_bestWord) ∈ WG := WG_t3 (List.mem_of_getElem? (i := 4) (by decide +kernel)) rfl
theorem wd_497 : (Cond.code yX3_bestWord prog_1_method_25_code 3 (Option.some FieldType.int)) ∈ WG := WG_t3 (List.mem_of_getElem? (i := 5) (rfl)) rfl
theorem wd_498 : (Cond.methodLink "MagnetPoems" 256 yX0_bestWordFor) ∈ WG := WG_t3 (List.mem_of_getElem? (i := 6) (by decide +kernel)) rfl
theorem wd_499 : (Cond.instanceMethod yX0_bestWordFor) ∈ WG := WG_t3 (List.mem_of_getElem? (i := 7) (by decide +kernel)) rfl
theorem wd_500 : (Cond.selects "MagnetPoems$Board" yX0_bestWordFor yX0_bestWordFor) ∈ WG := WG_t3 (List.mem_of_getElem? (i := 8) (by decide +kernel)) rfl
theorem wd_501 : (Cond.code yX0_bestWordFor prog_2_method_25_code 7 (Option.some FieldType.int)) ∈ WG := WG_t3 (List.mem_of_getElem? (i := 9) (rfl)) rfl
theorem wd_502 : (Cond.methodLink "MagnetPoems$Board" 123 yX0_refusal) ∈ WG := WG_t3 (List.mem_of_getElem? (i := 10) (by decide +kernel)) rfl
theorem wd_503 : (Cond.methodLink "MagnetPoemsLaw" 118 yL_bestWord) ∈ WG := WG_t3 (List.mem_of_getElem? (i := 11) (by decide +kernel)) rfl
theorem wd_504 : (Cond.static yL_bestWord) ∈ WG := WG_t3 (List.mem_of_getElem? (i := 12) (by decide +kernel)) rfl
theorem wd_505 : (Cond.code yL_bestWord method_25_code 11 (Option.some FieldType.int)) ∈ WG := WG_t3 (List.mem_of_getElem? (i := 13) (rfl)) rfl
theorem wd_506 : (Cond.methodLink "MagnetPoemsLaw" 97 yL_copy) ∈ WG := WG_t3 (List.mem_of_getElem? (i := 14) (by decide +kernel)) rfl
theorem wd_507 : (Cond.static yL_copy) ∈ WG := WG_t3 (List.mem_of_getElem? (i := 15) (by decide +kernel)) rfl
theorem wd_508 : (Cond.code yL_copy method_20_code 3 (Option.none : Option FieldType)) ∈ WG := WG_t3 (List.mem_of_getElem? (i := 16) (rfl)) rfl
theorem wd_509 : (Cond.methodLink "MagnetPoemsLaw" 101 yL_comes) ∈ WG := WG_t3 (List.mem_of_getElem? (i := 17) (by decide +kernel)) rfl
theorem wd_510 : (Cond.static yL_comes) ∈ WG := WG_t3 (List.mem_of_getElem? (i := 18) (by decide +kernel)) rfl
theorem wd_511 : (Cond.code yL_comes method_11_code 7 (Option.none : Option FieldType)) ∈ WG := WG_t3 (List.mem_of_getElem? (i := 19) (rfl)) rfl
theorem wd_512 : (Cond.methodLink "MagnetPoemsLaw" 26 yL_endLoans) ∈ WG := WG_t3 (List.mem_of_getElem? (i := 20) (by decide +kernel)) rfl
theorem wd_513 : (Cond.static yL_endLoans) ∈ WG := WG_t3 (List.mem_of_getElem? (i := 21) (by decide +kernel)) rfl
theorem wd_514 : (Cond.code yL_endLoans method_9_code 6 (Option.none : Option FieldType)) ∈ WG := WG_t3 (List.mem_of_getElem? (i := 22) (rfl)) rfl
theorem wd_515 : (Cond.methodLink "MagnetPoemsLaw" 121 yL_night) ∈ WG := WG_t3 (List.mem_of_getElem? (i := 23) (by decide +kernel)) rfl
theorem wd_516 : (Cond.static yL_night) ∈ WG := WG_t3 (List.mem_of_getElem? (i := 24) (by decide +kernel)) rfl
theorem wd_517 : (Cond.code yL_night method_19_code 6 (Option.some FieldType.int)) ∈ WG := WG_t3 (List.mem_of_getElem? (i := 25) (rfl)) rfl
theorem wd_518 : (Cond.methodLink "MagnetPoemsLaw" 53 yL_leaves) ∈ WG := WG_t3 (List.mem_of_getElem? (i := 26) (by decide +kernel)) rfl
theorem wd_519 : (Cond.static yL_leaves) ∈ WG := WG_t3 (List.mem_of_getElem? (i := 27) (by decide +kernel)) rfl
theorem wd_520 : (Cond.code yL_leaves method_10_code 6 (Option.none : Option FieldType)) ∈ WG := WG_t3 (List.mem_of_getElem? (i := 28) (rfl)) rfl
theorem wd_521 : (Cond.methodLink "MagnetPoemsLaw" 125 yX3_ifSlept) ∈ WG := WG_t3 (List.mem_of_getElem? (i := 29) (by decide +kernel)) rfl
theorem wd_522 : (Cond.instanceMethod yX3_ifSlept) ∈ WG := WG_t3 (List.mem_of_getElem? (i := 30) (by decide +kernel)) rfl
theorem wd_523 : (Cond.selects "MagnetPoems" yX3_ifSlept yX3_ifSlept) ∈ WG := WG_t3 (List.mem_of_getElem? (i := 31) (by decide +kernel)) rfl
theorem wd_524 : (Cond.code yX3_ifSlept prog_1_method_27_code 3 (Option.some FieldType.int)) ∈ WG := WG_t3 (List.mem_of_getElem? (i := 32) (rfl)) rfl
theorem wd_525 : (Cond.methodLink "MagnetPoems" 152 yX3_isNights) ∈ WG := WG_t3 (List.mem_of_getElem? (i := 33) (by decide +kernel)) rfl
theorem wd_526 : (Cond.static yX3_isNights) ∈ WG := WG_t3 (List.mem_of_getElem? (i := 34) (by decide +kernel)) rfl
theorem wd_527 : (Cond.code yX3_isNights prog_1_method_45_code 1 (Option.some FieldType.boolean)) ∈ WG := WG_t3 (List.mem_of_getElem? (i := 35) (rfl)) rfl
theorem wd_529 : (Cond.methodLink "MagnetPoems" 215 yX0_copyFrom) ∈ WG := WG_t3 (List.mem_of_getElem? (i := 37) (by decide +kernel)) rfl
theorem wd_530 : (Cond.instanceMethod yX0_copyFrom) ∈ WG := WG_t3 (List.mem_of_getElem? (i := 38) (by decide +kernel)) rfl
theorem wd_531 : (Cond.selects "MagnetPoems$Board" yX0_copyFrom yX0_copyFrom) ∈ WG := WG_t3 (List.mem_of_getElem? (i := 39) (by decide +kernel)) rfl
theorem wd_532 : (Cond.code yX0_copyFrom prog_2_method_2_code 2 (Option.none : Option FieldType)) ∈ WG := WG_t3 (List.mem_of_getElem? (i := 40) (rfl)) rfl
theorem wd_534 : (Cond.static yX3_copyRow) ∈ WG := WG_t3 (List.mem_of_getElem? (i := 42) (by decide +kernel)) rfl
theorem wd_535 : (Cond.code yX3_copyRow prog_1_method_57_code 3 (Option.none : Option FieldType)) ∈ WG := WG_t3 (List.mem_of_getElem? (i := 43) (rfl)) rfl
theorem wd_536 : (Cond.methodLink "MagnetPoems" 162 yX0_passNights) ∈ WG := WG_t3 (List.mem_of_getElem? (i := 44) (by decide +kernel)) rfl
theorem wd_537 : (Cond.instanceMethod yX0_passNights) ∈ WG := WG_t3 (List.mem_of_getElem? (i := 45) (by decide +kernel)) rfl
theorem wd_538 : (Cond.selects "MagnetPoems$Board" yX0_passNights yX0_passNights) ∈ WG := WG_t3 (List.mem_of_getElem? (i := 46) (by decide +kernel)) rfl
theorem wd_539 : (Cond.code yX0_passNights prog_2_method_32_code 5 (Option.some FieldType.int)) ∈ WG := WG_t3 (List.mem_of_getElem? (i := 47) (rfl)) rfl
theorem wd_540 : (Cond.methodLink "MagnetPoems$Board" 137 yX0_watchOneNightFewer) ∈ WG := WG_t3 (List.mem_of_getElem? (i := 48) (by decide +kernel)) rfl
theorem wd_542 : (Cond.instanceMethod yX0_watchOneNightFewer) ∈ WG := WG_t3 (List.mem_of_getElem? (i := 50) (by decide +kernel)) rfl
theorem wd_543 : (Cond.code yX0_watchOneNightFewer prog_2_method_36_code 2 (Option.none : Option FieldType)) ∈ WG := WG_t3 (List.mem_of_getElem? (i := 51) (rfl)) rfl
theorem wd_544 : (Cond.methodLink "MagnetPoems$Board" 143 yX0_steal) ∈ WG := WG_t3 (List.mem_of_getElem? (i := 52) (by decide +kernel)) rfl
theorem wd_546 : (Cond.instanceMethod yX0_steal) ∈ WG := WG_t3 (List.mem_of_getElem? (i := 54) (by decide +kernel)) rfl
theorem wd_547 : (Cond.code yX0_steal prog_2_method_37_code 3 (Option.none : Option FieldType)) ∈ WG := WG_t3 (List.mem_of_getElem? (i := 55) (rfl)) rfl
theorem wd_548 : (Cond.methodLink "MagnetPoems$Board" 87 yX0_removeWord) ∈ WG := WG_t3 (List.mem_of_getElem? (i := 56) (by decide +kernel)) rfl
theorem wd_549 : (Cond.instanceMethod yX0_removeWord) ∈ WG := WG_t3 (List.mem_of_getElem? (i := 57) (by decide +kernel)) rfl
theorem wd_550 : (Cond.selects "MagnetPoems$Board" yX0_removeWord yX0_removeWord) ∈ WG := WG_t3 (List.mem_of_getElem? (i := 58) (by decide +kernel)) rfl
theorem wd_551 : (Cond.code yX0_removeWord prog_2_method_13_code 6 (Option.none : Option FieldType)) ∈ WG := WG_t3 (List.mem_of_getElem? (i := 59) (rfl)) rfl
theorem wd_552 : (Cond.methodLink "MagnetPoems$Board" 75 yX0_setWordAt) ∈ WG := WG_t3 (List.mem_of_getElem? (i := 60) (by decide +kernel)) rfl
theorem wd_553 : (Cond.instanceMethod yX0_setWordAt) ∈ WG := WG_t3 (List.mem_of_getElem? (i := 61) (by decide +kernel)) rfl
theorem wd_554 : (Cond.selects "MagnetPoems$Board" yX0_setWordAt yX0_setWordAt) ∈ WG := WG_t3 (List.mem_of_getElem? (i := 62) (by decide +kernel)) rfl
theorem wd_555 : (Cond.code yX0_setWordAt prog_2_method_7_code 4 (Option.none : Option FieldType)) ∈ WG := WG_t3 (List.mem_of_getElem? (i := 63) (rfl)) rfl
theorem wd_556 : (Cond.methodLink "MagnetPoems$Board" 79 yX0_endLoansOf) ∈ WG := WG_t3 (List.mem_of_getElem? (i := 64) (by decide +kernel)) rfl
theorem wd_558 : (Cond.instanceMethod yX0_endLoansOf) ∈ WG := WG_t3 (List.mem_of_getElem? (i := 66) (by decide +kernel)) rfl
theorem wd_559 : (Cond.code yX0_endLoansOf prog_2_method_31_code 3 (Option.none : Option FieldType)) ∈ WG := WG_t3 (List.mem_of_getElem? (i := 67) (rfl)) rfl
theorem wd_560 : (Cond.methodLink "MagnetPoems$Board" 130 yX0_endLoan) ∈ WG := WG_t3 (List.mem_of_getElem? (i := 68) (by decide +kernel)) rfl
theorem wd_561 : (Cond.instanceMethod yX0_endLoan) ∈ WG := WG_t3 (List.mem_of_getElem? (i := 69) (by decide +kernel)) rfl
theorem wd_562 : (Cond.selects "MagnetPoems$Board" yX0_endLoan yX0_endLoan) ∈ WG := WG_t3 (List.mem_of_getElem? (i := 70) (by decide +kernel)) rfl
theorem wd_563 : (Cond.code yX0_endLoan prog_2_method_30_code 3 (Option.none : Option FieldType)) ∈ WG := WG_t3 (List.mem_of_getElem? (i := 71) (rfl)) rfl
theorem wd_564 : (Cond.methodLink "MagnetPoems" 262 yX0_worthOfDoor) ∈ WG := WG_t3 (List.mem_of_getElem? (i := 72) (by decide +kernel)) rfl
theorem wd_565 : (Cond.methodLink "MagnetPoemsLaw" 204 yL_acts) ∈ WG := WG_t3 (List.mem_of_getElem? (i := 73) (by decide +kernel)) rfl
theorem wd_566 : (Cond.static yL_acts) ∈ WG := WG_t3 (List.mem_of_getElem? (i := 74) (by decide +kernel)) rfl
theorem wd_567 : (Cond.code yL_acts method_38_code 8 (Option.some FieldType.boolean)) ∈ WG := WG_t3 (List.mem_of_getElem? (i := 75) (rfl)) rfl
theorem wd_568 : (Cond.methodLink "MagnetPoemsLaw" 164 yL_puts) ∈ WG := WG_t3 (List.mem_of_getElem? (i := 76) (by decide +kernel)) rfl
theorem wd_569 : (Cond.static yL_puts) ∈ WG := WG_t3 (List.mem_of_getElem? (i := 77) (by decide +kernel)) rfl
theorem wd_570 : (Cond.code yL_puts method_28_code 11 (Option.some FieldType.boolean)) ∈ WG := WG_t3 (List.mem_of_getElem? (i := 78) (rfl)) rfl
theorem wd_571 : (Cond.methodLink "MagnetPoemsLaw" 128 yL_some) ∈ WG := WG_t3 (List.mem_of_getElem? (i := 79) (by decide +kernel)) rfl
theorem wd_572 : (Cond.static yL_some) ∈ WG := WG_t3 (List.mem_of_getElem? (i := 80) (by decide +kernel)) rfl
theorem wd_573 : (Cond.code yL_some method_27_code 6 (Option.some FieldType.int)) ∈ WG := WG_t3 (List.mem_of_getElem? (i := 81) (rfl)) rfl
theorem wd_574 : (Cond.methodLink "MagnetPoemsLaw" 132 yX3_put) ∈ WG := WG_t3 (List.mem_of_getElem? (i := 82) (by decide +kernel)) rfl
theorem wd_575 : (Cond.instanceMethod yX3_put) ∈ WG := WG_t3 (List.mem_of_getElem? (i := 83) (by decide +kernel)) rfl
theorem wd_576 : (Cond.selects "MagnetPoems" yX3_put yX3_put) ∈ WG := WG_t3 (List.mem_of_getElem? (i := 84) (by decide +kernel)) rfl
theorem wd_577 : (Cond.code yX3_put prog_1_method_2_code 7 (Option.some FieldType.int)) ∈ WG := WG_t3 (List.mem_of_getElem? (i := 85) (rfl)) rfl
theorem wd_578 : (Cond.methodLink "MagnetPoems" 60 yX0_isInBag) ∈ WG := WG_t3 (List.mem_of_getElem? (i := 86) (by decide +kernel)) rfl
theorem wd_579 : (Cond.instanceMethod yX0_isInBag) ∈ WG := WG_t3 (List.mem_of_getElem? (i := 87) (by decide +kernel)) rfl
theorem wd_580 : (Cond.selects "MagnetPoems$Board" yX0_isInBag yX0_isInBag) ∈ WG := WG_t3 (List.mem_of_getElem? (i := 88) (by decide +kernel)) rfl
theorem wd_581 : (Cond.code yX0_isInBag prog_2_method_4_code 2 (Option.some FieldType.boolean)) ∈ WG := WG_t3 (List.mem_of_getElem? (i := 89) (rfl)) rfl
theorem wd_582 : (Cond.classLink "MagnetPoems" 63 "java/lang/IllegalStateException") ∈ WG := WG_t3 (List.mem_of_getElem? (i := 90) (by decide +kernel)) rfl
theorem wd_583 : (Cond.instantiable "java/lang/IllegalStateException" 6) ∈ WG := WG_t3 (List.mem_of_getElem? (i := 91) (by decide +kernel)) rfl
theorem wd_585 : (Cond.selects "java/lang/IllegalStateException" ⟨"java/lang/Throwable", "fillInStackTrace", "(I)Ljava/lang/Throwable;"⟩ ⟨"java/lang/Throwable", "fillInStackTrace", "(I)Ljava/lang/Throwable;"⟩) ∈ WG := WG_t3 (List.mem_of_getElem? (i := 93) (by decide +kernel)) rfl
theorem wd_586 : (Cond.lays "java/lang/IllegalStateException" "java/lang/Throwable" "cause" "Ljava/lang/Throwable;") ∈ WG := WG_t3 (List.mem_of_getElem? (i := 94) (by decide +kernel)) rfl
theorem wd_587 : (Cond.lays "java/lang/IllegalStateException" "java/lang/Throwable" "stackTrace" "[Ljava/lang/StackTraceElement;") ∈ WG := WG_t3 (List.mem_of_getElem? (i := 95) (by decide +kernel)) rfl
theorem wd_588 : (Cond.lays "java/lang/IllegalStateException" "java/lang/Throwable" "suppressedExceptions" "Ljava/util/List;") ∈ WG := WG_t3 (List.mem_of_getElem? (i := 96) (by decide +kernel)) rfl
theorem wd_589 : (Cond.lays "java/lang/IllegalStateException" "java/lang/Throwable" "detailMessage" "Ljava/lang/String;") ∈ WG := WG_t3 (List.mem_of_getElem? (i := 97) (by decide +kernel)) rfl
theorem wd_590 : (Cond.lays "java/lang/IllegalStateException" "java/lang/Throwable" "backtrace" "Ljava/lang/Object;") ∈ WG := WG_t3 (List.mem_of_getElem? (i := 98) (by decide +kernel)) rfl
theorem wd_592 : (Cond.methodLink "MagnetPoems" 67 ⟨"java/lang/IllegalStateException", "<init>", "(Ljava/lang/String;)V"⟩) ∈ WG := WG_t3 (List.mem_of_getElem? (i := 100) (by decide +kernel)) rfl
theorem wd_593 : (Cond.instanceMethod ⟨"java/lang/IllegalStateException", "<init>", "(Ljava/lang/String;)V"⟩) ∈ WG := WG_t3 (List.mem_of_getElem? (i := 101) (by decide +kernel)) rfl
theorem wd_594 : (Cond.code ⟨"java/lang/IllegalStateException", "<init>", "(Ljava/lang/String;)V"⟩ prog_9_method_2_code 2 (Option.none : Option FieldType)) ∈ WG := WG_t3 (List.mem_of_getElem? (i := 102) (rfl)) rfl
theorem wd_595 : (Cond.methodLink "java/lang/IllegalStateException" 7 ⟨"java/lang/RuntimeException", "<init>", "(Ljava/lang/String;)V"⟩) ∈ WG := WG_t3 (List.mem_of_getElem? (i := 103) (by decide +kernel)) rfl
theorem wd_596 : (Cond.lays "java/lang/IllegalStateException" "java/lang/Throwable" "depth" "I") ∈ WG := WG_t3 (List.mem_of_getElem? (i := 104) (by decide +kernel)) rfl
theorem wd_597 : (Cond.superclass "java/lang/IllegalStateException" "java/lang/RuntimeException") ∈ WG := WG_t3 (List.mem_of_getElem? (i := 105) (by decide +kernel)) rfl
theorem wd_598 : (Cond.methodLink "MagnetPoems" 68 yX1_save) ∈ WG := WG_t3 (List.mem_of_getElem? (i := 106) (by decide +kernel)) rfl
theorem wd_599 : (Cond.instanceMethod yX1_save) ∈ WG := WG_t3 (List.mem_of_getElem? (i := 107) (by decide +kernel)) rfl
theorem wd_600 : (Cond.selects "MagnetPoems$History" yX1_save yX1_save) ∈ WG := WG_t3 (List.mem_of_getElem? (i := 108) (by decide +kernel)) rfl
theorem wd_601 : (Cond.code yX1_save prog_3_method_2_code 3 (Option.none : Option FieldType)) ∈ WG := WG_t3 (List.mem_of_getElem? (i := 109) (rfl)) rfl
theorem wd_602 : (Cond.methodLink "MagnetPoems$History" 25 yX1_stateAt) ∈ WG := WG_t3 (List.mem_of_getElem? (i := 110) (by decide +kernel)) rfl
theorem wd_604 : (Cond.instanceMethod yX1_stateAt) ∈ WG := WG_t3 (List.mem_of_getElem? (i := 112) (by decide +kernel)) rfl
theorem wd_605 : (Cond.code yX1_stateAt prog_3_method_4_code 3 (Option.some (FieldType.object "MagnetPoems$Board"))) ∈ WG := WG_t3 (List.mem_of_getElem? (i := 113) (rfl)) rfl
theorem wd_606 : (Cond.methodLink "MagnetPoems$History" 29 yX0_copyFrom) ∈ WG := WG_t3 (List.mem_of_getElem? (i := 114) (by decide +kernel)) rfl
theorem wd_607 : (Cond.methodLink "MagnetPoems" 84 yX0_insertWord) ∈ WG := WG_t3 (List.mem_of_getElem? (i := 115) (by decide +kernel)) rfl
theorem wd_608 : (Cond.instanceMethod yX0_insertWord) ∈ WG := WG_t3 (List.mem_of_getElem? (i := 116) (by decide +kernel)) rfl
theorem wd_609 : (Cond.selects "MagnetPoems$Board" yX0_insertWord yX0_insertWord) ∈ WG := WG_t3 (List.mem_of_getElem? (i := 117) (by decide +kernel)) rfl
theorem wd_610 : (Cond.code yX0_insertWord prog_2_method_12_code 6 (Option.none : Option FieldType)) ∈ WG := WG_t3 (List.mem_of_getElem? (i := 118) (rfl)) rfl
theorem wd_611 : (Cond.methodLink "MagnetPoemsLaw" 168 yL_takesOff) ∈ WG := WG_t3 (List.mem_of_getElem? (i := 119) (by decide +kernel)) rfl
theorem wd_612 : (Cond.static yL_takesOff) ∈ WG := WG_t3 (List.mem_of_getElem? (i := 120) (by decide +kernel)) rfl
theorem wd_613 : (Cond.code yL_takesOff method_30_code 6 (Option.some FieldType.boolean)) ∈ WG := WG_t3 (List.mem_of_getElem? (i := 121) (rfl)) rfl
theorem wd_614 : (Cond.methodLink "MagnetPoemsLaw" 138 yX3_takeOff) ∈ WG := WG_t3 (List.mem_of_getElem? (i := 122) (by decide +kernel)) rfl
theorem wd_615 : (Cond.instanceMethod yX3_takeOff) ∈ WG := WG_t3 (List.mem_of_getElem? (i := 123) (by decide +kernel)) rfl
theorem wd_616 : (Cond.selects "MagnetPoems" yX3_takeOff yX3_takeOff) ∈ WG := WG_t3 (List.mem_of_getElem? (i := 124) (by decide +kernel)) rfl
theorem wd_617 : (Cond.code yX3_takeOff prog_1_method_3_code 3 (Option.some FieldType.int)) ∈ WG := WG_t3 (List.mem_of_getElem? (i := 125) (rfl)) rfl
theorem wd_619 : (Cond.methodLink "MagnetPoems" 99 yX0_removeWord) ∈ WG := WG_t3 (List.mem_of_getElem? (i := 127) (by decide +kernel)) rfl
theorem wd_620 : (Cond.methodLink "MagnetPoems" 103 yX3_lineCode) ∈ WG := WG_t3 (List.mem_of_getElem? (i := 128) (by decide +kernel)) rfl
theorem wd_621 : (Cond.methodLink "MagnetPoemsLaw" 171 yL_moves) ∈ WG := WG_t3 (List.mem_of_getElem? (i := 129) (by decide +kernel)) rfl
theorem wd_622 : (Cond.static yL_moves) ∈ WG := WG_t3 (List.mem_of_getElem? (i := 130) (by decide +kernel)) rfl
theorem wd_623 : (Cond.code yL_moves method_29_code 8 (Option.some FieldType.boolean)) ∈ WG := WG_t3 (List.mem_of_getElem? (i := 131) (rfl)) rfl
theorem wd_624 : (Cond.methodLink "MagnetPoemsLaw" 135 yX3_move) ∈ WG := WG_t3 (List.mem_of_getElem? (i := 132) (by decide +kernel)) rfl
theorem wd_625 : (Cond.instanceMethod yX3_move) ∈ WG := WG_t3 (List.mem_of_getElem? (i := 133) (by decide +kernel)) rfl
theorem wd_626 : (Cond.selects "MagnetPoems" yX3_move yX3_move) ∈ WG := WG_t3 (List.mem_of_getElem? (i := 134) (by decide +kernel)) rfl
theorem wd_627 : (Cond.code yX3_move prog_1_method_4_code 7 (Option.some FieldType.int)) ∈ WG := WG_t3 (List.mem_of_getElem? (i := 135) (rfl)) rfl
theorem wd_630 : (Cond.methodLink "MagnetPoemsLaw" 175 yL_clears) ∈ WG := WG_t3 (List.mem_of_getElem? (i := 138) (by decide +kernel)) rfl
theorem wd_631 : (Cond.static yL_clears) ∈ WG := WG_t3 (List.mem_of_getElem? (i := 139) (by decide +kernel)) rfl
theorem wd_632 : (Cond.code yL_clears method_31_code 6 (Option.some FieldType.boolean)) ∈ WG := WG_t3 (List.mem_of_getElem? (i := 140) (rfl)) rfl
theorem wd_633 : (Cond.methodLink "MagnetPoemsLaw" 141 yX3_clearDoor) ∈ WG := WG_t3 (List.mem_of_getElem? (i := 141) (by decide +kernel)) rfl
theorem wd_634 : (Cond.instanceMethod yX3_clearDoor) ∈ WG := WG_t3 (List.mem_of_getElem? (i := 142) (by decide +kernel)) rfl
theorem wd_635 : (Cond.selects "MagnetPoems" yX3_clearDoor yX3_clearDoor) ∈ WG := WG_t3 (List.mem_of_getElem? (i := 143) (by decide +kernel)) rfl
theorem wd_636 : (Cond.code yX3_clearDoor prog_1_method_5_code 2 (Option.some FieldType.int)) ∈ WG := WG_t3 (List.mem_of_getElem? (i := 144) (rfl)) rfl
theorem wd_637 : (Cond.methodLink "MagnetPoems" 122 yX0_emptyDoor) ∈ WG := WG_t3 (List.mem_of_getElem? (i := 145) (by decide +kernel)) rfl
theorem wd_638 : (Cond.instanceMethod yX0_emptyDoor) ∈ WG := WG_t3 (List.mem_of_getElem? (i := 146) (by decide +kernel)) rfl
theorem wd_639 : (Cond.selects "MagnetPoems$Board" yX0_emptyDoor yX0_emptyDoor) ∈ WG := WG_t3 (List.mem_of_getElem? (i := 147) (by decide +kernel)) rfl
theorem wd_640 : (Cond.code yX0_emptyDoor prog_2_method_14_code 4 (Option.some FieldType.int)) ∈ WG := WG_t3 (List.mem_of_getElem? (i := 148) (rfl)) rfl
theorem wd_641 : (Cond.methodLink "MagnetPoemsLaw" 178 yL_lends) ∈ WG := WG_t3 (List.mem_of_getElem? (i := 149) (by decide +kernel)) rfl
theorem wd_642 : (Cond.static yL_lends) ∈ WG := WG_t3 (List.mem_of_getElem? (i := 150) (by decide +kernel)) rfl
theorem wd_643 : (Cond.code yL_lends method_34_code 6 (Option.some FieldType.boolean)) ∈ WG := WG_t3 (List.mem_of_getElem? (i := 151) (rfl)) rfl
theorem wd_644 : (Cond.methodLink "MagnetPoemsLaw" 148 yL_freeLine) ∈ WG := WG_t3 (List.mem_of_getElem? (i := 152) (by decide +kernel)) rfl
theorem wd_645 : (Cond.static yL_freeLine) ∈ WG := WG_t3 (List.mem_of_getElem? (i := 153) (by decide +kernel)) rfl
theorem wd_646 : (Cond.code yL_freeLine method_33_code 8 (Option.some FieldType.int)) ∈ WG := WG_t3 (List.mem_of_getElem? (i := 154) (rfl)) rfl
theorem wd_647 : (Cond.methodLink "MagnetPoemsLaw" 144 yL_isFree) ∈ WG := WG_t3 (List.mem_of_getElem? (i := 155) (by decide +kernel)) rfl
theorem wd_648 : (Cond.static yL_isFree) ∈ WG := WG_t3 (List.mem_of_getElem? (i := 156) (by decide +kernel)) rfl
theorem wd_649 : (Cond.code yL_isFree method_32_code 5 (Option.some FieldType.boolean)) ∈ WG := WG_t3 (List.mem_of_getElem? (i := 157) (rfl)) rfl
theorem wd_650 : (Cond.methodLink "MagnetPoemsLaw" 152 yX3_borrow) ∈ WG := WG_t3 (List.mem_of_getElem? (i := 158) (by decide +kernel)) rfl
theorem wd_651 : (Cond.instanceMethod yX3_borrow) ∈ WG := WG_t3 (List.mem_of_getElem? (i := 159) (by decide +kernel)) rfl
theorem wd_652 : (Cond.selects "MagnetPoems" yX3_borrow yX3_borrow) ∈ WG := WG_t3 (List.mem_of_getElem? (i := 160) (by decide +kernel)) rfl
theorem wd_653 : (Cond.code yX3_borrow prog_1_method_6_code 7 (Option.some FieldType.int)) ∈ WG := WG_t3 (List.mem_of_getElem? (i := 161) (rfl)) rfl
theorem wd_655 : (Cond.methodLink "MagnetPoems" 132 yX0_isFreeForLoan) ∈ WG := WG_t3 (List.mem_of_getElem? (i := 163) (by decide +kernel)) rfl
theorem wd_656 : (Cond.instanceMethod yX0_isFreeForLoan) ∈ WG := WG_t3 (List.mem_of_getElem? (i := 164) (by decide +kernel)) rfl
theorem wd_657 : (Cond.selects "MagnetPoems$Board" yX0_isFreeForLoan yX0_isFreeForLoan) ∈ WG := WG_t3 (List.mem_of_getElem? (i := 165) (by decide +kernel)) rfl
theorem wd_658 : (Cond.code yX0_isFreeForLoan prog_2_method_27_code 2 (Option.some FieldType.boolean)) ∈ WG := WG_t3 (List.mem_of_getElem? (i := 166) (rfl)) rfl
theorem wd_660 : (Cond.methodLink "MagnetPoems" 137 yX0_startLoan) ∈ WG := WG_t3 (List.mem_of_getElem? (i := 168) (by decide +kernel)) rfl
theorem wd_661 : (Cond.instanceMethod yX0_startLoan) ∈ WG := WG_t3 (List.mem_of_getElem? (i := 169) (by decide +kernel)) rfl
theorem wd_662 : (Cond.selects "MagnetPoems$Board" yX0_startLoan yX0_startLoan) ∈ WG := WG_t3 (List.mem_of_getElem? (i := 170) (by decide +kernel)) rfl
theorem wd_663 : (Cond.code yX0_startLoan prog_2_method_29_code 3 (Option.none : Option FieldType)) ∈ WG := WG_t3 (List.mem_of_getElem? (i := 171) (rfl)) rfl
theorem wd_664 : (Cond.methodLink "MagnetPoems" 141 yX0_endingOn) ∈ WG := WG_t3 (List.mem_of_getElem? (i := 172) (by decide +kernel)) rfl
theorem wd_665 : (Cond.methodLink "MagnetPoemsLaw" 181 yL_bringsBack) ∈ WG := WG_t3 (List.mem_of_getElem? (i := 173) (by decide +kernel)) rfl
theorem wd_666 : (Cond.static yL_bringsBack) ∈ WG := WG_t3 (List.mem_of_getElem? (i := 174) (by decide +kernel)) rfl
theorem wd_667 : (Cond.code yL_bringsBack method_35_code 6 (Option.some FieldType.boolean)) ∈ WG := WG_t3 (List.mem_of_getElem? (i := 175) (rfl)) rfl
theorem wd_668 : (Cond.methodLink "MagnetPoemsLaw" 155 yX3_bringBack) ∈ WG := WG_t3 (List.mem_of_getElem? (i := 176) (by decide +kernel)) rfl
theorem wd_669 : (Cond.instanceMethod yX3_bringBack) ∈ WG := WG_t3 (List.mem_of_getElem? (i := 177) (by decide +kernel)) rfl
theorem wd_670 : (Cond.selects "MagnetPoems" yX3_bringBack yX3_bringBack) ∈ WG := WG_t3 (List.mem_of_getElem? (i := 178) (by decide +kernel)) rfl
theorem wd_671 : (Cond.code yX3_bringBack prog_1_method_7_code 4 (Option.some FieldType.int)) ∈ WG := WG_t3 (List.mem_of_getElem? (i := 179) (rfl)) rfl
theorem wd_672 : (Cond.methodLink "MagnetPoems" 144 yX0_borrows) ∈ WG := WG_t3 (List.mem_of_getElem? (i := 180) (by decide +kernel)) rfl
theorem wd_673 : (Cond.instanceMethod yX0_borrows) ∈ WG := WG_t3 (List.mem_of_getElem? (i := 181) (by decide +kernel)) rfl
theorem wd_674 : (Cond.selects "MagnetPoems$Board" yX0_borrows yX0_borrows) ∈ WG := WG_t3 (List.mem_of_getElem? (i := 182) (by decide +kernel)) rfl
theorem wd_675 : (Cond.code yX0_borrows prog_2_method_26_code 2 (Option.some FieldType.boolean)) ∈ WG := WG_t3 (List.mem_of_getElem? (i := 183) (rfl)) rfl
theorem wd_677 : (Cond.methodLink "MagnetPoems" 149 yX0_endLoan) ∈ WG := WG_t3 (List.mem_of_getElem? (i := 185) (by decide +kernel)) rfl
theorem wd_678 : (Cond.methodLink "MagnetPoemsLaw" 184 yL_sleeps) ∈ WG := WG_t3 (List.mem_of_getElem? (i := 186) (by decide +kernel)) rfl
theorem wd_679 : (Cond.static yL_sleeps) ∈ WG := WG_t3 (List.mem_of_getElem? (i := 187) (by decide +kernel)) rfl
theorem wd_680 : (Cond.code yL_sleeps method_36_code 8 (Option.some FieldType.boolean)) ∈ WG := WG_t3 (List.mem_of_getElem? (i := 188) (rfl)) rfl
theorem wd_681 : (Cond.methodLink "MagnetPoemsLaw" 158 yX3_sleep) ∈ WG := WG_t3 (List.mem_of_getElem? (i := 189) (by decide +kernel)) rfl
theorem wd_682 : (Cond.instanceMethod yX3_sleep) ∈ WG := WG_t3 (List.mem_of_getElem? (i := 190) (by decide +kernel)) rfl
theorem wd_683 : (Cond.selects "MagnetPoems" yX3_sleep yX3_sleep) ∈ WG := WG_t3 (List.mem_of_getElem? (i := 191) (by decide +kernel)) rfl
theorem wd_684 : (Cond.code yX3_sleep prog_1_method_8_code 2 (Option.some FieldType.int)) ∈ WG := WG_t3 (List.mem_of_getElem? (i := 192) (rfl)) rfl
theorem wd_686 : (Cond.methodLink "MagnetPoemsLaw" 188 yL_sets) ∈ WG := WG_t3 (List.mem_of_getElem? (i := 194) (by decide +kernel)) rfl
theorem wd_687 : (Cond.static yL_sets) ∈ WG := WG_t3 (List.mem_of_getElem? (i := 195) (by decide +kernel)) rfl
theorem wd_688 : (Cond.code yL_sets method_37_code 5 (Option.some FieldType.boolean)) ∈ WG := WG_t3 (List.mem_of_getElem? (i := 196) (rfl)) rfl
theorem wd_689 : (Cond.methodLink "MagnetPoemsLaw" 161 yX3_set) ∈ WG := WG_t3 (List.mem_of_getElem? (i := 197) (by decide +kernel)) rfl
theorem wd_690 : (Cond.instanceMethod yX3_set) ∈ WG := WG_t3 (List.mem_of_getElem? (i := 198) (by decide +kernel)) rfl
theorem wd_691 : (Cond.selects "MagnetPoems" yX3_set yX3_set) ∈ WG := WG_t3 (List.mem_of_getElem? (i := 199) (by decide +kernel)) rfl
theorem wd_692 : (Cond.code yX3_set prog_1_method_9_code 4 (Option.some FieldType.int)) ∈ WG := WG_t3 (List.mem_of_getElem? (i := 200) (rfl)) rfl
theorem wd_693 : (Cond.methodLink "MagnetPoems" 170 yX3_greatestOf) ∈ WG := WG_t3 (List.mem_of_getElem? (i := 201) (by decide +kernel)) rfl
theorem wd_694 : (Cond.static yX3_greatestOf) ∈ WG := WG_t3 (List.mem_of_getElem? (i := 202) (by decide +kernel)) rfl
theorem wd_695 : (Cond.code yX3_greatestOf prog_1_method_48_code 1 (Option.some FieldType.int)) ∈ WG := WG_t3 (List.mem_of_getElem? (i := 203) (rfl)) rfl
theorem wd_697 : (Cond.methodLink "MagnetPoems" 178 yX0_changeSetting) ∈ WG := WG_t3 (List.mem_of_getElem? (i := 205) (by decide +kernel)) rfl
theorem wd_698 : (Cond.instanceMethod yX0_changeSetting) ∈ WG := WG_t3 (List.mem_of_getElem? (i := 206) (by decide +kernel)) rfl
theorem wd_699 : (Cond.selects "MagnetPoems$Board" yX0_changeSetting yX0_changeSetting) ∈ WG := WG_t3 (List.mem_of_getElem? (i := 207) (by decide +kernel)) rfl
theorem wd_700 : (Cond.code yX0_changeSetting prog_2_method_39_code 3 (Option.none : Option FieldType)) ∈ WG := WG_t3 (List.mem_of_getElem? (i := 208) (rfl)) rfl
theorem wd_701 : (Cond.sameMethod "java/lang/Throwable" "java/lang/Throwable" "fillInStackTrace" "(I)Ljava/lang/Throwable;") ∈ WG := WG_t3 (List.mem_of_getElem? (i := 209) (by decide +kernel)) rfl
end
section
theorem nd_L_acts : yL_acts.cls ≠ "java/lang/invoke/MethodHandle" ∧ yL_acts.cls ≠ "java/lang/invoke/VarHandle" ∧ (parseMethodDescriptor yL_acts.desc).map (fun d => d.parameters.length) = some 8 := by decide +kernel
theorem nd_L_areDoors : yL_areDoors.cls ≠ "java/lang/invoke/MethodHandle" ∧ yL_areDoors.cls ≠ "java/lang/invoke/VarHandle" ∧ (parseMethodDescriptor yL_areDoors.desc).map (fun d => d.parameters.length) = some 4 := by decide +kernel
theorem nd_L_areWords : yL_areWords.cls ≠ "java/lang/invoke/MethodHandle" ∧ yL_areWords.cls ≠ "java/lang/invoke/VarHandle" ∧ (parseMethodDescriptor yL_areWords.desc).map (fun d => d.parameters.length) = some 3 := by decide +kernel
theorem nd_L_beats : yL_beats.cls ≠ "java/lang/invoke/MethodHandle" ∧ yL_beats.cls ≠ "java/lang/invoke/VarHandle" ∧ (parseMethodDescriptor yL_beats.desc).map (fun d => d.parameters.length) = some 2 := by decide +kernel
theorem nd_L_bestWord : yL_bestWord.cls ≠ "java/lang/invoke/MethodHandle" ∧ yL_bestWord.cls ≠ "java/lang/invoke/VarHandle" ∧ (parseMethodDescriptor yL_bestWord.desc).map (fun d => d.parameters.length) = some 4 := by decide +kernel
theorem nd_L_bringsBack : yL_bringsBack.cls ≠ "java/lang/invoke/MethodHandle" ∧ yL_bringsBack.cls ≠ "java/lang/invoke/VarHandle" ∧ (parseMethodDescriptor yL_bringsBack.desc).map (fun d => d.parameters.length) = some 4 := by decide +kernel
theorem nd_L_cell : yL_cell.cls ≠ "java/lang/invoke/MethodHandle" ∧ yL_cell.cls ≠ "java/lang/invoke/VarHandle" ∧ (parseMethodDescriptor yL_cell.desc).map (fun d => d.parameters.length) = some 2 := by decide +kernel
theorem nd_L_clears : yL_clears.cls ≠ "java/lang/invoke/MethodHandle" ∧ yL_clears.cls ≠ "java/lang/invoke/VarHandle" ∧ (parseMethodDescriptor yL_clears.desc).map (fun d => d.parameters.length) = some 4 := by decide +kernel
theorem nd_L_comes : yL_comes.cls ≠ "java/lang/invoke/MethodHandle" ∧ yL_comes.cls ≠ "java/lang/invoke/VarHandle" ∧ (parseMethodDescriptor yL_comes.desc).map (fun d => d.parameters.length) = some 5 := by decide +kernel
theorem nd_L_copy : yL_copy.cls ≠ "java/lang/invoke/MethodHandle" ∧ yL_copy.cls ≠ "java/lang/invoke/VarHandle" ∧ (parseMethodDescriptor yL_copy.desc).map (fun d => d.parameters.length) = some 2 := by decide +kernel
theorem nd_L_doorWords : yL_doorWords.cls ≠ "java/lang/invoke/MethodHandle" ∧ yL_doorWords.cls ≠ "java/lang/invoke/VarHandle" ∧ (parseMethodDescriptor yL_doorWords.desc).map (fun d => d.parameters.length) = some 2 := by decide +kernel
theorem nd_L_doorWorth : yL_doorWorth.cls ≠ "java/lang/invoke/MethodHandle" ∧ yL_doorWorth.cls ≠ "java/lang/invoke/VarHandle" ∧ (parseMethodDescriptor yL_doorWorth.desc).map (fun d => d.parameters.length) = some 3 := by decide +kernel
theorem nd_L_endLoans : yL_endLoans.cls ≠ "java/lang/invoke/MethodHandle" ∧ yL_endLoans.cls ≠ "java/lang/invoke/VarHandle" ∧ (parseMethodDescriptor yL_endLoans.desc).map (fun d => d.parameters.length) = some 4 := by decide +kernel
theorem nd_L_ending : yL_ending.cls ≠ "java/lang/invoke/MethodHandle" ∧ yL_ending.cls ≠ "java/lang/invoke/VarHandle" ∧ (parseMethodDescriptor yL_ending.desc).map (fun d => d.parameters.length) = some 3 := by decide +kernel
theorem nd_L_freeLine : yL_freeLine.cls ≠ "java/lang/invoke/MethodHandle" ∧ yL_freeLine.cls ≠ "java/lang/invoke/VarHandle" ∧ (parseMethodDescriptor yL_freeLine.desc).map (fun d => d.parameters.length) = some 5 := by decide +kernel
theorem nd_L_isFree : yL_isFree.cls ≠ "java/lang/invoke/MethodHandle" ∧ yL_isFree.cls ≠ "java/lang/invoke/VarHandle" ∧ (parseMethodDescriptor yL_isFree.desc).map (fun d => d.parameters.length) = some 3 := by decide +kernel
theorem nd_L_isLine : yL_isLine.cls ≠ "java/lang/invoke/MethodHandle" ∧ yL_isLine.cls ≠ "java/lang/invoke/VarHandle" ∧ (parseMethodDescriptor yL_isLine.desc).map (fun d => d.parameters.length) = some 4 := by decide +kernel
theorem nd_L_isOn : yL_isOn.cls ≠ "java/lang/invoke/MethodHandle" ∧ yL_isOn.cls ≠ "java/lang/invoke/VarHandle" ∧ (parseMethodDescriptor yL_isOn.desc).map (fun d => d.parameters.length) = some 3 := by decide +kernel
theorem nd_L_last : yL_last.cls ≠ "java/lang/invoke/MethodHandle" ∧ yL_last.cls ≠ "java/lang/invoke/VarHandle" ∧ (parseMethodDescriptor yL_last.desc).map (fun d => d.parameters.length) = some 2 := by decide +kernel
theorem nd_L_leaves : yL_leaves.cls ≠ "java/lang/invoke/MethodHandle" ∧ yL_leaves.cls ≠ "java/lang/invoke/VarHandle" ∧ (parseMethodDescriptor yL_leaves.desc).map (fun d => d.parameters.length) = some 3 := by decide +kernel
theorem nd_L_lends : yL_lends.cls ≠ "java/lang/invoke/MethodHandle" ∧ yL_lends.cls ≠ "java/lang/invoke/VarHandle" ∧ (parseMethodDescriptor yL_lends.desc).map (fun d => d.parameters.length) = some 4 := by decide +kernel
theorem nd_L_low : yL_low.cls ≠ "java/lang/invoke/MethodHandle" ∧ yL_low.cls ≠ "java/lang/invoke/VarHandle" ∧ (parseMethodDescriptor yL_low.desc).map (fun d => d.parameters.length) = some 2 := by decide +kernel
theorem nd_L_many : yL_many.cls ≠ "java/lang/invoke/MethodHandle" ∧ yL_many.cls ≠ "java/lang/invoke/VarHandle" ∧ (parseMethodDescriptor yL_many.desc).map (fun d => d.parameters.length) = some 2 := by decide +kernel
theorem nd_L_moves : yL_moves.cls ≠ "java/lang/invoke/MethodHandle" ∧ yL_moves.cls ≠ "java/lang/invoke/VarHandle" ∧ (parseMethodDescriptor yL_moves.desc).map (fun d => d.parameters.length) = some 5 := by decide +kernel
theorem nd_L_night : yL_night.cls ≠ "java/lang/invoke/MethodHandle" ∧ yL_night.cls ≠ "java/lang/invoke/VarHandle" ∧ (parseMethodDescriptor yL_night.desc).map (fun d => d.parameters.length) = some 4 := by decide +kernel
theorem nd_L_prey : yL_prey.cls ≠ "java/lang/invoke/MethodHandle" ∧ yL_prey.cls ≠ "java/lang/invoke/VarHandle" ∧ (parseMethodDescriptor yL_prey.desc).map (fun d => d.parameters.length) = some 3 := by decide +kernel
theorem nd_L_puts : yL_puts.cls ≠ "java/lang/invoke/MethodHandle" ∧ yL_puts.cls ≠ "java/lang/invoke/VarHandle" ∧ (parseMethodDescriptor yL_puts.desc).map (fun d => d.parameters.length) = some 6 := by decide +kernel
theorem nd_L_reason : yL_reason.cls ≠ "java/lang/invoke/MethodHandle" ∧ yL_reason.cls ≠ "java/lang/invoke/VarHandle" ∧ (parseMethodDescriptor yL_reason.desc).map (fun d => d.parameters.length) = some 5 := by decide +kernel
theorem nd_L_rhymes : yL_rhymes.cls ≠ "java/lang/invoke/MethodHandle" ∧ yL_rhymes.cls ≠ "java/lang/invoke/VarHandle" ∧ (parseMethodDescriptor yL_rhymes.desc).map (fun d => d.parameters.length) = some 3 := by decide +kernel
theorem nd_L_sets : yL_sets.cls ≠ "java/lang/invoke/MethodHandle" ∧ yL_sets.cls ≠ "java/lang/invoke/VarHandle" ∧ (parseMethodDescriptor yL_sets.desc).map (fun d => d.parameters.length) = some 3 := by decide +kernel
theorem nd_L_sleeps : yL_sleeps.cls ≠ "java/lang/invoke/MethodHandle" ∧ yL_sleeps.cls ≠ "java/lang/invoke/VarHandle" ∧ (parseMethodDescriptor yL_sleeps.desc).map (fun d => d.parameters.length) = some 6 := by decide +kernel
theorem nd_L_some : yL_some.cls ≠ "java/lang/invoke/MethodHandle" ∧ yL_some.cls ≠ "java/lang/invoke/VarHandle" ∧ (parseMethodDescriptor yL_some.desc).map (fun d => d.parameters.length) = some 3 := by decide +kernel
theorem nd_L_takesOff : yL_takesOff.cls ≠ "java/lang/invoke/MethodHandle" ∧ yL_takesOff.cls ≠ "java/lang/invoke/VarHandle" ∧ (parseMethodDescriptor yL_takesOff.desc).map (fun d => d.parameters.length) = some 4 := by decide +kernel
theorem nd_L_told : yL_told.cls ≠ "java/lang/invoke/MethodHandle" ∧ yL_told.cls ≠ "java/lang/invoke/VarHandle" ∧ (parseMethodDescriptor yL_told.desc).map (fun d => d.parameters.length) = some 1 := by decide +kernel
theorem nd_L_wordAt : yL_wordAt.cls ≠ "java/lang/invoke/MethodHandle" ∧ yL_wordAt.cls ≠ "java/lang/invoke/VarHandle" ∧ (parseMethodDescriptor yL_wordAt.desc).map (fun d => d.parameters.length) = some 3 := by decide +kernel
theorem nd_L_worth : yL_worth.cls ≠ "java/lang/invoke/MethodHandle" ∧ yL_worth.cls ≠ "java/lang/invoke/VarHandle" ∧ (parseMethodDescriptor yL_worth.desc).map (fun d => d.parameters.length) = some 2 := by decide +kernel
theorem nd_L_would : yL_would.cls ≠ "java/lang/invoke/MethodHandle" ∧ yL_would.cls ≠ "java/lang/invoke/VarHandle" ∧ (parseMethodDescriptor yL_would.desc).map (fun d => d.parameters.length) = some 6 := by decide +kernel
theorem nd_X0_bagToldByLines : yX0_bagToldByLines.cls ≠ "java/lang/invoke/MethodHandle" ∧ yX0_bagToldByLines.cls ≠ "java/lang/invoke/VarHandle" ∧ (parseMethodDescriptor yX0_bagToldByLines.desc).map (fun d => d.parameters.length) = some 0 := by decide +kernel
theorem nd_X0_bagToldByWords : yX0_bagToldByWords.cls ≠ "java/lang/invoke/MethodHandle" ∧ yX0_bagToldByWords.cls ≠ "java/lang/invoke/VarHandle" ∧ (parseMethodDescriptor yX0_bagToldByWords.desc).map (fun d => d.parameters.length) = some 0 := by decide +kernel
theorem nd_X0_beatsOn : yX0_beatsOn.cls ≠ "java/lang/invoke/MethodHandle" ∧ yX0_beatsOn.cls ≠ "java/lang/invoke/VarHandle" ∧ (parseMethodDescriptor yX0_beatsOn.desc).map (fun d => d.parameters.length) = some 1 := by decide +kernel
theorem nd_X0_bestWordFor : yX0_bestWordFor.cls ≠ "java/lang/invoke/MethodHandle" ∧ yX0_bestWordFor.cls ≠ "java/lang/invoke/VarHandle" ∧ (parseMethodDescriptor yX0_bestWordFor.desc).map (fun d => d.parameters.length) = some 1 := by decide +kernel
theorem nd_X0_borrows : yX0_borrows.cls ≠ "java/lang/invoke/MethodHandle" ∧ yX0_borrows.cls ≠ "java/lang/invoke/VarHandle" ∧ (parseMethodDescriptor yX0_borrows.desc).map (fun d => d.parameters.length) = some 1 := by decide +kernel
theorem nd_X0_changeSetting : yX0_changeSetting.cls ≠ "java/lang/invoke/MethodHandle" ∧ yX0_changeSetting.cls ≠ "java/lang/invoke/VarHandle" ∧ (parseMethodDescriptor yX0_changeSetting.desc).map (fun d => d.parameters.length) = some 2 := by decide +kernel
theorem nd_X0_clashes : yX0_clashes.cls ≠ "java/lang/invoke/MethodHandle" ∧ yX0_clashes.cls ≠ "java/lang/invoke/VarHandle" ∧ (parseMethodDescriptor yX0_clashes.desc).map (fun d => d.parameters.length) = some 1 := by decide +kernel
theorem nd_X0_copyFrom : yX0_copyFrom.cls ≠ "java/lang/invoke/MethodHandle" ∧ yX0_copyFrom.cls ≠ "java/lang/invoke/VarHandle" ∧ (parseMethodDescriptor yX0_copyFrom.desc).map (fun d => d.parameters.length) = some 1 := by decide +kernel
theorem nd_X0_doorOfThief : yX0_doorOfThief.cls ≠ "java/lang/invoke/MethodHandle" ∧ yX0_doorOfThief.cls ≠ "java/lang/invoke/VarHandle" ∧ (parseMethodDescriptor yX0_doorOfThief.desc).map (fun d => d.parameters.length) = some 0 := by decide +kernel
theorem nd_X0_doorProperty : yX0_doorProperty.cls ≠ "java/lang/invoke/MethodHandle" ∧ yX0_doorProperty.cls ≠ "java/lang/invoke/VarHandle" ∧ (parseMethodDescriptor yX0_doorProperty.desc).map (fun d => d.parameters.length) = some 2 := by decide +kernel
theorem nd_X0_emptyDoor : yX0_emptyDoor.cls ≠ "java/lang/invoke/MethodHandle" ∧ yX0_emptyDoor.cls ≠ "java/lang/invoke/VarHandle" ∧ (parseMethodDescriptor yX0_emptyDoor.desc).map (fun d => d.parameters.length) = some 1 := by decide +kernel
theorem nd_X0_endLoan : yX0_endLoan.cls ≠ "java/lang/invoke/MethodHandle" ∧ yX0_endLoan.cls ≠ "java/lang/invoke/VarHandle" ∧ (parseMethodDescriptor yX0_endLoan.desc).map (fun d => d.parameters.length) = some 1 := by decide +kernel
theorem nd_X0_endLoansOf : yX0_endLoansOf.cls ≠ "java/lang/invoke/MethodHandle" ∧ yX0_endLoansOf.cls ≠ "java/lang/invoke/VarHandle" ∧ (parseMethodDescriptor yX0_endLoansOf.desc).map (fun d => d.parameters.length) = some 2 := by decide +kernel
theorem nd_X0_endingOn : yX0_endingOn.cls ≠ "java/lang/invoke/MethodHandle" ∧ yX0_endingOn.cls ≠ "java/lang/invoke/VarHandle" ∧ (parseMethodDescriptor yX0_endingOn.desc).map (fun d => d.parameters.length) = some 1 := by decide +kernel
theorem nd_X0_homeOf : yX0_homeOf.cls ≠ "java/lang/invoke/MethodHandle" ∧ yX0_homeOf.cls ≠ "java/lang/invoke/VarHandle" ∧ (parseMethodDescriptor yX0_homeOf.desc).map (fun d => d.parameters.length) = some 1 := by decide +kernel
theorem nd_X0_init : yX0_init.cls ≠ "java/lang/invoke/MethodHandle" ∧ yX0_init.cls ≠ "java/lang/invoke/VarHandle" ∧ (parseMethodDescriptor yX0_init.desc).map (fun d => d.parameters.length) = some 0 := by decide +kernel
theorem nd_X0_insertWord : yX0_insertWord.cls ≠ "java/lang/invoke/MethodHandle" ∧ yX0_insertWord.cls ≠ "java/lang/invoke/VarHandle" ∧ (parseMethodDescriptor yX0_insertWord.desc).map (fun d => d.parameters.length) = some 3 := by decide +kernel
theorem nd_X0_isFreeForLoan : yX0_isFreeForLoan.cls ≠ "java/lang/invoke/MethodHandle" ∧ yX0_isFreeForLoan.cls ≠ "java/lang/invoke/VarHandle" ∧ (parseMethodDescriptor yX0_isFreeForLoan.desc).map (fun d => d.parameters.length) = some 1 := by decide +kernel
theorem nd_X0_isInBag : yX0_isInBag.cls ≠ "java/lang/invoke/MethodHandle" ∧ yX0_isInBag.cls ≠ "java/lang/invoke/VarHandle" ∧ (parseMethodDescriptor yX0_isInBag.desc).map (fun d => d.parameters.length) = some 1 := by decide +kernel
theorem nd_X0_lineProperty : yX0_lineProperty.cls ≠ "java/lang/invoke/MethodHandle" ∧ yX0_lineProperty.cls ≠ "java/lang/invoke/VarHandle" ∧ (parseMethodDescriptor yX0_lineProperty.desc).map (fun d => d.parameters.length) = some 2 := by decide +kernel
theorem nd_X0_loans : yX0_loans.cls ≠ "java/lang/invoke/MethodHandle" ∧ yX0_loans.cls ≠ "java/lang/invoke/VarHandle" ∧ (parseMethodDescriptor yX0_loans.desc).map (fun d => d.parameters.length) = some 0 := by decide +kernel
theorem nd_X0_nextPrey : yX0_nextPrey.cls ≠ "java/lang/invoke/MethodHandle" ∧ yX0_nextPrey.cls ≠ "java/lang/invoke/VarHandle" ∧ (parseMethodDescriptor yX0_nextPrey.desc).map (fun d => d.parameters.length) = some 0 := by decide +kernel
theorem nd_X0_passNights : yX0_passNights.cls ≠ "java/lang/invoke/MethodHandle" ∧ yX0_passNights.cls ≠ "java/lang/invoke/VarHandle" ∧ (parseMethodDescriptor yX0_passNights.desc).map (fun d => d.parameters.length) = some 1 := by decide +kernel
theorem nd_X0_placeOf : yX0_placeOf.cls ≠ "java/lang/invoke/MethodHandle" ∧ yX0_placeOf.cls ≠ "java/lang/invoke/VarHandle" ∧ (parseMethodDescriptor yX0_placeOf.desc).map (fun d => d.parameters.length) = some 1 := by decide +kernel
theorem nd_X0_preyOn : yX0_preyOn.cls ≠ "java/lang/invoke/MethodHandle" ∧ yX0_preyOn.cls ≠ "java/lang/invoke/VarHandle" ∧ (parseMethodDescriptor yX0_preyOn.desc).map (fun d => d.parameters.length) = some 1 := by decide +kernel
theorem nd_X0_refusal : yX0_refusal.cls ≠ "java/lang/invoke/MethodHandle" ∧ yX0_refusal.cls ≠ "java/lang/invoke/VarHandle" ∧ (parseMethodDescriptor yX0_refusal.desc).map (fun d => d.parameters.length) = some 3 := by decide +kernel
theorem nd_X0_removeWord : yX0_removeWord.cls ≠ "java/lang/invoke/MethodHandle" ∧ yX0_removeWord.cls ≠ "java/lang/invoke/VarHandle" ∧ (parseMethodDescriptor yX0_removeWord.desc).map (fun d => d.parameters.length) = some 1 := by decide +kernel
theorem nd_X0_rhymesOf : yX0_rhymesOf.cls ≠ "java/lang/invoke/MethodHandle" ∧ yX0_rhymesOf.cls ≠ "java/lang/invoke/VarHandle" ∧ (parseMethodDescriptor yX0_rhymesOf.desc).map (fun d => d.parameters.length) = some 2 := by decide +kernel
theorem nd_X0_rhymesOfDoor : yX0_rhymesOfDoor.cls ≠ "java/lang/invoke/MethodHandle" ∧ yX0_rhymesOfDoor.cls ≠ "java/lang/invoke/VarHandle" ∧ (parseMethodDescriptor yX0_rhymesOfDoor.desc).map (fun d => d.parameters.length) = some 1 := by decide +kernel
theorem nd_X0_setWordAt : yX0_setWordAt.cls ≠ "java/lang/invoke/MethodHandle" ∧ yX0_setWordAt.cls ≠ "java/lang/invoke/VarHandle" ∧ (parseMethodDescriptor yX0_setWordAt.desc).map (fun d => d.parameters.length) = some 3 := by decide +kernel
theorem nd_X0_settingValue : yX0_settingValue.cls ≠ "java/lang/invoke/MethodHandle" ∧ yX0_settingValue.cls ≠ "java/lang/invoke/VarHandle" ∧ (parseMethodDescriptor yX0_settingValue.desc).map (fun d => d.parameters.length) = some 1 := by decide +kernel
theorem nd_X0_sizeOf : yX0_sizeOf.cls ≠ "java/lang/invoke/MethodHandle" ∧ yX0_sizeOf.cls ≠ "java/lang/invoke/VarHandle" ∧ (parseMethodDescriptor yX0_sizeOf.desc).map (fun d => d.parameters.length) = some 1 := by decide +kernel
theorem nd_X0_startLoan : yX0_startLoan.cls ≠ "java/lang/invoke/MethodHandle" ∧ yX0_startLoan.cls ≠ "java/lang/invoke/VarHandle" ∧ (parseMethodDescriptor yX0_startLoan.desc).map (fun d => d.parameters.length) = some 2 := by decide +kernel
theorem nd_X0_steal : yX0_steal.cls ≠ "java/lang/invoke/MethodHandle" ∧ yX0_steal.cls ≠ "java/lang/invoke/VarHandle" ∧ (parseMethodDescriptor yX0_steal.desc).map (fun d => d.parameters.length) = some 2 := by decide +kernel
theorem nd_X0_watchOneNightFewer : yX0_watchOneNightFewer.cls ≠ "java/lang/invoke/MethodHandle" ∧ yX0_watchOneNightFewer.cls ≠ "java/lang/invoke/VarHandle" ∧ (parseMethodDescriptor yX0_watchOneNightFewer.desc).map (fun d => d.parameters.length) = some 0 := by decide +kernel
theorem nd_X0_wordAt : yX0_wordAt.cls ≠ "java/lang/invoke/MethodHandle" ∧ yX0_wordAt.cls ≠ "java/lang/invoke/VarHandle" ∧ (parseMethodDescriptor yX0_wordAt.desc).map (fun d => d.parameters.length) = some 2 := by decide +kernel
theorem nd_X0_wordProperty : yX0_wordProperty.cls ≠ "java/lang/invoke/MethodHandle" ∧ yX0_wordProperty.cls ≠ "java/lang/invoke/VarHandle" ∧ (parseMethodDescriptor yX0_wordProperty.desc).map (fun d => d.parameters.length) = some 2 := by decide +kernel
theorem nd_X0_wordsOfDoor : yX0_wordsOfDoor.cls ≠ "java/lang/invoke/MethodHandle" ∧ yX0_wordsOfDoor.cls ≠ "java/lang/invoke/VarHandle" ∧ (parseMethodDescriptor yX0_wordsOfDoor.desc).map (fun d => d.parameters.length) = some 1 := by decide +kernel
theorem nd_X0_worthOfAll : yX0_worthOfAll.cls ≠ "java/lang/invoke/MethodHandle" ∧ yX0_worthOfAll.cls ≠ "java/lang/invoke/VarHandle" ∧ (parseMethodDescriptor yX0_worthOfAll.desc).map (fun d => d.parameters.length) = some 0 := by decide +kernel
theorem nd_X0_worthOfDoor : yX0_worthOfDoor.cls ≠ "java/lang/invoke/MethodHandle" ∧ yX0_worthOfDoor.cls ≠ "java/lang/invoke/VarHandle" ∧ (parseMethodDescriptor yX0_worthOfDoor.desc).map (fun d => d.parameters.length) = some 1 := by decide +kernel
theorem nd_X0_worthOfLine : yX0_worthOfLine.cls ≠ "java/lang/invoke/MethodHandle" ∧ yX0_worthOfLine.cls ≠ "java/lang/invoke/VarHandle" ∧ (parseMethodDescriptor yX0_worthOfLine.desc).map (fun d => d.parameters.length) = some 2 := by decide +kernel
theorem nd_X0_wouldClash : yX0_wouldClash.cls ≠ "java/lang/invoke/MethodHandle" ∧ yX0_wouldClash.cls ≠ "java/lang/invoke/VarHandle" ∧ (parseMethodDescriptor yX0_wouldClash.desc).map (fun d => d.parameters.length) = some 3 := by decide +kernel
theorem nd_X1_init : yX1_init.cls ≠ "java/lang/invoke/MethodHandle" ∧ yX1_init.cls ≠ "java/lang/invoke/VarHandle" ∧ (parseMethodDescriptor yX1_init.desc).map (fun d => d.parameters.length) = some 0 := by decide +kernel
theorem nd_X1_save : yX1_save.cls ≠ "java/lang/invoke/MethodHandle" ∧ yX1_save.cls ≠ "java/lang/invoke/VarHandle" ∧ (parseMethodDescriptor yX1_save.desc).map (fun d => d.parameters.length) = some 1 := by decide +kernel
theorem nd_X1_stateAt : yX1_stateAt.cls ≠ "java/lang/invoke/MethodHandle" ∧ yX1_stateAt.cls ≠ "java/lang/invoke/VarHandle" ∧ (parseMethodDescriptor yX1_stateAt.desc).map (fun d => d.parameters.length) = some 1 := by decide +kernel
theorem nd_X2_init : yX2_init.cls ≠ "java/lang/invoke/MethodHandle" ∧ yX2_init.cls ≠ "java/lang/invoke/VarHandle" ∧ (parseMethodDescriptor yX2_init.desc).map (fun d => d.parameters.length) = some 0 := by decide +kernel
theorem nd_X3_at : yX3_at.cls ≠ "java/lang/invoke/MethodHandle" ∧ yX3_at.cls ≠ "java/lang/invoke/VarHandle" ∧ (parseMethodDescriptor yX3_at.desc).map (fun d => d.parameters.length) = some 3 := by decide +kernel
theorem nd_X3_beatsOf : yX3_beatsOf.cls ≠ "java/lang/invoke/MethodHandle" ∧ yX3_beatsOf.cls ≠ "java/lang/invoke/VarHandle" ∧ (parseMethodDescriptor yX3_beatsOf.desc).map (fun d => d.parameters.length) = some 1 := by decide +kernel
theorem nd_X3_bestWord : yX3_bestWord.cls ≠ "java/lang/invoke/MethodHandle" ∧ yX3_bestWord.cls ≠ "java/lang/invoke/VarHandle" ∧ (parseMethodDescriptor yX3_bestWord.desc).map (fun d => d.parameters.length) = some 2 := by decide +kernel
theorem nd_X3_borrow : yX3_borrow.cls ≠ "java/lang/invoke/MethodHandle" ∧ yX3_borrow.cls ≠ "java/lang/invoke/VarHandle" ∧ (parseMethodDescriptor yX3_borrow.desc).map (fun d => d.parameters.length) = some 4 := by decide +kernel
theorem nd_X3_bringBack : yX3_bringBack.cls ≠ "java/lang/invoke/MethodHandle" ∧ yX3_bringBack.cls ≠ "java/lang/invoke/VarHandle" ∧ (parseMethodDescriptor yX3_bringBack.desc).map (fun d => d.parameters.length) = some 2 := by decide +kernel
theorem nd_X3_cell : yX3_cell.cls ≠ "java/lang/invoke/MethodHandle" ∧ yX3_cell.cls ≠ "java/lang/invoke/VarHandle" ∧ (parseMethodDescriptor yX3_cell.desc).map (fun d => d.parameters.length) = some 2 := by decide +kernel
theorem nd_X3_clash : yX3_clash.cls ≠ "java/lang/invoke/MethodHandle" ∧ yX3_clash.cls ≠ "java/lang/invoke/VarHandle" ∧ (parseMethodDescriptor yX3_clash.desc).map (fun d => d.parameters.length) = some 2 := by decide +kernel
theorem nd_X3_clearDoor : yX3_clearDoor.cls ≠ "java/lang/invoke/MethodHandle" ∧ yX3_clearDoor.cls ≠ "java/lang/invoke/VarHandle" ∧ (parseMethodDescriptor yX3_clearDoor.desc).map (fun d => d.parameters.length) = some 1 := by decide +kernel
theorem nd_X3_copyRow : yX3_copyRow.cls ≠ "java/lang/invoke/MethodHandle" ∧ yX3_copyRow.cls ≠ "java/lang/invoke/VarHandle" ∧ (parseMethodDescriptor yX3_copyRow.desc).map (fun d => d.parameters.length) = some 2 := by decide +kernel
theorem nd_X3_count : yX3_count.cls ≠ "java/lang/invoke/MethodHandle" ∧ yX3_count.cls ≠ "java/lang/invoke/VarHandle" ∧ (parseMethodDescriptor yX3_count.desc).map (fun d => d.parameters.length) = some 1 := by decide +kernel
theorem nd_X3_doorOf : yX3_doorOf.cls ≠ "java/lang/invoke/MethodHandle" ∧ yX3_doorOf.cls ≠ "java/lang/invoke/VarHandle" ∧ (parseMethodDescriptor yX3_doorOf.desc).map (fun d => d.parameters.length) = some 2 := by decide +kernel
theorem nd_X3_endingOf : yX3_endingOf.cls ≠ "java/lang/invoke/MethodHandle" ∧ yX3_endingOf.cls ≠ "java/lang/invoke/VarHandle" ∧ (parseMethodDescriptor yX3_endingOf.desc).map (fun d => d.parameters.length) = some 1 := by decide +kernel
theorem nd_X3_fillRow : yX3_fillRow.cls ≠ "java/lang/invoke/MethodHandle" ∧ yX3_fillRow.cls ≠ "java/lang/invoke/VarHandle" ∧ (parseMethodDescriptor yX3_fillRow.desc).map (fun d => d.parameters.length) = some 2 := by decide +kernel
theorem nd_X3_greatestOf : yX3_greatestOf.cls ≠ "java/lang/invoke/MethodHandle" ∧ yX3_greatestOf.cls ≠ "java/lang/invoke/VarHandle" ∧ (parseMethodDescriptor yX3_greatestOf.desc).map (fun d => d.parameters.length) = some 1 := by decide +kernel
theorem nd_X3_ifSlept : yX3_ifSlept.cls ≠ "java/lang/invoke/MethodHandle" ∧ yX3_ifSlept.cls ≠ "java/lang/invoke/VarHandle" ∧ (parseMethodDescriptor yX3_ifSlept.desc).map (fun d => d.parameters.length) = some 2 := by decide +kernel
theorem nd_X3_init : yX3_init.cls ≠ "java/lang/invoke/MethodHandle" ∧ yX3_init.cls ≠ "java/lang/invoke/VarHandle" ∧ (parseMethodDescriptor yX3_init.desc).map (fun d => d.parameters.length) = some 0 := by decide +kernel
theorem nd_X3_isDoor : yX3_isDoor.cls ≠ "java/lang/invoke/MethodHandle" ∧ yX3_isDoor.cls ≠ "java/lang/invoke/VarHandle" ∧ (parseMethodDescriptor yX3_isDoor.desc).map (fun d => d.parameters.length) = some 1 := by decide +kernel
theorem nd_X3_isLine : yX3_isLine.cls ≠ "java/lang/invoke/MethodHandle" ∧ yX3_isLine.cls ≠ "java/lang/invoke/VarHandle" ∧ (parseMethodDescriptor yX3_isLine.desc).map (fun d => d.parameters.length) = some 2 := by decide +kernel
theorem nd_X3_isNights : yX3_isNights.cls ≠ "java/lang/invoke/MethodHandle" ∧ yX3_isNights.cls ≠ "java/lang/invoke/VarHandle" ∧ (parseMethodDescriptor yX3_isNights.desc).map (fun d => d.parameters.length) = some 1 := by decide +kernel
theorem nd_X3_isPlaceToPut : yX3_isPlaceToPut.cls ≠ "java/lang/invoke/MethodHandle" ∧ yX3_isPlaceToPut.cls ≠ "java/lang/invoke/VarHandle" ∧ (parseMethodDescriptor yX3_isPlaceToPut.desc).map (fun d => d.parameters.length) = some 3 := by decide +kernel
theorem nd_X3_isSetting : yX3_isSetting.cls ≠ "java/lang/invoke/MethodHandle" ∧ yX3_isSetting.cls ≠ "java/lang/invoke/VarHandle" ∧ (parseMethodDescriptor yX3_isSetting.desc).map (fun d => d.parameters.length) = some 1 := by decide +kernel
theorem nd_X3_isWord : yX3_isWord.cls ≠ "java/lang/invoke/MethodHandle" ∧ yX3_isWord.cls ≠ "java/lang/invoke/VarHandle" ∧ (parseMethodDescriptor yX3_isWord.desc).map (fun d => d.parameters.length) = some 1 := by decide +kernel
theorem nd_X3_kindOf : yX3_kindOf.cls ≠ "java/lang/invoke/MethodHandle" ∧ yX3_kindOf.cls ≠ "java/lang/invoke/VarHandle" ∧ (parseMethodDescriptor yX3_kindOf.desc).map (fun d => d.parameters.length) = some 1 := by decide +kernel
theorem nd_X3_lineCode : yX3_lineCode.cls ≠ "java/lang/invoke/MethodHandle" ∧ yX3_lineCode.cls ≠ "java/lang/invoke/VarHandle" ∧ (parseMethodDescriptor yX3_lineCode.desc).map (fun d => d.parameters.length) = some 1 := by decide +kernel
theorem nd_X3_lineNumber : yX3_lineNumber.cls ≠ "java/lang/invoke/MethodHandle" ∧ yX3_lineNumber.cls ≠ "java/lang/invoke/VarHandle" ∧ (parseMethodDescriptor yX3_lineNumber.desc).map (fun d => d.parameters.length) = some 2 := by decide +kernel
theorem nd_X3_lineOf : yX3_lineOf.cls ≠ "java/lang/invoke/MethodHandle" ∧ yX3_lineOf.cls ≠ "java/lang/invoke/VarHandle" ∧ (parseMethodDescriptor yX3_lineOf.desc).map (fun d => d.parameters.length) = some 3 := by decide +kernel
theorem nd_X3_move : yX3_move.cls ≠ "java/lang/invoke/MethodHandle" ∧ yX3_move.cls ≠ "java/lang/invoke/VarHandle" ∧ (parseMethodDescriptor yX3_move.desc).map (fun d => d.parameters.length) = some 3 := by decide +kernel
theorem nd_X3_numberOf : yX3_numberOf.cls ≠ "java/lang/invoke/MethodHandle" ∧ yX3_numberOf.cls ≠ "java/lang/invoke/VarHandle" ∧ (parseMethodDescriptor yX3_numberOf.desc).map (fun d => d.parameters.length) = some 1 := by decide +kernel
theorem nd_X3_prey : yX3_prey.cls ≠ "java/lang/invoke/MethodHandle" ∧ yX3_prey.cls ≠ "java/lang/invoke/VarHandle" ∧ (parseMethodDescriptor yX3_prey.desc).map (fun d => d.parameters.length) = some 0 := by decide +kernel
theorem nd_X3_put : yX3_put.cls ≠ "java/lang/invoke/MethodHandle" ∧ yX3_put.cls ≠ "java/lang/invoke/VarHandle" ∧ (parseMethodDescriptor yX3_put.desc).map (fun d => d.parameters.length) = some 4 := by decide +kernel
theorem nd_X3_set : yX3_set.cls ≠ "java/lang/invoke/MethodHandle" ∧ yX3_set.cls ≠ "java/lang/invoke/VarHandle" ∧ (parseMethodDescriptor yX3_set.desc).map (fun d => d.parameters.length) = some 2 := by decide +kernel
theorem nd_X3_setCell : yX3_setCell.cls ≠ "java/lang/invoke/MethodHandle" ∧ yX3_setCell.cls ≠ "java/lang/invoke/VarHandle" ∧ (parseMethodDescriptor yX3_setCell.desc).map (fun d => d.parameters.length) = some 3 := by decide +kernel
theorem nd_X3_setting : yX3_setting.cls ≠ "java/lang/invoke/MethodHandle" ∧ yX3_setting.cls ≠ "java/lang/invoke/VarHandle" ∧ (parseMethodDescriptor yX3_setting.desc).map (fun d => d.parameters.length) = some 1 := by decide +kernel
theorem nd_X3_share : yX3_share.cls ≠ "java/lang/invoke/MethodHandle" ∧ yX3_share.cls ≠ "java/lang/invoke/VarHandle" ∧ (parseMethodDescriptor yX3_share.desc).map (fun d => d.parameters.length) = some 0 := by decide +kernel
theorem nd_X3_shownShare : yX3_shownShare.cls ≠ "java/lang/invoke/MethodHandle" ∧ yX3_shownShare.cls ≠ "java/lang/invoke/VarHandle" ∧ (parseMethodDescriptor yX3_shownShare.desc).map (fun d => d.parameters.length) = some 0 := by decide +kernel
theorem nd_X3_sleep : yX3_sleep.cls ≠ "java/lang/invoke/MethodHandle" ∧ yX3_sleep.cls ≠ "java/lang/invoke/VarHandle" ∧ (parseMethodDescriptor yX3_sleep.desc).map (fun d => d.parameters.length) = some 1 := by decide +kernel
theorem nd_X3_takeOff : yX3_takeOff.cls ≠ "java/lang/invoke/MethodHandle" ∧ yX3_takeOff.cls ≠ "java/lang/invoke/VarHandle" ∧ (parseMethodDescriptor yX3_takeOff.desc).map (fun d => d.parameters.length) = some 1 := by decide +kernel
theorem nd_X3_whyNot : yX3_whyNot.cls ≠ "java/lang/invoke/MethodHandle" ∧ yX3_whyNot.cls ≠ "java/lang/invoke/VarHandle" ∧ (parseMethodDescriptor yX3_whyNot.desc).map (fun d => d.parameters.length) = some 4 := by decide +kernel
theorem nd_X3_wordOf : yX3_wordOf.cls ≠ "java/lang/invoke/MethodHandle" ∧ yX3_wordOf.cls ≠ "java/lang/invoke/VarHandle" ∧ (parseMethodDescriptor yX3_wordOf.desc).map (fun d => d.parameters.length) = some 2 := by decide +kernel
end

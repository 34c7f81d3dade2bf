/-- all words of the tables that a method may be told again -/
def WG : List Cond := lw_tbl.filter goodWord
theorem WG_in {w : Cond} {l : List Cond} (i : Nat) (hl : lw_tbl = l) (h : l[i]? = some w) (hg : goodWord w = true) : w ∈ WG := List.mem_filter.mpr ⟨hl ▸ List.mem_of_getElem? h, hg⟩
theorem WG_a {w : Cond} (h : w ∈ lw_tbl) (hg : goodWord w = true) : w ∈ WG := List.mem_filter.mpr ⟨h, hg⟩
theorem WG_t1 {w : Cond} (h : w ∈ tables_1_1) (hg : goodWord w = true) : w ∈ WG := WG_a (List.mem_append_right _ (List.mem_append_left _ h)) hg
theorem WG_t2 {w : Cond} (h : w ∈ tables_1_2) (hg : goodWord w = true) : w ∈ WG := WG_a (List.mem_append_right _ (List.mem_append_right _ (List.mem_append_left _ h))) hg
theorem WG_t3 {w : Cond} (h : w ∈ tables_1_3) (hg : goodWord w = true) : w ∈ WG := WG_a (List.mem_append_right _ (List.mem_append_right _ (List.mem_append_right _ (h)))) hg
theorem WG_p {w : Cond} (h : w ∈ k2_sels lw_privs) (hg : goodWord w = true) : w ∈ WG := WG_a (List.mem_append_left _ h) hg
theorem wd_0 : (Cond.selects "java/lang/Throwable" ⟨"java/lang/Throwable", "fillInStackTrace", "(I)Ljava/lang/Throwable;"⟩ ⟨"java/lang/Throwable", "fillInStackTrace", "(I)Ljava/lang/Throwable;"⟩) ∈ WG := WG_p (List.mem_of_getElem? (i := 0) (by decide +kernel)) rfl
theorem wd_1 : (Cond.selects "MagnetPoems$Board" yX0_clashes yX0_clashes) ∈ WG := WG_p (List.mem_of_getElem? (i := 1) (by decide +kernel)) rfl
theorem wd_2 : (Cond.selects "MagnetPoems" yX3_numberOf yX3_numberOf) ∈ WG := WG_p (List.mem_of_getElem? (i := 2) (by decide +kernel)) rfl
theorem wd_3 : (Cond.selects "MagnetPoems" yX3_share yX3_share) ∈ WG := WG_p (List.mem_of_getElem? (i := 3) (by decide +kernel)) rfl
theorem wd_4 : (Cond.selects "MagnetPoems" yX3_isPlaceToPut yX3_isPlaceToPut) ∈ WG := WG_p (List.mem_of_getElem? (i := 4) (by decide +kernel)) rfl
theorem wd_5 : (Cond.selects "MagnetPoems$Board" yX0_wouldClash yX0_wouldClash) ∈ WG := WG_p (List.mem_of_getElem? (i := 5) (by decide +kernel)) rfl
theorem wd_6 : (Cond.selects "MagnetPoems$Board" yX0_doorOfThief yX0_doorOfThief) ∈ WG := WG_p (List.mem_of_getElem? (i := 6) (by decide +kernel)) rfl
theorem wd_7 : (Cond.selects "MagnetPoems$Board" yX0_preyOn yX0_preyOn) ∈ WG := WG_p (List.mem_of_getElem? (i := 7) (by decide +kernel)) rfl
theorem wd_8 : (Cond.selects "MagnetPoems$Board" yX0_watchOneNightFewer yX0_watchOneNightFewer) ∈ WG := WG_p (List.mem_of_getElem? (i := 8) (by decide +kernel)) rfl
theorem wd_9 : (Cond.selects "MagnetPoems$Board" yX0_steal yX0_steal) ∈ WG := WG_p (List.mem_of_getElem? (i := 9) (by decide +kernel)) rfl
theorem wd_10 : (Cond.selects "MagnetPoems$Board" yX0_endLoansOf yX0_endLoansOf) ∈ WG := WG_p (List.mem_of_getElem? (i := 10) (by decide +kernel)) rfl
theorem wd_11 : (Cond.selects "MagnetPoems$History" yX1_stateAt yX1_stateAt) ∈ WG := WG_p (List.mem_of_getElem? (i := 11) (by decide +kernel)) rfl
theorem wd_12 : (Cond.initialized "MagnetPoemsLaw") ∈ WG := WG_t1 (List.mem_of_getElem? (i := 0) (by decide +kernel)) rfl
theorem wd_13 : (Cond.initialized "MagnetPoems") ∈ WG := WG_t1 (List.mem_of_getElem? (i := 1) (by decide +kernel)) rfl
theorem wd_14 : (Cond.initialized "MagnetPoems$Board") ∈ WG := WG_t1 (List.mem_of_getElem? (i := 2) (by decide +kernel)) rfl
theorem wd_15 : (Cond.initialized "MagnetPoems$History") ∈ WG := WG_t1 (List.mem_of_getElem? (i := 3) (by decide +kernel)) rfl
theorem wd_16 : (Cond.initialized "MagnetPoems$PoemReader") ∈ WG := WG_t1 (List.mem_of_getElem? (i := 4) (by decide +kernel)) rfl
theorem wd_17 : (Cond.initialized "java/lang/Throwable") ∈ WG := WG_t1 (List.mem_of_getElem? (i := 5) (by decide +kernel)) rfl
theorem wd_18 : (Cond.initialized "java/lang/Exception") ∈ WG := WG_t1 (List.mem_of_getElem? (i := 6) (by decide +kernel)) rfl
theorem wd_19 : (Cond.initialized "java/lang/RuntimeException") ∈ WG := WG_t1 (List.mem_of_getElem? (i := 7) (by decide +kernel)) rfl
theorem wd_20 : (Cond.initialized "java/lang/IndexOutOfBoundsException") ∈ WG := WG_t1 (List.mem_of_getElem? (i := 8) (by decide +kernel)) rfl
theorem wd_21 : (Cond.initialized "java/lang/IllegalArgumentException") ∈ WG := WG_t1 (List.mem_of_getElem? (i := 9) (by decide +kernel)) rfl
theorem wd_22 : (Cond.initialized "java/lang/IllegalStateException") ∈ WG := WG_t1 (List.mem_of_getElem? (i := 10) (by decide +kernel)) rfl
theorem wd_23 : (Cond.classLink "MagnetPoemsLaw" 58 "MagnetPoems") ∈ WG := WG_t1 (List.mem_of_getElem? (i := 11) (by decide +kernel)) rfl
theorem wd_24 : (Cond.instantiable "MagnetPoems" 8) ∈ WG := WG_t1 (List.mem_of_getElem? (i := 12) (by decide +kernel)) rfl
theorem wd_25 : (Cond.methodLink "MagnetPoemsLaw" 192 yX3_init) ∈ WG := WG_t1 (List.mem_of_getElem? (i := 13) (by decide +kernel)) rfl
theorem wd_26 : (Cond.instanceMethod yX3_init) ∈ WG := WG_t1 (List.mem_of_getElem? (i := 14) (by decide +kernel)) rfl
theorem wd_27 : (Cond.code yX3_init prog_1_method_1_code 2 (Option.none : Option FieldType)) ∈ WG := WG_t1 (List.mem_of_getElem? (i := 15) (rfl)) rfl
theorem wd_28 : (Cond.methodLink "MagnetPoems" 1 ⟨"java/lang/Object", "<init>", "()V"⟩) ∈ WG := WG_t1 (List.mem_of_getElem? (i := 16) (by decide +kernel)) rfl
theorem wd_29 : (Cond.instanceMethod ⟨"java/lang/Object", "<init>", "()V"⟩) ∈ WG := WG_t1 (List.mem_of_getElem? (i := 17) (by decide +kernel)) rfl
theorem wd_30 : (Cond.code ⟨"java/lang/Object", "<init>", "()V"⟩ object_method_1_code 1 (Option.none : Option FieldType)) ∈ WG := WG_t1 (List.mem_of_getElem? (i := 18) (rfl)) rfl
theorem wd_31 : (Cond.classLink "MagnetPoems" 7 "MagnetPoems$Board") ∈ WG := WG_t1 (List.mem_of_getElem? (i := 19) (by decide +kernel)) rfl
theorem wd_32 : (Cond.instantiable "MagnetPoems$Board" 13) ∈ WG := WG_t1 (List.mem_of_getElem? (i := 20) (by decide +kernel)) rfl
theorem wd_33 : (Cond.methodLink "MagnetPoems" 9 yX0_init) ∈ WG := WG_t1 (List.mem_of_getElem? (i := 21) (by decide +kernel)) rfl
theorem wd_34 : (Cond.instanceMethod yX0_init) ∈ WG := WG_t1 (List.mem_of_getElem? (i := 22) (by decide +kernel)) rfl
theorem wd_35 : (Cond.code yX0_init prog_2_method_1_code 1 (Option.none : Option FieldType)) ∈ WG := WG_t1 (List.mem_of_getElem? (i := 23) (rfl)) rfl
theorem wd_36 : (Cond.methodLink "MagnetPoems$Board" 3 ⟨"java/lang/Object", "<init>", "()V"⟩) ∈ WG := WG_t1 (List.mem_of_getElem? (i := 24) (by decide +kernel)) rfl
theorem wd_38 : (Cond.static yX3_fillRow) ∈ WG := WG_t1 (List.mem_of_getElem? (i := 26) (by decide +kernel)) rfl
theorem wd_39 : (Cond.code yX3_fillRow prog_1_method_58_code 3 (Option.none : Option FieldType)) ∈ WG := WG_t1 (List.mem_of_getElem? (i := 27) (rfl)) rfl
theorem wd_41 : (Cond.static yX3_setCell) ∈ WG := WG_t1 (List.mem_of_getElem? (i := 29) (by decide +kernel)) rfl
theorem wd_42 : (Cond.code yX3_setCell prog_1_method_56_code 3 (Option.none : Option FieldType)) ∈ WG := WG_t1 (List.mem_of_getElem? (i := 30) (rfl)) rfl
theorem wd_43 : (Cond.fieldLink "MagnetPoems$Board" 9 "MagnetPoems$Board" "homes" "[I") ∈ WG := WG_t1 (List.mem_of_getElem? (i := 31) (by decide +kernel)) rfl
theorem wd_44 : (Cond.fieldLink "MagnetPoems$Board" 15 "MagnetPoems$Board" "words" "[I") ∈ WG := WG_t1 (List.mem_of_getElem? (i := 32) (by decide +kernel)) rfl
theorem wd_45 : (Cond.fieldLink "MagnetPoems$Board" 18 "MagnetPoems$Board" "sizes" "[I") ∈ WG := WG_t1 (List.mem_of_getElem? (i := 33) (by decide +kernel)) rfl
theorem wd_46 : (Cond.fieldLink "MagnetPoems$Board" 21 "MagnetPoems$Board" "lenders" "[I") ∈ WG := WG_t1 (List.mem_of_getElem? (i := 34) (by decide +kernel)) rfl
theorem wd_47 : (Cond.fieldLink "MagnetPoems$Board" 24 "MagnetPoems$Board" "borrowers" "[I") ∈ WG := WG_t1 (List.mem_of_getElem? (i := 35) (by decide +kernel)) rfl
theorem wd_48 : (Cond.fieldLink "MagnetPoems$Board" 27 "MagnetPoems$Board" "thefts" "[I") ∈ WG := WG_t1 (List.mem_of_getElem? (i := 36) (by decide +kernel)) rfl
theorem wd_49 : (Cond.fieldLink "MagnetPoems$Board" 30 "MagnetPoems$Board" "watches" "[I") ∈ WG := WG_t1 (List.mem_of_getElem? (i := 37) (by decide +kernel)) rfl
theorem wd_50 : (Cond.fieldLink "MagnetPoems$Board" 33 "MagnetPoems$Board" "losses" "[I") ∈ WG := WG_t1 (List.mem_of_getElem? (i := 38) (by decide +kernel)) rfl
theorem wd_51 : (Cond.fieldLink "MagnetPoems$Board" 36 "MagnetPoems$Board" "settings" "[I") ∈ WG := WG_t1 (List.mem_of_getElem? (i := 39) (by decide +kernel)) rfl
theorem wd_52 : (Cond.fieldLink "MagnetPoems$Board" 51 "MagnetPoems$Board" "nights" "I") ∈ WG := WG_t1 (List.mem_of_getElem? (i := 40) (by decide +kernel)) rfl
theorem wd_54 : (Cond.fieldLink "MagnetPoems$Board" 55 "MagnetPoems$Board" "stolen" "I") ∈ WG := WG_t1 (List.mem_of_getElem? (i := 42) (by decide +kernel)) rfl
theorem wd_56 : (Cond.fieldLink "MagnetPoems$Board" 58 "MagnetPoems$Board" "shown" "I") ∈ WG := WG_t1 (List.mem_of_getElem? (i := 44) (by decide +kernel)) rfl
theorem wd_59 : (Cond.fieldLink "MagnetPoems$Board" 61 "MagnetPoems$Board" "refused" "I") ∈ WG := WG_t1 (List.mem_of_getElem? (i := 47) (by decide +kernel)) rfl
theorem wd_60 : (Cond.laysFinal "MagnetPoems$Board" "MagnetPoems$Board" "homes" "[I") ∈ WG := WG_t1 (List.mem_of_getElem? (i := 48) (by decide +kernel)) rfl
theorem wd_61 : (Cond.soleField "MagnetPoems$Board" "homes") ∈ WG := WG_t1 (List.mem_of_getElem? (i := 49) (by decide +kernel)) rfl
theorem wd_62 : (Cond.laysFinal "MagnetPoems$Board" "MagnetPoems$Board" "words" "[I") ∈ WG := WG_t1 (List.mem_of_getElem? (i := 50) (by decide +kernel)) rfl
theorem wd_63 : (Cond.soleField "MagnetPoems$Board" "words") ∈ WG := WG_t1 (List.mem_of_getElem? (i := 51) (by decide +kernel)) rfl
theorem wd_64 : (Cond.laysFinal "MagnetPoems$Board" "MagnetPoems$Board" "sizes" "[I") ∈ WG := WG_t1 (List.mem_of_getElem? (i := 52) (by decide +kernel)) rfl
theorem wd_65 : (Cond.soleField "MagnetPoems$Board" "sizes") ∈ WG := WG_t1 (List.mem_of_getElem? (i := 53) (by decide +kernel)) rfl
theorem wd_66 : (Cond.laysFinal "MagnetPoems$Board" "MagnetPoems$Board" "lenders" "[I") ∈ WG := WG_t1 (List.mem_of_getElem? (i := 54) (by decide +kernel)) rfl
theorem wd_67 : (Cond.soleField "MagnetPoems$Board" "lenders") ∈ WG := WG_t1 (List.mem_of_getElem? (i := 55) (by decide +kernel)) rfl
theorem wd_68 : (Cond.laysFinal "MagnetPoems$Board" "MagnetPoems$Board" "borrowers" "[I") ∈ WG := WG_t1 (List.mem_of_getElem? (i := 56) (by decide +kernel)) rfl
theorem wd_69 : (Cond.soleField "MagnetPoems$Board" "borrowers") ∈ WG := WG_t1 (List.mem_of_getElem? (i := 57) (by decide +kernel)) rfl
theorem wd_70 : (Cond.laysFinal "MagnetPoems$Board" "MagnetPoems$Board" "thefts" "[I") ∈ WG := WG_t1 (List.mem_of_getElem? (i := 58) (by decide +kernel)) rfl
theorem wd_71 : (Cond.soleField "MagnetPoems$Board" "thefts") ∈ WG := WG_t1 (List.mem_of_getElem? (i := 59) (by decide +kernel)) rfl
theorem wd_72 : (Cond.laysFinal "MagnetPoems$Board" "MagnetPoems$Board" "watches" "[I") ∈ WG := WG_t1 (List.mem_of_getElem? (i := 60) (by decide +kernel)) rfl
theorem wd_73 : (Cond.soleField "MagnetPoems$Board" "watches") ∈ WG := WG_t1 (List.mem_of_getElem? (i := 61) (by decide +kernel)) rfl
theorem wd_74 : (Cond.laysFinal "MagnetPoems$Board" "MagnetPoems$Board" "losses" "[I") ∈ WG := WG_t1 (List.mem_of_getElem? (i := 62) (by decide +kernel)) rfl
theorem wd_75 : (Cond.soleField "MagnetPoems$Board" "losses") ∈ WG := WG_t1 (List.mem_of_getElem? (i := 63) (by decide +kernel)) rfl
theorem wd_76 : (Cond.laysFinal "MagnetPoems$Board" "MagnetPoems$Board" "settings" "[I") ∈ WG := WG_t1 (List.mem_of_getElem? (i := 64) (by decide +kernel)) rfl
theorem wd_77 : (Cond.soleField "MagnetPoems$Board" "settings") ∈ WG := WG_t1 (List.mem_of_getElem? (i := 65) (by decide +kernel)) rfl
theorem wd_78 : (Cond.lays "MagnetPoems$Board" "MagnetPoems$Board" "nights" "I") ∈ WG := WG_t1 (List.mem_of_getElem? (i := 66) (by decide +kernel)) rfl
theorem wd_79 : (Cond.soleField "MagnetPoems$Board" "nights") ∈ WG := WG_t1 (List.mem_of_getElem? (i := 67) (by decide +kernel)) rfl
theorem wd_80 : (Cond.lays "MagnetPoems$Board" "MagnetPoems$Board" "stolen" "I") ∈ WG := WG_t1 (List.mem_of_getElem? (i := 68) (by decide +kernel)) rfl
theorem wd_81 : (Cond.soleField "MagnetPoems$Board" "stolen") ∈ WG := WG_t1 (List.mem_of_getElem? (i := 69) (by decide +kernel)) rfl
theorem wd_82 : (Cond.lays "MagnetPoems$Board" "MagnetPoems$Board" "shown" "I") ∈ WG := WG_t1 (List.mem_of_getElem? (i := 70) (by decide +kernel)) rfl
theorem wd_83 : (Cond.soleField "MagnetPoems$Board" "shown") ∈ WG := WG_t1 (List.mem_of_getElem? (i := 71) (by decide +kernel)) rfl
theorem wd_84 : (Cond.lays "MagnetPoems$Board" "MagnetPoems$Board" "refused" "I") ∈ WG := WG_t1 (List.mem_of_getElem? (i := 72) (by decide +kernel)) rfl
theorem wd_85 : (Cond.soleField "MagnetPoems$Board" "refused") ∈ WG := WG_t1 (List.mem_of_getElem? (i := 73) (by decide +kernel)) rfl
theorem wd_86 : (Cond.superclass "MagnetPoems$Board" "java/lang/Object") ∈ WG := WG_t1 (List.mem_of_getElem? (i := 74) (by decide +kernel)) rfl
theorem wd_87 : (Cond.arrayClass FieldType.int) ∈ WG := WG_t1 (List.mem_of_getElem? (i := 75) (by decide +kernel)) rfl
theorem wd_88 : (Cond.classLink "MagnetPoems" 19 "MagnetPoems$History") ∈ WG := WG_t1 (List.mem_of_getElem? (i := 76) (by decide +kernel)) rfl
theorem wd_89 : (Cond.instantiable "MagnetPoems$History" 3) ∈ WG := WG_t1 (List.mem_of_getElem? (i := 77) (by decide +kernel)) rfl
theorem wd_90 : (Cond.methodLink "MagnetPoems" 21 yX1_init) ∈ WG := WG_t1 (List.mem_of_getElem? (i := 78) (by decide +kernel)) rfl
theorem wd_91 : (Cond.instanceMethod yX1_init) ∈ WG := WG_t1 (List.mem_of_getElem? (i := 79) (by decide +kernel)) rfl
theorem wd_92 : (Cond.code yX1_init prog_3_method_1_code 2 (Option.none : Option FieldType)) ∈ WG := WG_t1 (List.mem_of_getElem? (i := 80) (rfl)) rfl
theorem wd_93 : (Cond.methodLink "MagnetPoems$History" 3 ⟨"java/lang/Object", "<init>", "()V"⟩) ∈ WG := WG_t1 (List.mem_of_getElem? (i := 81) (by decide +kernel)) rfl
theorem wd_94 : (Cond.classLink "MagnetPoems$History" 9 "MagnetPoems$Board") ∈ WG := WG_t1 (List.mem_of_getElem? (i := 82) (by decide +kernel)) rfl
theorem wd_96 : (Cond.methodLink "MagnetPoems$History" 17 yX0_init) ∈ WG := WG_t1 (List.mem_of_getElem? (i := 84) (by decide +kernel)) rfl
theorem wd_97 : (Cond.fieldLink "MagnetPoems$History" 11 "MagnetPoems$History" "states" "[LMagnetPoems$Board;") ∈ WG := WG_t1 (List.mem_of_getElem? (i := 85) (by decide +kernel)) rfl
theorem wd_98 : (Cond.fieldLink "MagnetPoems$History" 22 "MagnetPoems$History" "oldest" "I") ∈ WG := WG_t1 (List.mem_of_getElem? (i := 86) (by decide +kernel)) rfl
theorem wd_99 : (Cond.fieldLink "MagnetPoems$History" 18 "MagnetPoems$History" "size" "I") ∈ WG := WG_t1 (List.mem_of_getElem? (i := 87) (by decide +kernel)) rfl
theorem wd_101 : (Cond.laysFinal "MagnetPoems$History" "MagnetPoems$History" "states" "[LMagnetPoems$Board;") ∈ WG := WG_t1 (List.mem_of_getElem? (i := 89) (by decide +kernel)) rfl
theorem wd_102 : (Cond.soleField "MagnetPoems$History" "states") ∈ WG := WG_t1 (List.mem_of_getElem? (i := 90) (by decide +kernel)) rfl
theorem wd_103 : (Cond.lays "MagnetPoems$History" "MagnetPoems$History" "oldest" "I") ∈ WG := WG_t1 (List.mem_of_getElem? (i := 91) (by decide +kernel)) rfl
theorem wd_104 : (Cond.soleField "MagnetPoems$History" "oldest") ∈ WG := WG_t1 (List.mem_of_getElem? (i := 92) (by decide +kernel)) rfl
theorem wd_105 : (Cond.lays "MagnetPoems$History" "MagnetPoems$History" "size" "I") ∈ WG := WG_t1 (List.mem_of_getElem? (i := 93) (by decide +kernel)) rfl
theorem wd_106 : (Cond.soleField "MagnetPoems$History" "size") ∈ WG := WG_t1 (List.mem_of_getElem? (i := 94) (by decide +kernel)) rfl
theorem wd_107 : (Cond.superclass "MagnetPoems$History" "java/lang/Object") ∈ WG := WG_t1 (List.mem_of_getElem? (i := 95) (by decide +kernel)) rfl
theorem wd_108 : (Cond.classLink "MagnetPoems" 38 "MagnetPoems$PoemReader") ∈ WG := WG_t1 (List.mem_of_getElem? (i := 96) (by decide +kernel)) rfl
theorem wd_109 : (Cond.instantiable "MagnetPoems$PoemReader" 7) ∈ WG := WG_t1 (List.mem_of_getElem? (i := 97) (by decide +kernel)) rfl
theorem wd_111 : (Cond.instanceMethod yX2_init) ∈ WG := WG_t1 (List.mem_of_getElem? (i := 99) (by decide +kernel)) rfl
theorem wd_112 : (Cond.code yX2_init prog_4_method_1_code 1 (Option.none : Option FieldType)) ∈ WG := WG_t1 (List.mem_of_getElem? (i := 100) (rfl)) rfl
theorem wd_113 : (Cond.methodLink "MagnetPoems$PoemReader" 3 ⟨"java/lang/Object", "<init>", "()V"⟩) ∈ WG := WG_t1 (List.mem_of_getElem? (i := 101) (by decide +kernel)) rfl
theorem wd_114 : (Cond.fieldLink "MagnetPoems$PoemReader" 9 "MagnetPoems$PoemReader" "told" "[Z") ∈ WG := WG_t1 (List.mem_of_getElem? (i := 102) (by decide +kernel)) rfl
theorem wd_115 : (Cond.fieldLink "MagnetPoems$PoemReader" 15 "MagnetPoems$PoemReader" "words" "[I") ∈ WG := WG_t1 (List.mem_of_getElem? (i := 103) (by decide +kernel)) rfl
theorem wd_116 : (Cond.fieldLink "MagnetPoems$PoemReader" 19 "MagnetPoems$PoemReader" "lines" "[I") ∈ WG := WG_t1 (List.mem_of_getElem? (i := 104) (by decide +kernel)) rfl
theorem wd_117 : (Cond.laysFinal "MagnetPoems$PoemReader" "MagnetPoems$PoemReader" "told" "[Z") ∈ WG := WG_t1 (List.mem_of_getElem? (i := 105) (by decide +kernel)) rfl
theorem wd_118 : (Cond.soleField "MagnetPoems$PoemReader" "told") ∈ WG := WG_t1 (List.mem_of_getElem? (i := 106) (by decide +kernel)) rfl
theorem wd_119 : (Cond.laysFinal "MagnetPoems$PoemReader" "MagnetPoems$PoemReader" "words" "[I") ∈ WG := WG_t1 (List.mem_of_getElem? (i := 107) (by decide +kernel)) rfl
theorem wd_120 : (Cond.soleField "MagnetPoems$PoemReader" "words") ∈ WG := WG_t1 (List.mem_of_getElem? (i := 108) (by decide +kernel)) rfl
theorem wd_121 : (Cond.laysFinal "MagnetPoems$PoemReader" "MagnetPoems$PoemReader" "lines" "[I") ∈ WG := WG_t1 (List.mem_of_getElem? (i := 109) (by decide +kernel)) rfl
theorem wd_122 : (Cond.soleField "MagnetPoems$PoemReader" "lines") ∈ WG := WG_t1 (List.mem_of_getElem? (i := 110) (by decide +kernel)) rfl
theorem wd_123 : (Cond.lays "MagnetPoems$PoemReader" "MagnetPoems$PoemReader" "found" "I") ∈ WG := WG_t1 (List.mem_of_getElem? (i := 111) (by decide +kernel)) rfl
theorem wd_124 : (Cond.soleField "MagnetPoems$PoemReader" "found") ∈ WG := WG_t1 (List.mem_of_getElem? (i := 112) (by decide +kernel)) rfl
theorem wd_125 : (Cond.lays "MagnetPoems$PoemReader" "MagnetPoems$PoemReader" "line" "I") ∈ WG := WG_t1 (List.mem_of_getElem? (i := 113) (by decide +kernel)) rfl
theorem wd_126 : (Cond.soleField "MagnetPoems$PoemReader" "line") ∈ WG := WG_t1 (List.mem_of_getElem? (i := 114) (by decide +kernel)) rfl
theorem wd_127 : (Cond.lays "MagnetPoems$PoemReader" "MagnetPoems$PoemReader" "wordsOnLine" "I") ∈ WG := WG_t1 (List.mem_of_getElem? (i := 115) (by decide +kernel)) rfl
theorem wd_128 : (Cond.soleField "MagnetPoems$PoemReader" "wordsOnLine") ∈ WG := WG_t1 (List.mem_of_getElem? (i := 116) (by decide +kernel)) rfl
theorem wd_129 : (Cond.lays "MagnetPoems$PoemReader" "MagnetPoems$PoemReader" "number" "I") ∈ WG := WG_t1 (List.mem_of_getElem? (i := 117) (by decide +kernel)) rfl
theorem wd_130 : (Cond.soleField "MagnetPoems$PoemReader" "number") ∈ WG := WG_t1 (List.mem_of_getElem? (i := 118) (by decide +kernel)) rfl
theorem wd_131 : (Cond.superclass "MagnetPoems$PoemReader" "java/lang/Object") ∈ WG := WG_t1 (List.mem_of_getElem? (i := 119) (by decide +kernel)) rfl
theorem wd_132 : (Cond.arrayClass FieldType.boolean) ∈ WG := WG_t1 (List.mem_of_getElem? (i := 120) (by decide +kernel)) rfl
theorem wd_133 : (Cond.fieldLink "MagnetPoems" 10 "MagnetPoems" "board" "LMagnetPoems$Board;") ∈ WG := WG_t1 (List.mem_of_getElem? (i := 121) (by decide +kernel)) rfl
theorem wd_134 : (Cond.fieldLink "MagnetPoems" 16 "MagnetPoems" "dream" "LMagnetPoems$Board;") ∈ WG := WG_t1 (List.mem_of_getElem? (i := 122) (by decide +kernel)) rfl
theorem wd_135 : (Cond.fieldLink "MagnetPoems" 22 "MagnetPoems" "history" "LMagnetPoems$History;") ∈ WG := WG_t1 (List.mem_of_getElem? (i := 123) (by decide +kernel)) rfl
theorem wd_136 : (Cond.fieldLink "MagnetPoems" 26 "MagnetPoems" "slots" "[LMagnetPoems$Board;") ∈ WG := WG_t1 (List.mem_of_getElem? (i := 124) (by decide +kernel)) rfl
theorem wd_137 : (Cond.fieldLink "MagnetPoems" 30 "MagnetPoems" "kept" "[Z") ∈ WG := WG_t1 (List.mem_of_getElem? (i := 125) (by decide +kernel)) rfl
theorem wd_138 : (Cond.fieldLink "MagnetPoems" 34 "MagnetPoems" "buffer" "[I") ∈ WG := WG_t1 (List.mem_of_getElem? (i := 126) (by decide +kernel)) rfl
theorem wd_139 : (Cond.fieldLink "MagnetPoems" 41 "MagnetPoems" "reader" "LMagnetPoems$PoemReader;") ∈ WG := WG_t1 (List.mem_of_getElem? (i := 127) (by decide +kernel)) rfl
theorem wd_140 : (Cond.laysFinal "MagnetPoems" "MagnetPoems" "board" "LMagnetPoems$Board;") ∈ WG := WG_t1 (List.mem_of_getElem? (i := 128) (by decide +kernel)) rfl
theorem wd_141 : (Cond.soleField "MagnetPoems" "board") ∈ WG := WG_t1 (List.mem_of_getElem? (i := 129) (by decide +kernel)) rfl
theorem wd_142 : (Cond.laysFinal "MagnetPoems" "MagnetPoems" "dream" "LMagnetPoems$Board;") ∈ WG := WG_t1 (List.mem_of_getElem? (i := 130) (by decide +kernel)) rfl
theorem wd_143 : (Cond.soleField "MagnetPoems" "dream") ∈ WG := WG_t1 (List.mem_of_getElem? (i := 131) (by decide +kernel)) rfl
theorem wd_144 : (Cond.laysFinal "MagnetPoems" "MagnetPoems" "history" "LMagnetPoems$History;") ∈ WG := WG_t1 (List.mem_of_getElem? (i := 132) (by decide +kernel)) rfl
theorem wd_145 : (Cond.soleField "MagnetPoems" "history") ∈ WG := WG_t1 (List.mem_of_getElem? (i := 133) (by decide +kernel)) rfl
theorem wd_146 : (Cond.laysFinal "MagnetPoems" "MagnetPoems" "slots" "[LMagnetPoems$Board;") ∈ WG := WG_t1 (List.mem_of_getElem? (i := 134) (by decide +kernel)) rfl
theorem wd_147 : (Cond.soleField "MagnetPoems" "slots") ∈ WG := WG_t1 (List.mem_of_getElem? (i := 135) (by decide +kernel)) rfl
theorem wd_148 : (Cond.laysFinal "MagnetPoems" "MagnetPoems" "kept" "[Z") ∈ WG := WG_t1 (List.mem_of_getElem? (i := 136) (by decide +kernel)) rfl
theorem wd_149 : (Cond.soleField "MagnetPoems" "kept") ∈ WG := WG_t1 (List.mem_of_getElem? (i := 137) (by decide +kernel)) rfl
theorem wd_150 : (Cond.laysFinal "MagnetPoems" "MagnetPoems" "buffer" "[I") ∈ WG := WG_t1 (List.mem_of_getElem? (i := 138) (by decide +kernel)) rfl
theorem wd_151 : (Cond.soleField "MagnetPoems" "buffer") ∈ WG := WG_t1 (List.mem_of_getElem? (i := 139) (by decide +kernel)) rfl
theorem wd_152 : (Cond.lays "MagnetPoems" "MagnetPoems" "bufferLength" "I") ∈ WG := WG_t1 (List.mem_of_getElem? (i := 140) (by decide +kernel)) rfl
theorem wd_153 : (Cond.soleField "MagnetPoems" "bufferLength") ∈ WG := WG_t1 (List.mem_of_getElem? (i := 141) (by decide +kernel)) rfl
theorem wd_154 : (Cond.laysFinal "MagnetPoems" "MagnetPoems" "reader" "LMagnetPoems$PoemReader;") ∈ WG := WG_t1 (List.mem_of_getElem? (i := 142) (by decide +kernel)) rfl
theorem wd_155 : (Cond.soleField "MagnetPoems" "reader") ∈ WG := WG_t1 (List.mem_of_getElem? (i := 143) (by decide +kernel)) rfl
theorem wd_156 : (Cond.superclass "MagnetPoems" "java/lang/Object") ∈ WG := WG_t1 (List.mem_of_getElem? (i := 144) (by decide +kernel)) rfl
theorem wd_157 : (Cond.methodLink "MagnetPoemsLaw" 201 yL_cell) ∈ WG := WG_t1 (List.mem_of_getElem? (i := 145) (by decide +kernel)) rfl
theorem wd_158 : (Cond.static yL_cell) ∈ WG := WG_t1 (List.mem_of_getElem? (i := 146) (by decide +kernel)) rfl
theorem wd_159 : (Cond.code yL_cell method_2_code 2 (Option.some FieldType.int)) ∈ WG := WG_t1 (List.mem_of_getElem? (i := 147) (rfl)) rfl
theorem wd_160 : (Cond.constant "MagnetPoemsLaw" 7 1028614811) ∈ WG := WG_t1 (List.mem_of_getElem? (i := 148) (by decide +kernel)) rfl
theorem wd_161 : (Cond.methodLink "MagnetPoemsLaw" 105 yL_low) ∈ WG := WG_t1 (List.mem_of_getElem? (i := 149) (by decide +kernel)) rfl
theorem wd_162 : (Cond.static yL_low) ∈ WG := WG_t1 (List.mem_of_getElem? (i := 150) (by decide +kernel)) rfl
theorem wd_163 : (Cond.code yL_low method_3_code 2 (Option.some FieldType.int)) ∈ WG := WG_t1 (List.mem_of_getElem? (i := 151) (rfl)) rfl
theorem wd_164 : (Cond.constant "MagnetPoemsLaw" 8 2147483647) ∈ WG := WG_t1 (List.mem_of_getElem? (i := 152) (by decide +kernel)) rfl
theorem wd_165 : (Cond.methodLink "MagnetPoemsLaw" 193 yL_areWords) ∈ WG := WG_t1 (List.mem_of_getElem? (i := 153) (by decide +kernel)) rfl
theorem wd_166 : (Cond.static yL_areWords) ∈ WG := WG_t1 (List.mem_of_getElem? (i := 154) (by decide +kernel)) rfl
theorem wd_167 : (Cond.code yL_areWords method_21_code 6 (Option.some FieldType.boolean)) ∈ WG := WG_t1 (List.mem_of_getElem? (i := 155) (rfl)) rfl
theorem wd_168 : (Cond.methodLink "MagnetPoemsLaw" 57 yX3_wordOf) ∈ WG := WG_t1 (List.mem_of_getElem? (i := 156) (by decide +kernel)) rfl
theorem wd_169 : (Cond.instanceMethod yX3_wordOf) ∈ WG := WG_t1 (List.mem_of_getElem? (i := 157) (by decide +kernel)) rfl
theorem wd_170 : (Cond.selects "MagnetPoems" yX3_wordOf yX3_wordOf) ∈ WG := WG_t1 (List.mem_of_getElem? (i := 158) (by decide +kernel)) rfl
theorem wd_171 : (Cond.code yX3_wordOf prog_1_method_18_code 3 (Option.some FieldType.int)) ∈ WG := WG_t1 (List.mem_of_getElem? (i := 159) (rfl)) rfl
theorem wd_172 : (Cond.methodLink "MagnetPoems" 45 yX3_isWord) ∈ WG := WG_t1 (List.mem_of_getElem? (i := 160) (by decide +kernel)) rfl
theorem wd_173 : (Cond.static yX3_isWord) ∈ WG := WG_t1 (List.mem_of_getElem? (i := 161) (by decide +kernel)) rfl
theorem wd_174 : (Cond.code yX3_isWord prog_1_method_41_code 1 (Option.some FieldType.boolean)) ∈ WG := WG_t1 (List.mem_of_getElem? (i := 162) (rfl)) rfl
theorem wd_175 : (Cond.classLink "MagnetPoems" 53 "java/lang/IndexOutOfBoundsException") ∈ WG := WG_t1 (List.mem_of_getElem? (i := 163) (by decide +kernel)) rfl
theorem wd_176 : (Cond.instantiable "java/lang/IndexOutOfBoundsException" 6) ∈ WG := WG_t1 (List.mem_of_getElem? (i := 164) (by decide +kernel)) rfl
theorem wd_184 : (Cond.selects "java/lang/IndexOutOfBoundsException" ⟨"java/lang/Throwable", "fillInStackTrace", "(I)Ljava/lang/Throwable;"⟩ ⟨"java/lang/Throwable", "fillInStackTrace", "(I)Ljava/lang/Throwable;"⟩) ∈ WG := WG_t1 (List.mem_of_getElem? (i := 172) (by decide +kernel)) rfl
theorem wd_185 : (Cond.selects "java/lang/IndexOutOfBoundsException" ⟨"java/lang/Throwable", "fillInStackTrace", "()Ljava/lang/Throwable;"⟩ ⟨"java/lang/Throwable", "fillInStackTrace", "()Ljava/lang/Throwable;"⟩) ∈ WG := WG_t1 (List.mem_of_getElem? (i := 173) (by decide +kernel)) rfl
theorem wd_186 : (Cond.lays "java/lang/IndexOutOfBoundsException" "java/lang/Throwable" "cause" "Ljava/lang/Throwable;") ∈ WG := WG_t1 (List.mem_of_getElem? (i := 174) (by decide +kernel)) rfl
theorem wd_187 : (Cond.lays "java/lang/Throwable" "java/lang/Throwable" "cause" "Ljava/lang/Throwable;") ∈ WG := WG_t1 (List.mem_of_getElem? (i := 175) (by decide +kernel)) rfl
theorem wd_188 : (Cond.lays "java/lang/IndexOutOfBoundsException" "java/lang/Throwable" "stackTrace" "[Ljava/lang/StackTraceElement;") ∈ WG := WG_t1 (List.mem_of_getElem? (i := 176) (by decide +kernel)) rfl
theorem wd_189 : (Cond.lays "java/lang/Throwable" "java/lang/Throwable" "stackTrace" "[Ljava/lang/StackTraceElement;") ∈ WG := WG_t1 (List.mem_of_getElem? (i := 177) (by decide +kernel)) rfl
theorem wd_190 : (Cond.lays "java/lang/IndexOutOfBoundsException" "java/lang/Throwable" "suppressedExceptions" "Ljava/util/List;") ∈ WG := WG_t1 (List.mem_of_getElem? (i := 178) (by decide +kernel)) rfl
theorem wd_191 : (Cond.lays "java/lang/Throwable" "java/lang/Throwable" "suppressedExceptions" "Ljava/util/List;") ∈ WG := WG_t1 (List.mem_of_getElem? (i := 179) (by decide +kernel)) rfl
theorem wd_192 : (Cond.lays "java/lang/IndexOutOfBoundsException" "java/lang/Throwable" "detailMessage" "Ljava/lang/String;") ∈ WG := WG_t1 (List.mem_of_getElem? (i := 180) (by decide +kernel)) rfl
theorem wd_193 : (Cond.lays "java/lang/Throwable" "java/lang/Throwable" "detailMessage" "Ljava/lang/String;") ∈ WG := WG_t1 (List.mem_of_getElem? (i := 181) (by decide +kernel)) rfl
theorem wd_194 : (Cond.lays "java/lang/IndexOutOfBoundsException" "java/lang/Throwable" "backtrace" "Ljava/lang/Object;") ∈ WG := WG_t1 (List.mem_of_getElem? (i := 182) (by decide +kernel)) rfl
theorem wd_195 : (Cond.lays "java/lang/Throwable" "java/lang/Throwable" "backtrace" "Ljava/lang/Object;") ∈ WG := WG_t1 (List.mem_of_getElem? (i := 183) (by decide +kernel)) rfl
theorem wd_196 : (Cond.fieldLink "java/lang/Throwable" 198 "java/lang/Throwable" "backtrace" "Ljava/lang/Object;") ∈ WG := WG_t1 (List.mem_of_getElem? (i := 184) (by decide +kernel)) rfl
theorem wd_197 : (Cond.superclass "java/lang/Throwable" "java/lang/Object") ∈ WG := WG_t1 (List.mem_of_getElem? (i := 185) (by decide +kernel)) rfl
theorem wd_198 : (Cond.instanceMethod ⟨"java/lang/Throwable", "<init>", "()V"⟩) ∈ WG := WG_t1 (List.mem_of_getElem? (i := 186) (by decide +kernel)) rfl
theorem wd_199 : (Cond.code ⟨"java/lang/Throwable", "<init>", "()V"⟩ prog_13_method_1_code 1 (Option.none : Option FieldType)) ∈ WG := WG_t1 (List.mem_of_getElem? (i := 187) (rfl)) rfl
theorem wd_200 : (Cond.methodLink "java/lang/Throwable" 1 ⟨"java/lang/Object", "<init>", "()V"⟩) ∈ WG := WG_t1 (List.mem_of_getElem? (i := 188) (by decide +kernel)) rfl
theorem wd_201 : (Cond.fieldLink "java/lang/Throwable" 13 "java/lang/Throwable" "UNASSIGNED_STACK" "[Ljava/lang/StackTraceElement;") ∈ WG := WG_t1 (List.mem_of_getElem? (i := 189) (by decide +kernel)) rfl
theorem wd_203 : (Cond.fieldLink "java/lang/Throwable" 20 "java/lang/Throwable" "SUPPRESSED_SENTINEL" "Ljava/util/List;") ∈ WG := WG_t1 (List.mem_of_getElem? (i := 191) (by decide +kernel)) rfl
theorem wd_205 : (Cond.methodLink "java/lang/Throwable" 27 ⟨"java/lang/Throwable", "fillInStackTrace", "()Ljava/lang/Throwable;"⟩) ∈ WG := WG_t1 (List.mem_of_getElem? (i := 193) (by decide +kernel)) rfl
theorem wd_206 : (Cond.instanceMethod ⟨"java/lang/Throwable", "fillInStackTrace", "()Ljava/lang/Throwable;"⟩) ∈ WG := WG_t1 (List.mem_of_getElem? (i := 194) (by decide +kernel)) rfl
theorem wd_207 : (Cond.sameMethod "java/lang/Throwable" "java/lang/Throwable" "fillInStackTrace" "()Ljava/lang/Throwable;") ∈ WG := WG_t1 (List.mem_of_getElem? (i := 195) (by decide +kernel)) rfl
theorem wd_208 : (Cond.selects "java/lang/IllegalArgumentException" ⟨"java/lang/Throwable", "fillInStackTrace", "()Ljava/lang/Throwable;"⟩ ⟨"java/lang/Throwable", "fillInStackTrace", "()Ljava/lang/Throwable;"⟩) ∈ WG := WG_t1 (List.mem_of_getElem? (i := 196) (by decide +kernel)) rfl
theorem wd_209 : (Cond.selects "java/lang/IllegalStateException" ⟨"java/lang/Throwable", "fillInStackTrace", "()Ljava/lang/Throwable;"⟩ ⟨"java/lang/Throwable", "fillInStackTrace", "()Ljava/lang/Throwable;"⟩) ∈ WG := WG_t1 (List.mem_of_getElem? (i := 197) (by decide +kernel)) rfl
theorem wd_211 : (Cond.methodLink "java/lang/Throwable" 202 ⟨"java/lang/Throwable", "fillInStackTrace", "(I)Ljava/lang/Throwable;"⟩) ∈ WG := WG_t1 (List.mem_of_getElem? (i := 199) (by decide +kernel)) rfl
theorem wd_213 : (Cond.instanceMethod ⟨"java/lang/Throwable", "fillInStackTrace", "(I)Ljava/lang/Throwable;"⟩) ∈ WG := WG_t1 (List.mem_of_getElem? (i := 201) (by decide +kernel)) rfl
theorem wd_214 : (Cond.instantiable "java/lang/Throwable" 6) ∈ WG := WG_t1 (List.mem_of_getElem? (i := 202) (by decide +kernel)) rfl
theorem wd_215 : (Cond.native ⟨"java/lang/Throwable", "fillInStackTrace", "(I)Ljava/lang/Throwable;"⟩) ∈ WG := WG_t1 (List.mem_of_getElem? (i := 203) (by decide +kernel)) rfl
theorem wd_217 : (Cond.methodLink "MagnetPoems" 57 ⟨"java/lang/IndexOutOfBoundsException", "<init>", "(Ljava/lang/String;)V"⟩) ∈ WG := WG_t1 (List.mem_of_getElem? (i := 205) (by decide +kernel)) rfl
theorem wd_218 : (Cond.instanceMethod ⟨"java/lang/IndexOutOfBoundsException", "<init>", "(Ljava/lang/String;)V"⟩) ∈ WG := WG_t1 (List.mem_of_getElem? (i := 206) (by decide +kernel)) rfl
theorem wd_219 : (Cond.code ⟨"java/lang/IndexOutOfBoundsException", "<init>", "(Ljava/lang/String;)V"⟩ prog_10_method_2_code 2 (Option.none : Option FieldType)) ∈ WG := WG_t1 (List.mem_of_getElem? (i := 207) (rfl)) rfl
theorem wd_220 : (Cond.methodLink "java/lang/IndexOutOfBoundsException" 7 ⟨"java/lang/RuntimeException", "<init>", "(Ljava/lang/String;)V"⟩) ∈ WG := WG_t1 (List.mem_of_getElem? (i := 208) (by decide +kernel)) rfl
theorem wd_221 : (Cond.instanceMethod ⟨"java/lang/RuntimeException", "<init>", "(Ljava/lang/String;)V"⟩) ∈ WG := WG_t1 (List.mem_of_getElem? (i := 209) (by decide +kernel)) rfl
theorem wd_222 : (Cond.code ⟨"java/lang/RuntimeException", "<init>", "(Ljava/lang/String;)V"⟩ prog_11_method_2_code 2 (Option.none : Option FieldType)) ∈ WG := WG_t1 (List.mem_of_getElem? (i := 210) (rfl)) rfl
theorem wd_223 : (Cond.methodLink "java/lang/RuntimeException" 7 ⟨"java/lang/Exception", "<init>", "(Ljava/lang/String;)V"⟩) ∈ WG := WG_t1 (List.mem_of_getElem? (i := 211) (by decide +kernel)) rfl
theorem wd_224 : (Cond.instanceMethod ⟨"java/lang/Exception", "<init>", "(Ljava/lang/String;)V"⟩) ∈ WG := WG_t1 (List.mem_of_getElem? (i := 212) (by decide +kernel)) rfl
theorem wd_225 : (Cond.code ⟨"java/lang/Exception", "<init>", "(Ljava/lang/String;)V"⟩ prog_7_method_2_code 2 (Option.none : Option FieldType)) ∈ WG := WG_t1 (List.mem_of_getElem? (i := 213) (rfl)) rfl
theorem wd_226 : (Cond.methodLink "java/lang/Exception" 7 ⟨"java/lang/Throwable", "<init>", "(Ljava/lang/String;)V"⟩) ∈ WG := WG_t1 (List.mem_of_getElem? (i := 214) (by decide +kernel)) rfl
theorem wd_227 : (Cond.instanceMethod ⟨"java/lang/Throwable", "<init>", "(Ljava/lang/String;)V"⟩) ∈ WG := WG_t1 (List.mem_of_getElem? (i := 215) (by decide +kernel)) rfl
theorem wd_228 : (Cond.code ⟨"java/lang/Throwable", "<init>", "(Ljava/lang/String;)V"⟩ prog_13_method_2_code 2 (Option.none : Option FieldType)) ∈ WG := WG_t1 (List.mem_of_getElem? (i := 216) (rfl)) rfl
theorem wd_229 : (Cond.fieldLink "java/lang/Throwable" 198 "java/lang/Throwable" "backtrace" "Ljava/lang/Object;") ∈ WG := WG_t1 (List.mem_of_getElem? (i := 217) (by decide +kernel)) rfl
theorem wd_230 : (Cond.fieldLink "java/lang/Throwable" 31 "java/lang/Throwable" "detailMessage" "Ljava/lang/String;") ∈ WG := WG_t1 (List.mem_of_getElem? (i := 218) (by decide +kernel)) rfl
theorem wd_231 : (Cond.fieldLink "java/lang/Throwable" 7 "java/lang/Throwable" "cause" "Ljava/lang/Throwable;") ∈ WG := WG_t1 (List.mem_of_getElem? (i := 219) (by decide +kernel)) rfl
theorem wd_232 : (Cond.fieldLink "java/lang/Throwable" 17 "java/lang/Throwable" "stackTrace" "[Ljava/lang/StackTraceElement;") ∈ WG := WG_t1 (List.mem_of_getElem? (i := 220) (by decide +kernel)) rfl
theorem wd_233 : (Cond.fieldLink "java/lang/Throwable" 24 "java/lang/Throwable" "suppressedExceptions" "Ljava/util/List;") ∈ WG := WG_t1 (List.mem_of_getElem? (i := 221) (by decide +kernel)) rfl
theorem wd_234 : (Cond.soleField "java/lang/Throwable" "backtrace") ∈ WG := WG_t1 (List.mem_of_getElem? (i := 222) (by decide +kernel)) rfl
theorem wd_235 : (Cond.soleField "java/lang/Throwable" "detailMessage") ∈ WG := WG_t1 (List.mem_of_getElem? (i := 223) (by decide +kernel)) rfl
theorem wd_236 : (Cond.soleField "java/lang/Throwable" "cause") ∈ WG := WG_t1 (List.mem_of_getElem? (i := 224) (by decide +kernel)) rfl
theorem wd_237 : (Cond.soleField "java/lang/Throwable" "stackTrace") ∈ WG := WG_t1 (List.mem_of_getElem? (i := 225) (by decide +kernel)) rfl
theorem wd_238 : (Cond.lays "java/lang/IndexOutOfBoundsException" "java/lang/Throwable" "depth" "I") ∈ WG := WG_t1 (List.mem_of_getElem? (i := 226) (by decide +kernel)) rfl
theorem wd_239 : (Cond.soleField "java/lang/Throwable" "depth") ∈ WG := WG_t1 (List.mem_of_getElem? (i := 227) (by decide +kernel)) rfl
theorem wd_240 : (Cond.soleField "java/lang/Throwable" "suppressedExceptions") ∈ WG := WG_t1 (List.mem_of_getElem? (i := 228) (by decide +kernel)) rfl
theorem wd_241 : (Cond.superclass "java/lang/IndexOutOfBoundsException" "java/lang/RuntimeException") ∈ WG := WG_t1 (List.mem_of_getElem? (i := 229) (by decide +kernel)) rfl
theorem wd_242 : (Cond.arrayClass FieldType.byte) ∈ WG := WG_t1 (List.mem_of_getElem? (i := 230) (by decide +kernel)) rfl
theorem wd_243 : (Cond.classLink "MagnetPoems" 127 "java/lang/IllegalArgumentException") ∈ WG := WG_t1 (List.mem_of_getElem? (i := 231) (by decide +kernel)) rfl
theorem wd_244 : (Cond.instantiable "java/lang/IllegalArgumentException" 6) ∈ WG := WG_t1 (List.mem_of_getElem? (i := 232) (by decide +kernel)) rfl
theorem wd_246 : (Cond.selects "java/lang/IllegalArgumentException" ⟨"java/lang/Throwable", "fillInStackTrace", "(I)Ljava/lang/Throwable;"⟩ ⟨"java/lang/Throwable", "fillInStackTrace", "(I)Ljava/lang/Throwable;"⟩) ∈ WG := WG_t1 (List.mem_of_getElem? (i := 234) (by decide +kernel)) rfl
theorem wd_247 : (Cond.lays "java/lang/IllegalArgumentException" "java/lang/Throwable" "cause" "Ljava/lang/Throwable;") ∈ WG := WG_t1 (List.mem_of_getElem? (i := 235) (by decide +kernel)) rfl
theorem wd_248 : (Cond.lays "java/lang/IllegalArgumentException" "java/lang/Throwable" "stackTrace" "[Ljava/lang/StackTraceElement;") ∈ WG := WG_t1 (List.mem_of_getElem? (i := 236) (by decide +kernel)) rfl
theorem wd_249 : (Cond.lays "java/lang/IllegalArgumentException" "java/lang/Throwable" "suppressedExceptions" "Ljava/util/List;") ∈ WG := WG_t1 (List.mem_of_getElem? (i := 237) (by decide +kernel)) rfl
theorem wd_250 : (Cond.lays "java/lang/IllegalArgumentException" "java/lang/Throwable" "detailMessage" "Ljava/lang/String;") ∈ WG := WG_t1 (List.mem_of_getElem? (i := 238) (by decide +kernel)) rfl
theorem wd_251 : (Cond.lays "java/lang/IllegalArgumentException" "java/lang/Throwable" "backtrace" "Ljava/lang/Object;") ∈ WG := WG_t1 (List.mem_of_getElem? (i := 239) (by decide +kernel)) rfl
theorem wd_253 : (Cond.methodLink "MagnetPoems" 131 ⟨"java/lang/IllegalArgumentException", "<init>", "(Ljava/lang/String;)V"⟩) ∈ WG := WG_t2 (List.mem_of_getElem? (i := 1) (by decide +kernel)) rfl
theorem wd_254 : (Cond.instanceMethod ⟨"java/lang/IllegalArgumentException", "<init>", "(Ljava/lang/String;)V"⟩) ∈ WG := WG_t2 (List.mem_of_getElem? (i := 2) (by decide +kernel)) rfl
theorem wd_255 : (Cond.code ⟨"java/lang/IllegalArgumentException", "<init>", "(Ljava/lang/String;)V"⟩ prog_8_method_2_code 2 (Option.none : Option FieldType)) ∈ WG := WG_t2 (List.mem_of_getElem? (i := 3) (rfl)) rfl
theorem wd_256 : (Cond.methodLink "java/lang/IllegalArgumentException" 7 ⟨"java/lang/RuntimeException", "<init>", "(Ljava/lang/String;)V"⟩) ∈ WG := WG_t2 (List.mem_of_getElem? (i := 4) (by decide +kernel)) rfl
theorem wd_257 : (Cond.lays "java/lang/IllegalArgumentException" "java/lang/Throwable" "depth" "I") ∈ WG := WG_t2 (List.mem_of_getElem? (i := 5) (by decide +kernel)) rfl
theorem wd_258 : (Cond.superclass "java/lang/IllegalArgumentException" "java/lang/RuntimeException") ∈ WG := WG_t2 (List.mem_of_getElem? (i := 6) (by decide +kernel)) rfl
theorem wd_259 : (Cond.methodLink "MagnetPoems" 233 yX0_wordProperty) ∈ WG := WG_t2 (List.mem_of_getElem? (i := 7) (by decide +kernel)) rfl
theorem wd_260 : (Cond.instanceMethod yX0_wordProperty) ∈ WG := WG_t2 (List.mem_of_getElem? (i := 8) (by decide +kernel)) rfl
theorem wd_261 : (Cond.selects "MagnetPoems$Board" yX0_wordProperty yX0_wordProperty) ∈ WG := WG_t2 (List.mem_of_getElem? (i := 9) (by decide +kernel)) rfl
theorem wd_262 : (Cond.code yX0_wordProperty prog_2_method_40_code 4 (Option.some FieldType.int)) ∈ WG := WG_t2 (List.mem_of_getElem? (i := 10) (rfl)) rfl
theorem wd_264 : (Cond.static yX3_cell) ∈ WG := WG_t2 (List.mem_of_getElem? (i := 12) (by decide +kernel)) rfl
theorem wd_265 : (Cond.code yX3_cell prog_1_method_55_code 2 (Option.some FieldType.int)) ∈ WG := WG_t2 (List.mem_of_getElem? (i := 13) (rfl)) rfl
theorem wd_267 : (Cond.static yX3_kindOf) ∈ WG := WG_t2 (List.mem_of_getElem? (i := 15) (by decide +kernel)) rfl
theorem wd_268 : (Cond.code yX3_kindOf prog_1_method_49_code 1 (Option.some FieldType.int)) ∈ WG := WG_t2 (List.mem_of_getElem? (i := 16) (rfl)) rfl
theorem wd_270 : (Cond.static yX3_endingOf) ∈ WG := WG_t2 (List.mem_of_getElem? (i := 18) (by decide +kernel)) rfl
theorem wd_271 : (Cond.code yX3_endingOf prog_1_method_50_code 1 (Option.some FieldType.int)) ∈ WG := WG_t2 (List.mem_of_getElem? (i := 19) (rfl)) rfl
theorem wd_273 : (Cond.static yX3_beatsOf) ∈ WG := WG_t2 (List.mem_of_getElem? (i := 21) (by decide +kernel)) rfl
theorem wd_274 : (Cond.code yX3_beatsOf prog_1_method_51_code 1 (Option.some FieldType.int)) ∈ WG := WG_t2 (List.mem_of_getElem? (i := 22) (rfl)) rfl
theorem wd_275 : (Cond.methodLink "MagnetPoems$Board" 83 yX0_placeOf) ∈ WG := WG_t2 (List.mem_of_getElem? (i := 23) (by decide +kernel)) rfl
theorem wd_276 : (Cond.instanceMethod yX0_placeOf) ∈ WG := WG_t2 (List.mem_of_getElem? (i := 24) (by decide +kernel)) rfl
theorem wd_277 : (Cond.selects "MagnetPoems$Board" yX0_placeOf yX0_placeOf) ∈ WG := WG_t2 (List.mem_of_getElem? (i := 25) (by decide +kernel)) rfl
theorem wd_278 : (Cond.code yX0_placeOf prog_2_method_8_code 4 (Option.some FieldType.int)) ∈ WG := WG_t2 (List.mem_of_getElem? (i := 26) (rfl)) rfl
theorem wd_279 : (Cond.methodLink "MagnetPoems$Board" 68 yX0_wordAt) ∈ WG := WG_t2 (List.mem_of_getElem? (i := 27) (by decide +kernel)) rfl
theorem wd_280 : (Cond.instanceMethod yX0_wordAt) ∈ WG := WG_t2 (List.mem_of_getElem? (i := 28) (by decide +kernel)) rfl
theorem wd_281 : (Cond.selects "MagnetPoems$Board" yX0_wordAt yX0_wordAt) ∈ WG := WG_t2 (List.mem_of_getElem? (i := 29) (by decide +kernel)) rfl
theorem wd_282 : (Cond.code yX0_wordAt prog_2_method_6_code 5 (Option.some FieldType.int)) ∈ WG := WG_t2 (List.mem_of_getElem? (i := 30) (rfl)) rfl
theorem wd_283 : (Cond.methodLink "MagnetPoemsLaw" 197 yL_areDoors) ∈ WG := WG_t2 (List.mem_of_getElem? (i := 31) (by decide +kernel)) rfl
theorem wd_284 : (Cond.static yL_areDoors) ∈ WG := WG_t2 (List.mem_of_getElem? (i := 32) (by decide +kernel)) rfl
theorem wd_285 : (Cond.code yL_areDoors method_24_code 12 (Option.some FieldType.boolean)) ∈ WG := WG_t2 (List.mem_of_getElem? (i := 33) (rfl)) rfl
theorem wd_286 : (Cond.methodLink "MagnetPoemsLaw" 74 yL_isLine) ∈ WG := WG_t2 (List.mem_of_getElem? (i := 34) (by decide +kernel)) rfl
theorem wd_287 : (Cond.static yL_isLine) ∈ WG := WG_t2 (List.mem_of_getElem? (i := 35) (by decide +kernel)) rfl
theorem wd_288 : (Cond.code yL_isLine method_23_code 12 (Option.some FieldType.boolean)) ∈ WG := WG_t2 (List.mem_of_getElem? (i := 36) (rfl)) rfl
theorem wd_289 : (Cond.methodLink "MagnetPoemsLaw" 19 yL_wordAt) ∈ WG := WG_t2 (List.mem_of_getElem? (i := 37) (by decide +kernel)) rfl
theorem wd_290 : (Cond.static yL_wordAt) ∈ WG := WG_t2 (List.mem_of_getElem? (i := 38) (by decide +kernel)) rfl
theorem wd_291 : (Cond.code yL_wordAt method_6_code 5 (Option.some FieldType.int)) ∈ WG := WG_t2 (List.mem_of_getElem? (i := 39) (rfl)) rfl
theorem wd_292 : (Cond.methodLink "MagnetPoemsLaw" 9 yL_isOn) ∈ WG := WG_t2 (List.mem_of_getElem? (i := 40) (by decide +kernel)) rfl
theorem wd_293 : (Cond.static yL_isOn) ∈ WG := WG_t2 (List.mem_of_getElem? (i := 41) (by decide +kernel)) rfl
theorem wd_294 : (Cond.code yL_isOn method_4_code 3 (Option.some FieldType.boolean)) ∈ WG := WG_t2 (List.mem_of_getElem? (i := 42) (rfl)) rfl
theorem wd_295 : (Cond.methodLink "MagnetPoemsLaw" 63 yX3_at) ∈ WG := WG_t2 (List.mem_of_getElem? (i := 43) (by decide +kernel)) rfl
theorem wd_296 : (Cond.instanceMethod yX3_at) ∈ WG := WG_t2 (List.mem_of_getElem? (i := 44) (by decide +kernel)) rfl
theorem wd_297 : (Cond.selects "MagnetPoems" yX3_at yX3_at) ∈ WG := WG_t2 (List.mem_of_getElem? (i := 45) (by decide +kernel)) rfl
theorem wd_298 : (Cond.code yX3_at prog_1_method_19_code 4 (Option.some FieldType.int)) ∈ WG := WG_t2 (List.mem_of_getElem? (i := 46) (rfl)) rfl
theorem wd_299 : (Cond.methodLink "MagnetPoems" 106 yX3_isLine) ∈ WG := WG_t2 (List.mem_of_getElem? (i := 47) (by decide +kernel)) rfl
theorem wd_300 : (Cond.static yX3_isLine) ∈ WG := WG_t2 (List.mem_of_getElem? (i := 48) (by decide +kernel)) rfl
theorem wd_301 : (Cond.code yX3_isLine prog_1_method_43_code 2 (Option.some FieldType.boolean)) ∈ WG := WG_t2 (List.mem_of_getElem? (i := 49) (rfl)) rfl
theorem wd_302 : (Cond.methodLink "MagnetPoems" 117 yX3_isDoor) ∈ WG := WG_t2 (List.mem_of_getElem? (i := 50) (by decide +kernel)) rfl
theorem wd_303 : (Cond.static yX3_isDoor) ∈ WG := WG_t2 (List.mem_of_getElem? (i := 51) (by decide +kernel)) rfl
theorem wd_304 : (Cond.code yX3_isDoor prog_1_method_42_code 1 (Option.some FieldType.boolean)) ∈ WG := WG_t2 (List.mem_of_getElem? (i := 52) (rfl)) rfl
theorem wd_306 : (Cond.methodLink "MagnetPoems" 72 yX3_lineNumber) ∈ WG := WG_t2 (List.mem_of_getElem? (i := 54) (by decide +kernel)) rfl
theorem wd_307 : (Cond.static yX3_lineNumber) ∈ WG := WG_t2 (List.mem_of_getElem? (i := 55) (by decide +kernel)) rfl
theorem wd_308 : (Cond.code yX3_lineNumber prog_1_method_53_code 2 (Option.some FieldType.int)) ∈ WG := WG_t2 (List.mem_of_getElem? (i := 56) (rfl)) rfl
theorem wd_309 : (Cond.methodLink "MagnetPoems" 238 yX0_wordAt) ∈ WG := WG_t2 (List.mem_of_getElem? (i := 57) (by decide +kernel)) rfl
theorem wd_310 : (Cond.methodLink "MagnetPoemsLaw" 67 yX3_lineOf) ∈ WG := WG_t2 (List.mem_of_getElem? (i := 58) (by decide +kernel)) rfl
theorem wd_311 : (Cond.instanceMethod yX3_lineOf) ∈ WG := WG_t2 (List.mem_of_getElem? (i := 59) (by decide +kernel)) rfl
theorem wd_312 : (Cond.selects "MagnetPoems" yX3_lineOf yX3_lineOf) ∈ WG := WG_t2 (List.mem_of_getElem? (i := 60) (by decide +kernel)) rfl
theorem wd_313 : (Cond.code yX3_lineOf prog_1_method_20_code 4 (Option.some FieldType.int)) ∈ WG := WG_t2 (List.mem_of_getElem? (i := 61) (rfl)) rfl
theorem wd_316 : (Cond.methodLink "MagnetPoems" 243 yX0_lineProperty) ∈ WG := WG_t2 (List.mem_of_getElem? (i := 64) (by decide +kernel)) rfl
theorem wd_317 : (Cond.instanceMethod yX0_lineProperty) ∈ WG := WG_t2 (List.mem_of_getElem? (i := 65) (by decide +kernel)) rfl
theorem wd_318 : (Cond.selects "MagnetPoems$Board" yX0_lineProperty yX0_lineProperty) ∈ WG := WG_t2 (List.mem_of_getElem? (i := 66) (by decide +kernel)) rfl
theorem wd_319 : (Cond.code yX0_lineProperty prog_2_method_41_code 3 (Option.some FieldType.int)) ∈ WG := WG_t2 (List.mem_of_getElem? (i := 67) (rfl)) rfl
theorem wd_320 : (Cond.methodLink "MagnetPoems$Board" 91 yX0_beatsOn) ∈ WG := WG_t2 (List.mem_of_getElem? (i := 68) (by decide +kernel)) rfl
theorem wd_321 : (Cond.instanceMethod yX0_beatsOn) ∈ WG := WG_t2 (List.mem_of_getElem? (i := 69) (by decide +kernel)) rfl
theorem wd_322 : (Cond.selects "MagnetPoems$Board" yX0_beatsOn yX0_beatsOn) ∈ WG := WG_t2 (List.mem_of_getElem? (i := 70) (by decide +kernel)) rfl
theorem wd_323 : (Cond.code yX0_beatsOn prog_2_method_18_code 4 (Option.some FieldType.int)) ∈ WG := WG_t2 (List.mem_of_getElem? (i := 71) (rfl)) rfl
theorem wd_324 : (Cond.methodLink "MagnetPoems$Board" 117 yX0_worthOfLine) ∈ WG := WG_t2 (List.mem_of_getElem? (i := 72) (by decide +kernel)) rfl
theorem wd_325 : (Cond.instanceMethod yX0_worthOfLine) ∈ WG := WG_t2 (List.mem_of_getElem? (i := 73) (by decide +kernel)) rfl
theorem wd_326 : (Cond.selects "MagnetPoems$Board" yX0_worthOfLine yX0_worthOfLine) ∈ WG := WG_t2 (List.mem_of_getElem? (i := 74) (by decide +kernel)) rfl
theorem wd_327 : (Cond.code yX0_worthOfLine prog_2_method_19_code 9 (Option.some FieldType.int)) ∈ WG := WG_t2 (List.mem_of_getElem? (i := 75) (rfl)) rfl
theorem wd_328 : (Cond.methodLink "MagnetPoems$Board" 111 yX0_endingOn) ∈ WG := WG_t2 (List.mem_of_getElem? (i := 76) (by decide +kernel)) rfl
theorem wd_329 : (Cond.instanceMethod yX0_endingOn) ∈ WG := WG_t2 (List.mem_of_getElem? (i := 77) (by decide +kernel)) rfl
theorem wd_330 : (Cond.selects "MagnetPoems$Board" yX0_endingOn yX0_endingOn) ∈ WG := WG_t2 (List.mem_of_getElem? (i := 78) (by decide +kernel)) rfl
theorem wd_331 : (Cond.code yX0_endingOn prog_2_method_20_code 5 (Option.some FieldType.int)) ∈ WG := WG_t2 (List.mem_of_getElem? (i := 79) (rfl)) rfl
theorem wd_333 : (Cond.static yX3_lineCode) ∈ WG := WG_t2 (List.mem_of_getElem? (i := 81) (by decide +kernel)) rfl
theorem wd_334 : (Cond.code yX3_lineCode prog_1_method_54_code 1 (Option.some FieldType.int)) ∈ WG := WG_t2 (List.mem_of_getElem? (i := 82) (rfl)) rfl
theorem wd_335 : (Cond.methodLink "MagnetPoems$Board" 127 yX0_rhymesOf) ∈ WG := WG_t2 (List.mem_of_getElem? (i := 83) (by decide +kernel)) rfl
theorem wd_336 : (Cond.instanceMethod yX0_rhymesOf) ∈ WG := WG_t2 (List.mem_of_getElem? (i := 84) (by decide +kernel)) rfl
theorem wd_337 : (Cond.selects "MagnetPoems$Board" yX0_rhymesOf yX0_rhymesOf) ∈ WG := WG_t2 (List.mem_of_getElem? (i := 85) (by decide +kernel)) rfl
theorem wd_338 : (Cond.code yX0_rhymesOf prog_2_method_21_code 7 (Option.some FieldType.int)) ∈ WG := WG_t2 (List.mem_of_getElem? (i := 86) (rfl)) rfl
theorem wd_340 : (Cond.methodLink "MagnetPoems$Board" 153 yX0_clashes) ∈ WG := WG_t2 (List.mem_of_getElem? (i := 88) (by decide +kernel)) rfl
theorem wd_342 : (Cond.instanceMethod yX0_clashes) ∈ WG := WG_t2 (List.mem_of_getElem? (i := 90) (by decide +kernel)) rfl
theorem wd_343 : (Cond.code yX0_clashes prog_2_method_17_code 3 (Option.some FieldType.boolean)) ∈ WG := WG_t2 (List.mem_of_getElem? (i := 91) (rfl)) rfl
theorem wd_345 : (Cond.static yX3_clash) ∈ WG := WG_t2 (List.mem_of_getElem? (i := 93) (by decide +kernel)) rfl
theorem wd_346 : (Cond.code yX3_clash prog_1_method_52_code 2 (Option.some FieldType.boolean)) ∈ WG := WG_t2 (List.mem_of_getElem? (i := 94) (rfl)) rfl
theorem wd_347 : (Cond.methodLink "MagnetPoems" 325 yX3_kindOf) ∈ WG := WG_t2 (List.mem_of_getElem? (i := 95) (by decide +kernel)) rfl
theorem wd_348 : (Cond.methodLink "MagnetPoemsLaw" 15 yL_many) ∈ WG := WG_t2 (List.mem_of_getElem? (i := 96) (by decide +kernel)) rfl
theorem wd_349 : (Cond.static yL_many) ∈ WG := WG_t2 (List.mem_of_getElem? (i := 97) (by decide +kernel)) rfl
theorem wd_350 : (Cond.code yL_many method_5_code 4 (Option.some FieldType.int)) ∈ WG := WG_t2 (List.mem_of_getElem? (i := 98) (rfl)) rfl
theorem wd_351 : (Cond.methodLink "MagnetPoemsLaw" 30 yL_beats) ∈ WG := WG_t2 (List.mem_of_getElem? (i := 99) (by decide +kernel)) rfl
theorem wd_352 : (Cond.static yL_beats) ∈ WG := WG_t2 (List.mem_of_getElem? (i := 100) (by decide +kernel)) rfl
theorem wd_353 : (Cond.code yL_beats method_8_code 4 (Option.some FieldType.int)) ∈ WG := WG_t2 (List.mem_of_getElem? (i := 101) (rfl)) rfl
theorem wd_354 : (Cond.methodLink "MagnetPoemsLaw" 37 yL_worth) ∈ WG := WG_t2 (List.mem_of_getElem? (i := 102) (by decide +kernel)) rfl
theorem wd_355 : (Cond.static yL_worth) ∈ WG := WG_t2 (List.mem_of_getElem? (i := 103) (by decide +kernel)) rfl
theorem wd_356 : (Cond.code yL_worth method_13_code 4 (Option.some FieldType.int)) ∈ WG := WG_t2 (List.mem_of_getElem? (i := 104) (rfl)) rfl
theorem wd_357 : (Cond.methodLink "MagnetPoemsLaw" 33 yL_ending) ∈ WG := WG_t2 (List.mem_of_getElem? (i := 105) (by decide +kernel)) rfl
theorem wd_358 : (Cond.static yL_ending) ∈ WG := WG_t2 (List.mem_of_getElem? (i := 106) (by decide +kernel)) rfl
theorem wd_359 : (Cond.code yL_ending method_14_code 3 (Option.some FieldType.int)) ∈ WG := WG_t2 (List.mem_of_getElem? (i := 107) (rfl)) rfl
theorem wd_360 : (Cond.methodLink "MagnetPoemsLaw" 23 yL_last) ∈ WG := WG_t2 (List.mem_of_getElem? (i := 108) (by decide +kernel)) rfl
theorem wd_361 : (Cond.static yL_last) ∈ WG := WG_t2 (List.mem_of_getElem? (i := 109) (by decide +kernel)) rfl
theorem wd_362 : (Cond.code yL_last method_7_code 2 (Option.some FieldType.int)) ∈ WG := WG_t2 (List.mem_of_getElem? (i := 110) (rfl)) rfl
theorem wd_363 : (Cond.methodLink "MagnetPoemsLaw" 70 yL_told) ∈ WG := WG_t2 (List.mem_of_getElem? (i := 111) (by decide +kernel)) rfl
theorem wd_364 : (Cond.static yL_told) ∈ WG := WG_t2 (List.mem_of_getElem? (i := 112) (by decide +kernel)) rfl
theorem wd_365 : (Cond.code yL_told method_22_code 1 (Option.some FieldType.int)) ∈ WG := WG_t2 (List.mem_of_getElem? (i := 113) (rfl)) rfl
theorem wd_366 : (Cond.methodLink "MagnetPoemsLaw" 40 yL_rhymes) ∈ WG := WG_t2 (List.mem_of_getElem? (i := 114) (by decide +kernel)) rfl
theorem wd_367 : (Cond.static yL_rhymes) ∈ WG := WG_t2 (List.mem_of_getElem? (i := 115) (by decide +kernel)) rfl
theorem wd_368 : (Cond.code yL_rhymes method_15_code 7 (Option.some FieldType.int)) ∈ WG := WG_t2 (List.mem_of_getElem? (i := 116) (rfl)) rfl
theorem wd_369 : (Cond.methodLink "MagnetPoemsLaw" 46 yL_doorWorth) ∈ WG := WG_t2 (List.mem_of_getElem? (i := 117) (by decide +kernel)) rfl
theorem wd_370 : (Cond.static yL_doorWorth) ∈ WG := WG_t2 (List.mem_of_getElem? (i := 118) (by decide +kernel)) rfl
theorem wd_371 : (Cond.code yL_doorWorth method_16_code 5 (Option.some FieldType.int)) ∈ WG := WG_t2 (List.mem_of_getElem? (i := 119) (rfl)) rfl
theorem wd_372 : (Cond.methodLink "MagnetPoemsLaw" 43 yL_doorWords) ∈ WG := WG_t2 (List.mem_of_getElem? (i := 120) (by decide +kernel)) rfl
theorem wd_373 : (Cond.static yL_doorWords) ∈ WG := WG_t2 (List.mem_of_getElem? (i := 121) (by decide +kernel)) rfl
theorem wd_374 : (Cond.code yL_doorWords method_17_code 4 (Option.some FieldType.int)) ∈ WG := WG_t2 (List.mem_of_getElem? (i := 122) (rfl)) rfl
theorem wd_375 : (Cond.methodLink "MagnetPoemsLaw" 78 yX3_doorOf) ∈ WG := WG_t2 (List.mem_of_getElem? (i := 123) (by decide +kernel)) rfl
theorem wd_376 : (Cond.instanceMethod yX3_doorOf) ∈ WG := WG_t2 (List.mem_of_getElem? (i := 124) (by decide +kernel)) rfl
theorem wd_377 : (Cond.selects "MagnetPoems" yX3_doorOf yX3_doorOf) ∈ WG := WG_t2 (List.mem_of_getElem? (i := 125) (by decide +kernel)) rfl
theorem wd_378 : (Cond.code yX3_doorOf prog_1_method_21_code 3 (Option.some FieldType.int)) ∈ WG := WG_t2 (List.mem_of_getElem? (i := 126) (rfl)) rfl
theorem wd_381 : (Cond.methodLink "MagnetPoems" 248 yX0_doorProperty) ∈ WG := WG_t2 (List.mem_of_getElem? (i := 129) (by decide +kernel)) rfl
theorem wd_382 : (Cond.instanceMethod yX0_doorProperty) ∈ WG := WG_t2 (List.mem_of_getElem? (i := 130) (by decide +kernel)) rfl
theorem wd_383 : (Cond.selects "MagnetPoems$Board" yX0_doorProperty yX0_doorProperty) ∈ WG := WG_t2 (List.mem_of_getElem? (i := 131) (by decide +kernel)) rfl
theorem wd_384 : (Cond.code yX0_doorProperty prog_2_method_42_code 3 (Option.some FieldType.int)) ∈ WG := WG_t2 (List.mem_of_getElem? (i := 132) (rfl)) rfl
theorem wd_385 : (Cond.methodLink "MagnetPoems$Board" 120 yX0_worthOfDoor) ∈ WG := WG_t2 (List.mem_of_getElem? (i := 133) (by decide +kernel)) rfl
theorem wd_386 : (Cond.instanceMethod yX0_worthOfDoor) ∈ WG := WG_t2 (List.mem_of_getElem? (i := 134) (by decide +kernel)) rfl
theorem wd_387 : (Cond.selects "MagnetPoems$Board" yX0_worthOfDoor yX0_worthOfDoor) ∈ WG := WG_t2 (List.mem_of_getElem? (i := 135) (by decide +kernel)) rfl
theorem wd_388 : (Cond.code yX0_worthOfDoor prog_2_method_23_code 4 (Option.some FieldType.int)) ∈ WG := WG_t2 (List.mem_of_getElem? (i := 136) (rfl)) rfl
theorem wd_389 : (Cond.methodLink "MagnetPoems$Board" 114 yX0_rhymesOfDoor) ∈ WG := WG_t2 (List.mem_of_getElem? (i := 137) (by decide +kernel)) rfl
theorem wd_390 : (Cond.instanceMethod yX0_rhymesOfDoor) ∈ WG := WG_t2 (List.mem_of_getElem? (i := 138) (by decide +kernel)) rfl
theorem wd_391 : (Cond.selects "MagnetPoems$Board" yX0_rhymesOfDoor yX0_rhymesOfDoor) ∈ WG := WG_t2 (List.mem_of_getElem? (i := 139) (by decide +kernel)) rfl
theorem wd_392 : (Cond.code yX0_rhymesOfDoor prog_2_method_22_code 6 (Option.some FieldType.int)) ∈ WG := WG_t2 (List.mem_of_getElem? (i := 140) (rfl)) rfl
theorem wd_393 : (Cond.methodLink "MagnetPoems$Board" 147 yX0_wordsOfDoor) ∈ WG := WG_t2 (List.mem_of_getElem? (i := 141) (by decide +kernel)) rfl
theorem wd_394 : (Cond.instanceMethod yX0_wordsOfDoor) ∈ WG := WG_t2 (List.mem_of_getElem? (i := 142) (by decide +kernel)) rfl
theorem wd_395 : (Cond.selects "MagnetPoems$Board" yX0_wordsOfDoor yX0_wordsOfDoor) ∈ WG := WG_t2 (List.mem_of_getElem? (i := 143) (by decide +kernel)) rfl
theorem wd_396 : (Cond.code yX0_wordsOfDoor prog_2_method_11_code 4 (Option.some FieldType.int)) ∈ WG := WG_t2 (List.mem_of_getElem? (i := 144) (rfl)) rfl
theorem wd_397 : (Cond.methodLink "MagnetPoemsLaw" 81 yX3_count) ∈ WG := WG_t2 (List.mem_of_getElem? (i := 145) (by decide +kernel)) rfl
theorem wd_398 : (Cond.instanceMethod yX3_count) ∈ WG := WG_t2 (List.mem_of_getElem? (i := 146) (by decide +kernel)) rfl
theorem wd_399 : (Cond.selects "MagnetPoems" yX3_count yX3_count) ∈ WG := WG_t2 (List.mem_of_getElem? (i := 147) (by decide +kernel)) rfl
theorem wd_400 : (Cond.code yX3_count prog_1_method_22_code 2 (Option.some FieldType.int)) ∈ WG := WG_t2 (List.mem_of_getElem? (i := 148) (rfl)) rfl
theorem wd_402 : (Cond.methodLink "MagnetPoems" 253 yX3_numberOf) ∈ WG := WG_t2 (List.mem_of_getElem? (i := 150) (by decide +kernel)) rfl
theorem wd_404 : (Cond.instanceMethod yX3_numberOf) ∈ WG := WG_t2 (List.mem_of_getElem? (i := 152) (by decide +kernel)) rfl
theorem wd_405 : (Cond.code yX3_numberOf prog_1_method_34_code 2 (Option.some FieldType.int)) ∈ WG := WG_t2 (List.mem_of_getElem? (i := 153) (rfl)) rfl
theorem wd_406 : (Cond.methodLink "MagnetPoems" 218 yX0_bagToldByWords) ∈ WG := WG_t2 (List.mem_of_getElem? (i := 154) (by decide +kernel)) rfl
theorem wd_407 : (Cond.instanceMethod yX0_bagToldByWords) ∈ WG := WG_t2 (List.mem_of_getElem? (i := 155) (by decide +kernel)) rfl
theorem wd_408 : (Cond.selects "MagnetPoems$Board" yX0_bagToldByWords yX0_bagToldByWords) ∈ WG := WG_t2 (List.mem_of_getElem? (i := 156) (by decide +kernel)) rfl
theorem wd_409 : (Cond.code yX0_bagToldByWords prog_2_method_9_code 3 (Option.some FieldType.int)) ∈ WG := WG_t2 (List.mem_of_getElem? (i := 157) (rfl)) rfl
theorem wd_410 : (Cond.methodLink "MagnetPoems" 295 yX0_bagToldByLines) ∈ WG := WG_t2 (List.mem_of_getElem? (i := 158) (by decide +kernel)) rfl
theorem wd_411 : (Cond.instanceMethod yX0_bagToldByLines) ∈ WG := WG_t2 (List.mem_of_getElem? (i := 159) (by decide +kernel)) rfl
theorem wd_412 : (Cond.selects "MagnetPoems$Board" yX0_bagToldByLines yX0_bagToldByLines) ∈ WG := WG_t2 (List.mem_of_getElem? (i := 160) (by decide +kernel)) rfl
theorem wd_413 : (Cond.code yX0_bagToldByLines prog_2_method_10_code 3 (Option.some FieldType.int)) ∈ WG := WG_t2 (List.mem_of_getElem? (i := 161) (rfl)) rfl
theorem wd_414 : (Cond.methodLink "MagnetPoems" 301 yX0_loans) ∈ WG := WG_t2 (List.mem_of_getElem? (i := 162) (by decide +kernel)) rfl
theorem wd_415 : (Cond.instanceMethod yX0_loans) ∈ WG := WG_t2 (List.mem_of_getElem? (i := 163) (by decide +kernel)) rfl
theorem wd_416 : (Cond.selects "MagnetPoems$Board" yX0_loans yX0_loans) ∈ WG := WG_t2 (List.mem_of_getElem? (i := 164) (by decide +kernel)) rfl
theorem wd_417 : (Cond.code yX0_loans prog_2_method_28_code 3 (Option.some FieldType.int)) ∈ WG := WG_t2 (List.mem_of_getElem? (i := 165) (rfl)) rfl
theorem wd_418 : (Cond.methodLink "MagnetPoems" 304 yX0_worthOfAll) ∈ WG := WG_t2 (List.mem_of_getElem? (i := 166) (by decide +kernel)) rfl
theorem wd_419 : (Cond.instanceMethod yX0_worthOfAll) ∈ WG := WG_t2 (List.mem_of_getElem? (i := 167) (by decide +kernel)) rfl
theorem wd_420 : (Cond.selects "MagnetPoems$Board" yX0_worthOfAll yX0_worthOfAll) ∈ WG := WG_t2 (List.mem_of_getElem? (i := 168) (by decide +kernel)) rfl
theorem wd_421 : (Cond.code yX0_worthOfAll prog_2_method_24_code 3 (Option.some FieldType.int)) ∈ WG := WG_t2 (List.mem_of_getElem? (i := 169) (rfl)) rfl
theorem wd_422 : (Cond.methodLink "MagnetPoemsLaw" 84 yX3_setting) ∈ WG := WG_t2 (List.mem_of_getElem? (i := 170) (by decide +kernel)) rfl
theorem wd_423 : (Cond.instanceMethod yX3_setting) ∈ WG := WG_t2 (List.mem_of_getElem? (i := 171) (by decide +kernel)) rfl
theorem wd_424 : (Cond.selects "MagnetPoems" yX3_setting yX3_setting) ∈ WG := WG_t2 (List.mem_of_getElem? (i := 172) (by decide +kernel)) rfl
theorem wd_425 : (Cond.code yX3_setting prog_1_method_23_code 2 (Option.some FieldType.int)) ∈ WG := WG_t2 (List.mem_of_getElem? (i := 173) (rfl)) rfl
theorem wd_426 : (Cond.methodLink "MagnetPoems" 165 yX3_isSetting) ∈ WG := WG_t2 (List.mem_of_getElem? (i := 174) (by decide +kernel)) rfl
theorem wd_427 : (Cond.static yX3_isSetting) ∈ WG := WG_t2 (List.mem_of_getElem? (i := 175) (by decide +kernel)) rfl
theorem wd_428 : (Cond.code yX3_isSetting prog_1_method_46_code 1 (Option.some FieldType.boolean)) ∈ WG := WG_t2 (List.mem_of_getElem? (i := 176) (rfl)) rfl
theorem wd_430 : (Cond.methodLink "MagnetPoems" 175 yX0_settingValue) ∈ WG := WG_t2 (List.mem_of_getElem? (i := 178) (by decide +kernel)) rfl
theorem wd_431 : (Cond.instanceMethod yX0_settingValue) ∈ WG := WG_t2 (List.mem_of_getElem? (i := 179) (by decide +kernel)) rfl
theorem wd_432 : (Cond.selects "MagnetPoems$Board" yX0_settingValue yX0_settingValue) ∈ WG := WG_t2 (List.mem_of_getElem? (i := 180) (by decide +kernel)) rfl
theorem wd_433 : (Cond.code yX0_settingValue prog_2_method_38_code 2 (Option.some FieldType.int)) ∈ WG := WG_t2 (List.mem_of_getElem? (i := 181) (rfl)) rfl
theorem wd_434 : (Cond.methodLink "MagnetPoemsLaw" 87 yX3_shownShare) ∈ WG := WG_t2 (List.mem_of_getElem? (i := 182) (by decide +kernel)) rfl
theorem wd_435 : (Cond.instanceMethod yX3_shownShare) ∈ WG := WG_t2 (List.mem_of_getElem? (i := 183) (by decide +kernel)) rfl
theorem wd_436 : (Cond.selects "MagnetPoems" yX3_shownShare yX3_shownShare) ∈ WG := WG_t2 (List.mem_of_getElem? (i := 184) (by decide +kernel)) rfl
theorem wd_437 : (Cond.code yX3_shownShare prog_1_method_28_code 1 (Option.some FieldType.double)) ∈ WG := WG_t2 (List.mem_of_getElem? (i := 185) (rfl)) rfl
theorem wd_438 : (Cond.methodLink "MagnetPoems" 265 yX3_share) ∈ WG := WG_t2 (List.mem_of_getElem? (i := 186) (by decide +kernel)) rfl
theorem wd_440 : (Cond.instanceMethod yX3_share) ∈ WG := WG_t2 (List.mem_of_getElem? (i := 188) (by decide +kernel)) rfl
theorem wd_441 : (Cond.code yX3_share prog_1_method_33_code 1 (Option.some FieldType.double)) ∈ WG := WG_t2 (List.mem_of_getElem? (i := 189) (rfl)) rfl
theorem wd_442 : (Cond.constantDouble "MagnetPoems" 293 4630826316843712512) ∈ WG := WG_t2 (List.mem_of_getElem? (i := 190) (by decide +kernel)) rfl
theorem wd_443 : (Cond.constantDouble "MagnetPoemsLaw" 91 4630826316843712512) ∈ WG := WG_t2 (List.mem_of_getElem? (i := 191) (by decide +kernel)) rfl
theorem wd_444 : (Cond.methodLink "MagnetPoemsLaw" 208 yL_would) ∈ WG := WG_t2 (List.mem_of_getElem? (i := 192) (by decide +kernel)) rfl
theorem wd_445 : (Cond.static yL_would) ∈ WG := WG_t2 (List.mem_of_getElem? (i := 193) (by decide +kernel)) rfl
theorem wd_446 : (Cond.code yL_would method_26_code 17 (Option.some FieldType.boolean)) ∈ WG := WG_t2 (List.mem_of_getElem? (i := 194) (rfl)) rfl
theorem wd_447 : (Cond.methodLink "MagnetPoemsLaw" 93 yL_reason) ∈ WG := WG_t2 (List.mem_of_getElem? (i := 195) (by decide +kernel)) rfl
theorem wd_448 : (Cond.static yL_reason) ∈ WG := WG_t2 (List.mem_of_getElem? (i := 196) (by decide +kernel)) rfl
theorem wd_449 : (Cond.code yL_reason method_12_code 9 (Option.some FieldType.int)) ∈ WG := WG_t2 (List.mem_of_getElem? (i := 197) (rfl)) rfl
theorem wd_450 : (Cond.methodLink "MagnetPoemsLaw" 108 yX3_whyNot) ∈ WG := WG_t2 (List.mem_of_getElem? (i := 198) (by decide +kernel)) rfl
theorem wd_451 : (Cond.instanceMethod yX3_whyNot) ∈ WG := WG_t2 (List.mem_of_getElem? (i := 199) (by decide +kernel)) rfl
theorem wd_452 : (Cond.selects "MagnetPoems" yX3_whyNot yX3_whyNot) ∈ WG := WG_t2 (List.mem_of_getElem? (i := 200) (by decide +kernel)) rfl
theorem wd_453 : (Cond.code yX3_whyNot prog_1_method_24_code 6 (Option.some FieldType.int)) ∈ WG := WG_t2 (List.mem_of_getElem? (i := 201) (rfl)) rfl
theorem wd_454 : (Cond.methodLink "MagnetPoems" 49 yX3_isPlaceToPut) ∈ WG := WG_t2 (List.mem_of_getElem? (i := 202) (by decide +kernel)) rfl
theorem wd_456 : (Cond.instanceMethod yX3_isPlaceToPut) ∈ WG := WG_t2 (List.mem_of_getElem? (i := 204) (by decide +kernel)) rfl
theorem wd_457 : (Cond.code yX3_isPlaceToPut prog_1_method_44_code 4 (Option.some FieldType.boolean)) ∈ WG := WG_t2 (List.mem_of_getElem? (i := 205) (rfl)) rfl
theorem wd_458 : (Cond.methodLink "MagnetPoems" 114 yX0_sizeOf) ∈ WG := WG_t2 (List.mem_of_getElem? (i := 206) (by decide +kernel)) rfl
theorem wd_459 : (Cond.instanceMethod yX0_sizeOf) ∈ WG := WG_t2 (List.mem_of_getElem? (i := 207) (by decide +kernel)) rfl
theorem wd_460 : (Cond.selects "MagnetPoems$Board" yX0_sizeOf yX0_sizeOf) ∈ WG := WG_t2 (List.mem_of_getElem? (i := 208) (by decide +kernel)) rfl
theorem wd_461 : (Cond.code yX0_sizeOf prog_2_method_5_code 2 (Option.some FieldType.int)) ∈ WG := WG_t2 (List.mem_of_getElem? (i := 209) (rfl)) rfl
theorem wd_463 : (Cond.methodLink "MagnetPoems" 95 yX0_homeOf) ∈ WG := WG_t2 (List.mem_of_getElem? (i := 211) (by decide +kernel)) rfl
theorem wd_464 : (Cond.instanceMethod yX0_homeOf) ∈ WG := WG_t2 (List.mem_of_getElem? (i := 212) (by decide +kernel)) rfl
theorem wd_465 : (Cond.selects "MagnetPoems$Board" yX0_homeOf yX0_homeOf) ∈ WG := WG_t2 (List.mem_of_getElem? (i := 213) (by decide +kernel)) rfl
theorem wd_466 : (Cond.code yX0_homeOf prog_2_method_3_code 2 (Option.some FieldType.int)) ∈ WG := WG_t2 (List.mem_of_getElem? (i := 214) (rfl)) rfl
theorem wd_467 : (Cond.methodLink "MagnetPoems" 76 yX0_refusal) ∈ WG := WG_t2 (List.mem_of_getElem? (i := 215) (by decide +kernel)) rfl
theorem wd_468 : (Cond.instanceMethod yX0_refusal) ∈ WG := WG_t2 (List.mem_of_getElem? (i := 216) (by decide +kernel)) rfl
theorem wd_469 : (Cond.selects "MagnetPoems$Board" yX0_refusal yX0_refusal) ∈ WG := WG_t2 (List.mem_of_getElem? (i := 217) (by decide +kernel)) rfl
theorem wd_470 : (Cond.code yX0_refusal prog_2_method_15_code 6 (Option.some FieldType.int)) ∈ WG := WG_t2 (List.mem_of_getElem? (i := 218) (rfl)) rfl
theorem wd_471 : (Cond.methodLink "MagnetPoems$Board" 97 yX0_wouldClash) ∈ WG := WG_t2 (List.mem_of_getElem? (i := 219) (by decide +kernel)) rfl
theorem wd_473 : (Cond.instanceMethod yX0_wouldClash) ∈ WG := WG_t2 (List.mem_of_getElem? (i := 221) (by decide +kernel)) rfl
theorem wd_474 : (Cond.code yX0_wouldClash prog_2_method_16_code 8 (Option.some FieldType.boolean)) ∈ WG := WG_t2 (List.mem_of_getElem? (i := 222) (rfl)) rfl
theorem wd_475 : (Cond.methodLink "MagnetPoemsLaw" 112 yX3_prey) ∈ WG := WG_t2 (List.mem_of_getElem? (i := 223) (by decide +kernel)) rfl
theorem wd_476 : (Cond.instanceMethod yX3_prey) ∈ WG := WG_t2 (List.mem_of_getElem? (i := 224) (by decide +kernel)) rfl
theorem wd_477 : (Cond.selects "MagnetPoems" yX3_prey yX3_prey) ∈ WG := WG_t2 (List.mem_of_getElem? (i := 225) (by decide +kernel)) rfl
theorem wd_478 : (Cond.code yX3_prey prog_1_method_26_code 1 (Option.some FieldType.int)) ∈ WG := WG_t2 (List.mem_of_getElem? (i := 226) (rfl)) rfl
theorem wd_479 : (Cond.methodLink "MagnetPoems" 259 yX0_nextPrey) ∈ WG := WG_t2 (List.mem_of_getElem? (i := 227) (by decide +kernel)) rfl
theorem wd_480 : (Cond.instanceMethod yX0_nextPrey) ∈ WG := WG_t2 (List.mem_of_getElem? (i := 228) (by decide +kernel)) rfl
theorem wd_481 : (Cond.selects "MagnetPoems$Board" yX0_nextPrey yX0_nextPrey) ∈ WG := WG_t2 (List.mem_of_getElem? (i := 229) (by decide +kernel)) rfl
theorem wd_482 : (Cond.code yX0_nextPrey prog_2_method_33_code 2 (Option.some FieldType.int)) ∈ WG := WG_t2 (List.mem_of_getElem? (i := 230) (rfl)) rfl
theorem wd_483 : (Cond.methodLink "MagnetPoems$Board" 133 yX0_doorOfThief) ∈ WG := WG_t2 (List.mem_of_getElem? (i := 231) (by decide +kernel)) rfl
theorem wd_485 : (Cond.instanceMethod yX0_doorOfThief) ∈ WG := WG_t2 (List.mem_of_getElem? (i := 233) (by decide +kernel)) rfl
theorem wd_486 : (Cond.code yX0_doorOfThief prog_2_method_34_code 5 (Option.some FieldType.int)) ∈ WG := WG_t2 (List.mem_of_getElem? (i := 234) (rfl)) rfl
theorem wd_487 : (Cond.methodLink "MagnetPoems$Board" 140 yX0_preyOn) ∈ WG := WG_t2 (List.mem_of_getElem? (i := 235) (by decide +kernel)) rfl
theorem wd_489 : (Cond.instanceMethod yX0_preyOn) ∈ WG := WG_t2 (List.mem_of_getElem? (i := 237) (by decide +kernel)) rfl
theorem wd_490 : (Cond.code yX0_preyOn prog_2_method_35_code 8 (Option.some FieldType.int)) ∈ WG := WG_t2 (List.mem_of_getElem? (i := 238) (rfl)) rfl
theorem wd_491 : (Cond.methodLink "MagnetPoemsLaw" 49 yL_prey) ∈ WG := WG_t2 (List.mem_of_getElem? (i := 239) (by decide +kernel)) rfl
theorem wd_492 : (Cond.static yL_prey) ∈ WG := WG_t3 (List.mem_of_getElem? (i := 0) (by decide +kernel)) rfl
theorem wd_493 : (Cond.code yL_prey method_18_code 9 (Option.some FieldType.int)) ∈ WG := WG_t3 (List.mem_of_getElem? (i := 1) (rfl)) rfl
theorem wd_494 : (Cond.methodLink "MagnetPoemsLaw" 115 yX3_bestWord) ∈ WG := WG_t3 (List.mem_of_getElem? (i := 2) (by decide +kernel)) rfl
theorem wd_495 : (Cond.instanceMethod yX3_bestWord) ∈ WG := WG_t3 (List.mem_of_getElem? (i := 3) (by decide +kernel)) rfl
theorem wd_496 : (Cond.selects "MagnetPoems" yX3_bestWord yX3_bestWord) ∈ WG := WG_t3 (List.mem_of_getElem? (i := 4) (by decide +kernel)) rfl
theorem wd_497 : (Cond.code yX3_bestWord prog_1_method_25_code 3 (Option.some FieldType.int)) ∈ WG := WG_t3 (List.mem_of_getElem? (i := 5) (rfl)) rfl
theorem wd_498 : (Cond.methodLink "MagnetPoems" 256 yX0_bestWordFor) ∈ WG := WG_t3 (List.mem_of_getElem? (i := 6) (by decide +kernel)) rfl
theorem wd_499 : (Cond.instanceMethod yX0_bestWordFor) ∈ WG := WG_t3 (List.mem_of_getElem? (i := 7) (by decide +kernel)) rfl
theorem wd_500 : (Cond.selects "MagnetPoems$Board" yX0_bestWordFor yX0_bestWordFor) ∈ WG := WG_t3 (List.mem_of_getElem? (i := 8) (by decide +kernel)) rfl
theorem wd_501 : (Cond.code yX0_bestWordFor prog_2_method_25_code 7 (Option.some FieldType.int)) ∈ WG := WG_t3 (List.mem_of_getElem? (i := 9) (rfl)) rfl
theorem wd_502 : (Cond.methodLink "MagnetPoems$Board" 123 yX0_refusal) ∈ WG := WG_t3 (List.mem_of_getElem? (i := 10) (by decide +kernel)) rfl
theorem wd_503 : (Cond.methodLink "MagnetPoemsLaw" 118 yL_bestWord) ∈ WG := WG_t3 (List.mem_of_getElem? (i := 11) (by decide +kernel)) rfl
theorem wd_504 : (Cond.static yL_bestWord) ∈ WG := WG_t3 (List.mem_of_getElem? (i := 12) (by decide +kernel)) rfl
theorem wd_505 : (Cond.code yL_bestWord method_25_code 11 (Option.some FieldType.int)) ∈ WG := WG_t3 (List.mem_of_getElem? (i := 13) (rfl)) rfl
theorem wd_506 : (Cond.methodLink "MagnetPoemsLaw" 97 yL_copy) ∈ WG := WG_t3 (List.mem_of_getElem? (i := 14) (by decide +kernel)) rfl
theorem wd_507 : (Cond.static yL_copy) ∈ WG := WG_t3 (List.mem_of_getElem? (i := 15) (by decide +kernel)) rfl
theorem wd_508 : (Cond.code yL_copy method_20_code 3 (Option.none : Option FieldType)) ∈ WG := WG_t3 (List.mem_of_getElem? (i := 16) (rfl)) rfl
theorem wd_509 : (Cond.methodLink "MagnetPoemsLaw" 101 yL_comes) ∈ WG := WG_t3 (List.mem_of_getElem? (i := 17) (by decide +kernel)) rfl
theorem wd_510 : (Cond.static yL_comes) ∈ WG := WG_t3 (List.mem_of_getElem? (i := 18) (by decide +kernel)) rfl
theorem wd_511 : (Cond.code yL_comes method_11_code 7 (Option.none : Option FieldType)) ∈ WG := WG_t3 (List.mem_of_getElem? (i := 19) (rfl)) rfl
theorem wd_512 : (Cond.methodLink "MagnetPoemsLaw" 26 yL_endLoans) ∈ WG := WG_t3 (List.mem_of_getElem? (i := 20) (by decide +kernel)) rfl
theorem wd_513 : (Cond.static yL_endLoans) ∈ WG := WG_t3 (List.mem_of_getElem? (i := 21) (by decide +kernel)) rfl
theorem wd_514 : (Cond.code yL_endLoans method_9_code 6 (Option.none : Option FieldType)) ∈ WG := WG_t3 (List.mem_of_getElem? (i := 22) (rfl)) rfl
theorem wd_515 : (Cond.methodLink "MagnetPoemsLaw" 121 yL_night) ∈ WG := WG_t3 (List.mem_of_getElem? (i := 23) (by decide +kernel)) rfl
theorem wd_516 : (Cond.static yL_night) ∈ WG := WG_t3 (List.mem_of_getElem? (i := 24) (by decide +kernel)) rfl
theorem wd_517 : (Cond.code yL_night method_19_code 6 (Option.some FieldType.int)) ∈ WG := WG_t3 (List.mem_of_getElem? (i := 25) (rfl)) rfl
theorem wd_518 : (Cond.methodLink "MagnetPoemsLaw" 53 yL_leaves) ∈ WG := WG_t3 (List.mem_of_getElem? (i := 26) (by decide +kernel)) rfl
theorem wd_519 : (Cond.static yL_leaves) ∈ WG := WG_t3 (List.mem_of_getElem? (i := 27) (by decide +kernel)) rfl
theorem wd_520 : (Cond.code yL_leaves method_10_code 6 (Option.none : Option FieldType)) ∈ WG := WG_t3 (List.mem_of_getElem? (i := 28) (rfl)) rfl
theorem wd_521 : (Cond.methodLink "MagnetPoemsLaw" 125 yX3_ifSlept) ∈ WG := WG_t3 (List.mem_of_getElem? (i := 29) (by decide +kernel)) rfl
theorem wd_522 : (Cond.instanceMethod yX3_ifSlept) ∈ WG := WG_t3 (List.mem_of_getElem? (i := 30) (by decide +kernel)) rfl
theorem wd_523 : (Cond.selects "MagnetPoems" yX3_ifSlept yX3_ifSlept) ∈ WG := WG_t3 (List.mem_of_getElem? (i := 31) (by decide +kernel)) rfl
theorem wd_524 : (Cond.code yX3_ifSlept prog_1_method_27_code 3 (Option.some FieldType.int)) ∈ WG := WG_t3 (List.mem_of_getElem? (i := 32) (rfl)) rfl
theorem wd_525 : (Cond.methodLink "MagnetPoems" 152 yX3_isNights) ∈ WG := WG_t3 (List.mem_of_getElem? (i := 33) (by decide +kernel)) rfl
theorem wd_526 : (Cond.static yX3_isNights) ∈ WG := WG_t3 (List.mem_of_getElem? (i := 34) (by decide +kernel)) rfl
theorem wd_527 : (Cond.code yX3_isNights prog_1_method_45_code 1 (Option.some FieldType.boolean)) ∈ WG := WG_t3 (List.mem_of_getElem? (i := 35) (rfl)) rfl
theorem wd_529 : (Cond.methodLink "MagnetPoems" 215 yX0_copyFrom) ∈ WG := WG_t3 (List.mem_of_getElem? (i := 37) (by decide +kernel)) rfl
theorem wd_530 : (Cond.instanceMethod yX0_copyFrom) ∈ WG := WG_t3 (List.mem_of_getElem? (i := 38) (by decide +kernel)) rfl
theorem wd_531 : (Cond.selects "MagnetPoems$Board" yX0_copyFrom yX0_copyFrom) ∈ WG := WG_t3 (List.mem_of_getElem? (i := 39) (by decide +kernel)) rfl
theorem wd_532 : (Cond.code yX0_copyFrom prog_2_method_2_code 2 (Option.none : Option FieldType)) ∈ WG := WG_t3 (List.mem_of_getElem? (i := 40) (rfl)) rfl
theorem wd_534 : (Cond.static yX3_copyRow) ∈ WG := WG_t3 (List.mem_of_getElem? (i := 42) (by decide +kernel)) rfl
theorem wd_535 : (Cond.code yX3_copyRow prog_1_method_57_code 3 (Option.none : Option FieldType)) ∈ WG := WG_t3 (List.mem_of_getElem? (i := 43) (rfl)) rfl
theorem wd_536 : (Cond.methodLink "MagnetPoems" 162 yX0_passNights) ∈ WG := WG_t3 (List.mem_of_getElem? (i := 44) (by decide +kernel)) rfl
theorem wd_537 : (Cond.instanceMethod yX0_passNights) ∈ WG := WG_t3 (List.mem_of_getElem? (i := 45) (by decide +kernel)) rfl
theorem wd_538 : (Cond.selects "MagnetPoems$Board" yX0_passNights yX0_passNights) ∈ WG := WG_t3 (List.mem_of_getElem? (i := 46) (by decide +kernel)) rfl
theorem wd_539 : (Cond.code yX0_passNights prog_2_method_32_code 5 (Option.some FieldType.int)) ∈ WG := WG_t3 (List.mem_of_getElem? (i := 47) (rfl)) rfl
theorem wd_540 : (Cond.methodLink "MagnetPoems$Board" 137 yX0_watchOneNightFewer) ∈ WG := WG_t3 (List.mem_of_getElem? (i := 48) (by decide +kernel)) rfl
theorem wd_542 : (Cond.instanceMethod yX0_watchOneNightFewer) ∈ WG := WG_t3 (List.mem_of_getElem? (i := 50) (by decide +kernel)) rfl
theorem wd_543 : (Cond.code yX0_watchOneNightFewer prog_2_method_36_code 2 (Option.none : Option FieldType)) ∈ WG := WG_t3 (List.mem_of_getElem? (i := 51) (rfl)) rfl
theorem wd_544 : (Cond.methodLink "MagnetPoems$Board" 143 yX0_steal) ∈ WG := WG_t3 (List.mem_of_getElem? (i := 52) (by decide +kernel)) rfl
theorem wd_546 : (Cond.instanceMethod yX0_steal) ∈ WG := WG_t3 (List.mem_of_getElem? (i := 54) (by decide +kernel)) rfl
theorem wd_547 : (Cond.code yX0_steal prog_2_method_37_code 3 (Option.none : Option FieldType)) ∈ WG := WG_t3 (List.mem_of_getElem? (i := 55) (rfl)) rfl
theorem wd_548 : (Cond.methodLink "MagnetPoems$Board" 87 yX0_removeWord) ∈ WG := WG_t3 (List.mem_of_getElem? (i := 56) (by decide +kernel)) rfl
theorem wd_549 : (Cond.instanceMethod yX0_removeWord) ∈ WG := WG_t3 (List.mem_of_getElem? (i := 57) (by decide +kernel)) rfl
theorem wd_550 : (Cond.selects "MagnetPoems$Board" yX0_removeWord yX0_removeWord) ∈ WG := WG_t3 (List.mem_of_getElem? (i := 58) (by decide +kernel)) rfl
theorem wd_551 : (Cond.code yX0_removeWord prog_2_method_13_code 6 (Option.none : Option FieldType)) ∈ WG := WG_t3 (List.mem_of_getElem? (i := 59) (rfl)) rfl
theorem wd_552 : (Cond.methodLink "MagnetPoems$Board" 75 yX0_setWordAt) ∈ WG := WG_t3 (List.mem_of_getElem? (i := 60) (by decide +kernel)) rfl
theorem wd_553 : (Cond.instanceMethod yX0_setWordAt) ∈ WG := WG_t3 (List.mem_of_getElem? (i := 61) (by decide +kernel)) rfl
theorem wd_554 : (Cond.selects "MagnetPoems$Board" yX0_setWordAt yX0_setWordAt) ∈ WG := WG_t3 (List.mem_of_getElem? (i := 62) (by decide +kernel)) rfl
theorem wd_555 : (Cond.code yX0_setWordAt prog_2_method_7_code 4 (Option.none : Option FieldType)) ∈ WG := WG_t3 (List.mem_of_getElem? (i := 63) (rfl)) rfl
theorem wd_556 : (Cond.methodLink "MagnetPoems$Board" 79 yX0_endLoansOf) ∈ WG := WG_t3 (List.mem_of_getElem? (i := 64) (by decide +kernel)) rfl
theorem wd_558 : (Cond.instanceMethod yX0_endLoansOf) ∈ WG := WG_t3 (List.mem_of_getElem? (i := 66) (by decide +kernel)) rfl
theorem wd_559 : (Cond.code yX0_endLoansOf prog_2_method_31_code 3 (Option.none : Option FieldType)) ∈ WG := WG_t3 (List.mem_of_getElem? (i := 67) (rfl)) rfl
theorem wd_560 : (Cond.methodLink "MagnetPoems$Board" 130 yX0_endLoan) ∈ WG := WG_t3 (List.mem_of_getElem? (i := 68) (by decide +kernel)) rfl
theorem wd_561 : (Cond.instanceMethod yX0_endLoan) ∈ WG := WG_t3 (List.mem_of_getElem? (i := 69) (by decide +kernel)) rfl
theorem wd_562 : (Cond.selects "MagnetPoems$Board" yX0_endLoan yX0_endLoan) ∈ WG := WG_t3 (List.mem_of_getElem? (i := 70) (by decide +kernel)) rfl
theorem wd_563 : (Cond.code yX0_endLoan prog_2_method_30_code 3 (Option.none : Option FieldType)) ∈ WG := WG_t3 (List.mem_of_getElem? (i := 71) (rfl)) rfl
theorem wd_564 : (Cond.methodLink "MagnetPoems" 262 yX0_worthOfDoor) ∈ WG := WG_t3 (List.mem_of_getElem? (i := 72) (by decide +kernel)) rfl
theorem wd_565 : (Cond.methodLink "MagnetPoemsLaw" 204 yL_acts) ∈ WG := WG_t3 (List.mem_of_getElem? (i := 73) (by decide +kernel)) rfl
theorem wd_566 : (Cond.static yL_acts) ∈ WG := WG_t3 (List.mem_of_getElem? (i := 74) (by decide +kernel)) rfl
theorem wd_567 : (Cond.code yL_acts method_38_code 8 (Option.some FieldType.boolean)) ∈ WG := WG_t3 (List.mem_of_getElem? (i := 75) (rfl)) rfl
theorem wd_568 : (Cond.methodLink "MagnetPoemsLaw" 164 yL_puts) ∈ WG := WG_t3 (List.mem_of_getElem? (i := 76) (by decide +kernel)) rfl
theorem wd_569 : (Cond.static yL_puts) ∈ WG := WG_t3 (List.mem_of_getElem? (i := 77) (by decide +kernel)) rfl
theorem wd_570 : (Cond.code yL_puts method_28_code 11 (Option.some FieldType.boolean)) ∈ WG := WG_t3 (List.mem_of_getElem? (i := 78) (rfl)) rfl
theorem wd_571 : (Cond.methodLink "MagnetPoemsLaw" 128 yL_some) ∈ WG := WG_t3 (List.mem_of_getElem? (i := 79) (by decide +kernel)) rfl
theorem wd_572 : (Cond.static yL_some) ∈ WG := WG_t3 (List.mem_of_getElem? (i := 80) (by decide +kernel)) rfl
theorem wd_573 : (Cond.code yL_some method_27_code 6 (Option.some FieldType.int)) ∈ WG := WG_t3 (List.mem_of_getElem? (i := 81) (rfl)) rfl
theorem wd_574 : (Cond.methodLink "MagnetPoemsLaw" 132 yX3_put) ∈ WG := WG_t3 (List.mem_of_getElem? (i := 82) (by decide +kernel)) rfl
theorem wd_575 : (Cond.instanceMethod yX3_put) ∈ WG := WG_t3 (List.mem_of_getElem? (i := 83) (by decide +kernel)) rfl
theorem wd_576 : (Cond.selects "MagnetPoems" yX3_put yX3_put) ∈ WG := WG_t3 (List.mem_of_getElem? (i := 84) (by decide +kernel)) rfl
theorem wd_577 : (Cond.code yX3_put prog_1_method_2_code 7 (Option.some FieldType.int)) ∈ WG := WG_t3 (List.mem_of_getElem? (i := 85) (rfl)) rfl
theorem wd_578 : (Cond.methodLink "MagnetPoems" 60 yX0_isInBag) ∈ WG := WG_t3 (List.mem_of_getElem? (i := 86) (by decide +kernel)) rfl
theorem wd_579 : (Cond.instanceMethod yX0_isInBag) ∈ WG := WG_t3 (List.mem_of_getElem? (i := 87) (by decide +kernel)) rfl
theorem wd_580 : (Cond.selects "MagnetPoems$Board" yX0_isInBag yX0_isInBag) ∈ WG := WG_t3 (List.mem_of_getElem? (i := 88) (by decide +kernel)) rfl
theorem wd_581 : (Cond.code yX0_isInBag prog_2_method_4_code 2 (Option.some FieldType.boolean)) ∈ WG := WG_t3 (List.mem_of_getElem? (i := 89) (rfl)) rfl
theorem wd_582 : (Cond.classLink "MagnetPoems" 63 "java/lang/IllegalStateException") ∈ WG := WG_t3 (List.mem_of_getElem? (i := 90) (by decide +kernel)) rfl
theorem wd_583 : (Cond.instantiable "java/lang/IllegalStateException" 6) ∈ WG := WG_t3 (List.mem_of_getElem? (i := 91) (by decide +kernel)) rfl
theorem wd_585 : (Cond.selects "java/lang/IllegalStateException" ⟨"java/lang/Throwable", "fillInStackTrace", "(I)Ljava/lang/Throwable;"⟩ ⟨"java/lang/Throwable", "fillInStackTrace", "(I)Ljava/lang/Throwable;"⟩) ∈ WG := WG_t3 (List.mem_of_getElem? (i := 93) (by decide +kernel)) rfl
theorem wd_586 : (Cond.lays "java/lang/IllegalStateException" "java/lang/Throwable" "cause" "Ljava/lang/Throwable;") ∈ WG := WG_t3 (List.mem_of_getElem? (i := 94) (by decide +kernel)) rfl
theorem wd_587 : (Cond.lays "java/lang/IllegalStateException" "java/lang/Throwable" "stackTrace" "[Ljava/lang/StackTraceElement;") ∈ WG := WG_t3 (List.mem_of_getElem? (i := 95) (by decide +kernel)) rfl
theorem wd_588 : (Cond.lays "java/lang/IllegalStateException" "java/lang/Throwable" "suppressedExceptions" "Ljava/util/List;") ∈ WG := WG_t3 (List.mem_of_getElem? (i := 96) (by decide +kernel)) rfl
theorem wd_589 : (Cond.lays "java/lang/IllegalStateException" "java/lang/Throwable" "detailMessage" "Ljava/lang/String;") ∈ WG := WG_t3 (List.mem_of_getElem? (i := 97) (by decide +kernel)) rfl
theorem wd_590 : (Cond.lays "java/lang/IllegalStateException" "java/lang/Throwable" "backtrace" "Ljava/lang/Object;") ∈ WG := WG_t3 (List.mem_of_getElem? (i := 98) (by decide +kernel)) rfl
theorem wd_592 : (Cond.methodLink "MagnetPoems" 67 ⟨"java/lang/IllegalStateException", "<init>", "(Ljava/lang/String;)V"⟩) ∈ WG := WG_t3 (List.mem_of_getElem? (i := 100) (by decide +kernel)) rfl
theorem wd_593 : (Cond.instanceMethod ⟨"java/lang/IllegalStateException", "<init>", "(Ljava/lang/String;)V"⟩) ∈ WG := WG_t3 (List.mem_of_getElem? (i := 101) (by decide +kernel)) rfl
theorem wd_594 : (Cond.code ⟨"java/lang/IllegalStateException", "<init>", "(Ljava/lang/String;)V"⟩ prog_9_method_2_code 2 (Option.none : Option FieldType)) ∈ WG := WG_t3 (List.mem_of_getElem? (i := 102) (rfl)) rfl
theorem wd_595 : (Cond.methodLink "java/lang/IllegalStateException" 7 ⟨"java/lang/RuntimeException", "<init>", "(Ljava/lang/String;)V"⟩) ∈ WG := WG_t3 (List.mem_of_getElem? (i := 103) (by decide +kernel)) rfl
theorem wd_596 : (Cond.lays "java/lang/IllegalStateException" "java/lang/Throwable" "depth" "I") ∈ WG := WG_t3 (List.mem_of_getElem? (i := 104) (by decide +kernel)) rfl
theorem wd_597 : (Cond.superclass "java/lang/IllegalStateException" "java/lang/RuntimeException") ∈ WG := WG_t3 (List.mem_of_getElem? (i := 105) (by decide +kernel)) rfl
theorem wd_598 : (Cond.methodLink "MagnetPoems" 68 yX1_save) ∈ WG := WG_t3 (List.mem_of_getElem? (i := 106) (by decide +kernel)) rfl
theorem wd_599 : (Cond.instanceMethod yX1_save) ∈ WG := WG_t3 (List.mem_of_getElem? (i := 107) (by decide +kernel)) rfl
theorem wd_600 : (Cond.selects "MagnetPoems$History" yX1_save yX1_save) ∈ WG := WG_t3 (List.mem_of_getElem? (i := 108) (by decide +kernel)) rfl
theorem wd_601 : (Cond.code yX1_save prog_3_method_2_code 3 (Option.none : Option FieldType)) ∈ WG := WG_t3 (List.mem_of_getElem? (i := 109) (rfl)) rfl
theorem wd_602 : (Cond.methodLink "MagnetPoems$History" 25 yX1_stateAt) ∈ WG := WG_t3 (List.mem_of_getElem? (i := 110) (by decide +kernel)) rfl
theorem wd_604 : (Cond.instanceMethod yX1_stateAt) ∈ WG := WG_t3 (List.mem_of_getElem? (i := 112) (by decide +kernel)) rfl
theorem wd_605 : (Cond.code yX1_stateAt prog_3_method_4_code 3 (Option.some (FieldType.object "MagnetPoems$Board"))) ∈ WG := WG_t3 (List.mem_of_getElem? (i := 113) (rfl)) rfl
theorem wd_606 : (Cond.methodLink "MagnetPoems$History" 29 yX0_copyFrom) ∈ WG := WG_t3 (List.mem_of_getElem? (i := 114) (by decide +kernel)) rfl
theorem wd_607 : (Cond.methodLink "MagnetPoems" 84 yX0_insertWord) ∈ WG := WG_t3 (List.mem_of_getElem? (i := 115) (by decide +kernel)) rfl
theorem wd_608 : (Cond.instanceMethod yX0_insertWord) ∈ WG := WG_t3 (List.mem_of_getElem? (i := 116) (by decide +kernel)) rfl
theorem wd_609 : (Cond.selects "MagnetPoems$Board" yX0_insertWord yX0_insertWord) ∈ WG := WG_t3 (List.mem_of_getElem? (i := 117) (by decide +kernel)) rfl
theorem wd_610 : (Cond.code yX0_insertWord prog_2_method_12_code 6 (Option.none : Option FieldType)) ∈ WG := WG_t3 (List.mem_of_getElem? (i := 118) (rfl)) rfl
theorem wd_611 : (Cond.methodLink "MagnetPoemsLaw" 168 yL_takesOff) ∈ WG := WG_t3 (List.mem_of_getElem? (i := 119) (by decide +kernel)) rfl
theorem wd_612 : (Cond.static yL_takesOff) ∈ WG := WG_t3 (List.mem_of_getElem? (i := 120) (by decide +kernel)) rfl
theorem wd_613 : (Cond.code yL_takesOff method_30_code 6 (Option.some FieldType.boolean)) ∈ WG := WG_t3 (List.mem_of_getElem? (i := 121) (rfl)) rfl
theorem wd_614 : (Cond.methodLink "MagnetPoemsLaw" 138 yX3_takeOff) ∈ WG := WG_t3 (List.mem_of_getElem? (i := 122) (by decide +kernel)) rfl
theorem wd_615 : (Cond.instanceMethod yX3_takeOff) ∈ WG := WG_t3 (List.mem_of_getElem? (i := 123) (by decide +kernel)) rfl
theorem wd_616 : (Cond.selects "MagnetPoems" yX3_takeOff yX3_takeOff) ∈ WG := WG_t3 (List.mem_of_getElem? (i := 124) (by decide +kernel)) rfl
theorem wd_617 : (Cond.code yX3_takeOff prog_1_method_3_code 3 (Option.some FieldType.int)) ∈ WG := WG_t3 (List.mem_of_getElem? (i := 125) (rfl)) rfl
theorem wd_619 : (Cond.methodLink "MagnetPoems" 99 yX0_removeWord) ∈ WG := WG_t3 (List.mem_of_getElem? (i := 127) (by decide +kernel)) rfl
theorem wd_620 : (Cond.methodLink "MagnetPoems" 103 yX3_lineCode) ∈ WG := WG_t3 (List.mem_of_getElem? (i := 128) (by decide +kernel)) rfl
theorem wd_621 : (Cond.methodLink "MagnetPoemsLaw" 171 yL_moves) ∈ WG := WG_t3 (List.mem_of_getElem? (i := 129) (by decide +kernel)) rfl
theorem wd_622 : (Cond.static yL_moves) ∈ WG := WG_t3 (List.mem_of_getElem? (i := 130) (by decide +kernel)) rfl
theorem wd_623 : (Cond.code yL_moves method_29_code 8 (Option.some FieldType.boolean)) ∈ WG := WG_t3 (List.mem_of_getElem? (i := 131) (rfl)) rfl
theorem wd_624 : (Cond.methodLink "MagnetPoemsLaw" 135 yX3_move) ∈ WG := WG_t3 (List.mem_of_getElem? (i := 132) (by decide +kernel)) rfl
theorem wd_625 : (Cond.instanceMethod yX3_move) ∈ WG := WG_t3 (List.mem_of_getElem? (i := 133) (by decide +kernel)) rfl
theorem wd_626 : (Cond.selects "MagnetPoems" yX3_move yX3_move) ∈ WG := WG_t3 (List.mem_of_getElem? (i := 134) (by decide +kernel)) rfl
theorem wd_627 : (Cond.code yX3_move prog_1_method_4_code 7 (Option.some FieldType.int)) ∈ WG := WG_t3 (List.mem_of_getElem? (i := 135) (rfl)) rfl
theorem wd_630 : (Cond.methodLink "MagnetPoemsLaw" 175 yL_clears) ∈ WG := WG_t3 (List.mem_of_getElem? (i := 138) (by decide +kernel)) rfl
theorem wd_631 : (Cond.static yL_clears) ∈ WG := WG_t3 (List.mem_of_getElem? (i := 139) (by decide +kernel)) rfl
theorem wd_632 : (Cond.code yL_clears method_31_code 6 (Option.some FieldType.boolean)) ∈ WG := WG_t3 (List.mem_of_getElem? (i := 140) (rfl)) rfl
theorem wd_633 : (Cond.methodLink "MagnetPoemsLaw" 141 yX3_clearDoor) ∈ WG := WG_t3 (List.mem_of_getElem? (i := 141) (by decide +kernel)) rfl
theorem wd_634 : (Cond.instanceMethod yX3_clearDoor) ∈ WG := WG_t3 (List.mem_of_getElem? (i := 142) (by decide +kernel)) rfl
theorem wd_635 : (Cond.selects "MagnetPoems" yX3_clearDoor yX3_clearDoor) ∈ WG := WG_t3 (List.mem_of_getElem? (i := 143) (by decide +kernel)) rfl
theorem wd_636 : (Cond.code yX3_clearDoor prog_1_method_5_code 2 (Option.some FieldType.int)) ∈ WG := WG_t3 (List.mem_of_getElem? (i := 144) (rfl)) rfl
theorem wd_637 : (Cond.methodLink "MagnetPoems" 122 yX0_emptyDoor) ∈ WG := WG_t3 (List.mem_of_getElem? (i := 145) (by decide +kernel)) rfl
theorem wd_638 : (Cond.instanceMethod yX0_emptyDoor) ∈ WG := WG_t3 (List.mem_of_getElem? (i := 146) (by decide +kernel)) rfl
theorem wd_639 : (Cond.selects "MagnetPoems$Board" yX0_emptyDoor yX0_emptyDoor) ∈ WG := WG_t3 (List.mem_of_getElem? (i := 147) (by decide +kernel)) rfl
theorem wd_640 : (Cond.code yX0_emptyDoor prog_2_method_14_code 4 (Option.some FieldType.int)) ∈ WG := WG_t3 (List.mem_of_getElem? (i := 148) (rfl)) rfl
theorem wd_641 : (Cond.methodLink "MagnetPoemsLaw" 178 yL_lends) ∈ WG := WG_t3 (List.mem_of_getElem? (i := 149) (by decide +kernel)) rfl
theorem wd_642 : (Cond.static yL_lends) ∈ WG := WG_t3 (List.mem_of_getElem? (i := 150) (by decide +kernel)) rfl
theorem wd_643 : (Cond.code yL_lends method_34_code 6 (Option.some FieldType.boolean)) ∈ WG := WG_t3 (List.mem_of_getElem? (i := 151) (rfl)) rfl
theorem wd_644 : (Cond.methodLink "MagnetPoemsLaw" 148 yL_freeLine) ∈ WG := WG_t3 (List.mem_of_getElem? (i := 152) (by decide +kernel)) rfl
theorem wd_645 : (Cond.static yL_freeLine) ∈ WG := WG_t3 (List.mem_of_getElem? (i := 153) (by decide +kernel)) rfl
theorem wd_646 : (Cond.code yL_freeLine method_33_code 8 (Option.some FieldType.int)) ∈ WG := WG_t3 (List.mem_of_getElem? (i := 154) (rfl)) rfl
theorem wd_647 : (Cond.methodLink "MagnetPoemsLaw" 144 yL_isFree) ∈ WG := WG_t3 (List.mem_of_getElem? (i := 155) (by decide +kernel)) rfl
theorem wd_648 : (Cond.static yL_isFree) ∈ WG := WG_t3 (List.mem_of_getElem? (i := 156) (by decide +kernel)) rfl
theorem wd_649 : (Cond.code yL_isFree method_32_code 5 (Option.some FieldType.boolean)) ∈ WG := WG_t3 (List.mem_of_getElem? (i := 157) (rfl)) rfl
theorem wd_650 : (Cond.methodLink "MagnetPoemsLaw" 152 yX3_borrow) ∈ WG := WG_t3 (List.mem_of_getElem? (i := 158) (by decide +kernel)) rfl
theorem wd_651 : (Cond.instanceMethod yX3_borrow) ∈ WG := WG_t3 (List.mem_of_getElem? (i := 159) (by decide +kernel)) rfl
theorem wd_652 : (Cond.selects "MagnetPoems" yX3_borrow yX3_borrow) ∈ WG := WG_t3 (List.mem_of_getElem? (i := 160) (by decide +kernel)) rfl
theorem wd_653 : (Cond.code yX3_borrow prog_1_method_6_code 7 (Option.some FieldType.int)) ∈ WG := WG_t3 (List.mem_of_getElem? (i := 161) (rfl)) rfl
theorem wd_655 : (Cond.methodLink "MagnetPoems" 132 yX0_isFreeForLoan) ∈ WG := WG_t3 (List.mem_of_getElem? (i := 163) (by decide +kernel)) rfl
theorem wd_656 : (Cond.instanceMethod yX0_isFreeForLoan) ∈ WG := WG_t3 (List.mem_of_getElem? (i := 164) (by decide +kernel)) rfl
theorem wd_657 : (Cond.selects "MagnetPoems$Board" yX0_isFreeForLoan yX0_isFreeForLoan) ∈ WG := WG_t3 (List.mem_of_getElem? (i := 165) (by decide +kernel)) rfl
theorem wd_658 : (Cond.code yX0_isFreeForLoan prog_2_method_27_code 2 (Option.some FieldType.boolean)) ∈ WG := WG_t3 (List.mem_of_getElem? (i := 166) (rfl)) rfl
theorem wd_660 : (Cond.methodLink "MagnetPoems" 137 yX0_startLoan) ∈ WG := WG_t3 (List.mem_of_getElem? (i := 168) (by decide +kernel)) rfl
theorem wd_661 : (Cond.instanceMethod yX0_startLoan) ∈ WG := WG_t3 (List.mem_of_getElem? (i := 169) (by decide +kernel)) rfl
theorem wd_662 : (Cond.selects "MagnetPoems$Board" yX0_startLoan yX0_startLoan) ∈ WG := WG_t3 (List.mem_of_getElem? (i := 170) (by decide +kernel)) rfl
theorem wd_663 : (Cond.code yX0_startLoan prog_2_method_29_code 3 (Option.none : Option FieldType)) ∈ WG := WG_t3 (List.mem_of_getElem? (i := 171) (rfl)) rfl
theorem wd_664 : (Cond.methodLink "MagnetPoems" 141 yX0_endingOn) ∈ WG := WG_t3 (List.mem_of_getElem? (i := 172) (by decide +kernel)) rfl
theorem wd_665 : (Cond.methodLink "MagnetPoemsLaw" 181 yL_bringsBack) ∈ WG := WG_t3 (List.mem_of_getElem? (i := 173) (by decide +kernel)) rfl
theorem wd_666 : (Cond.static yL_bringsBack) ∈ WG := WG_t3 (List.mem_of_getElem? (i := 174) (by decide +kernel)) rfl
theorem wd_667 : (Cond.code yL_bringsBack method_35_code 6 (Option.some FieldType.boolean)) ∈ WG := WG_t3 (List.mem_of_getElem? (i := 175) (rfl)) rfl
theorem wd_668 : (Cond.methodLink "MagnetPoemsLaw" 155 yX3_bringBack) ∈ WG := WG_t3 (List.mem_of_getElem? (i := 176) (by decide +kernel)) rfl
theorem wd_669 : (Cond.instanceMethod yX3_bringBack) ∈ WG := WG_t3 (List.mem_of_getElem? (i := 177) (by decide +kernel)) rfl
theorem wd_670 : (Cond.selects "MagnetPoems" yX3_bringBack yX3_bringBack) ∈ WG := WG_t3 (List.mem_of_getElem? (i := 178) (by decide +kernel)) rfl
theorem wd_671 : (Cond.code yX3_bringBack prog_1_method_7_code 4 (Option.some FieldType.int)) ∈ WG := WG_t3 (List.mem_of_getElem? (i := 179) (rfl)) rfl
theorem wd_672 : (Cond.methodLink "MagnetPoems" 144 yX0_borrows) ∈ WG := WG_t3 (List.mem_of_getElem? (i := 180) (by decide +kernel)) rfl
theorem wd_673 : (Cond.instanceMethod yX0_borrows) ∈ WG := WG_t3 (List.mem_of_getElem? (i := 181) (by decide +kernel)) rfl
theorem wd_674 : (Cond.selects "MagnetPoems$Board" yX0_borrows yX0_borrows) ∈ WG := WG_t3 (List.mem_of_getElem? (i := 182) (by decide +kernel)) rfl
theorem wd_675 : (Cond.code yX0_borrows prog_2_method_26_code 2 (Option.some FieldType.boolean)) ∈ WG := WG_t3 (List.mem_of_getElem? (i := 183) (rfl)) rfl
theorem wd_677 : (Cond.methodLink "MagnetPoems" 149 yX0_endLoan) ∈ WG := WG_t3 (List.mem_of_getElem? (i := 185) (by decide +kernel)) rfl
theorem wd_678 : (Cond.methodLink "MagnetPoemsLaw" 184 yL_sleeps) ∈ WG := WG_t3 (List.mem_of_getElem? (i := 186) (by decide +kernel)) rfl
theorem wd_679 : (Cond.static yL_sleeps) ∈ WG := WG_t3 (List.mem_of_getElem? (i := 187) (by decide +kernel)) rfl
theorem wd_680 : (Cond.code yL_sleeps method_36_code 8 (Option.some FieldType.boolean)) ∈ WG := WG_t3 (List.mem_of_getElem? (i := 188) (rfl)) rfl
theorem wd_681 : (Cond.methodLink "MagnetPoemsLaw" 158 yX3_sleep) ∈ WG := WG_t3 (List.mem_of_getElem? (i := 189) (by decide +kernel)) rfl
theorem wd_682 : (Cond.instanceMethod yX3_sleep) ∈ WG := WG_t3 (List.mem_of_getElem? (i := 190) (by decide +kernel)) rfl
theorem wd_683 : (Cond.selects "MagnetPoems" yX3_sleep yX3_sleep) ∈ WG := WG_t3 (List.mem_of_getElem? (i := 191) (by decide +kernel)) rfl
theorem wd_684 : (Cond.code yX3_sleep prog_1_method_8_code 2 (Option.some FieldType.int)) ∈ WG := WG_t3 (List.mem_of_getElem? (i := 192) (rfl)) rfl
theorem wd_686 : (Cond.methodLink "MagnetPoemsLaw" 188 yL_sets) ∈ WG := WG_t3 (List.mem_of_getElem? (i := 194) (by decide +kernel)) rfl
theorem wd_687 : (Cond.static yL_sets) ∈ WG := WG_t3 (List.mem_of_getElem? (i := 195) (by decide +kernel)) rfl
theorem wd_688 : (Cond.code yL_sets method_37_code 5 (Option.some FieldType.boolean)) ∈ WG := WG_t3 (List.mem_of_getElem? (i := 196) (rfl)) rfl
theorem wd_689 : (Cond.methodLink "MagnetPoemsLaw" 161 yX3_set) ∈ WG := WG_t3 (List.mem_of_getElem? (i := 197) (by decide +kernel)) rfl
theorem wd_690 : (Cond.instanceMethod yX3_set) ∈ WG := WG_t3 (List.mem_of_getElem? (i := 198) (by decide +kernel)) rfl
theorem wd_691 : (Cond.selects "MagnetPoems" yX3_set yX3_set) ∈ WG := WG_t3 (List.mem_of_getElem? (i := 199) (by decide +kernel)) rfl
theorem wd_692 : (Cond.code yX3_set prog_1_method_9_code 4 (Option.some FieldType.int)) ∈ WG := WG_t3 (List.mem_of_getElem? (i := 200) (rfl)) rfl
theorem wd_693 : (Cond.methodLink "MagnetPoems" 170 yX3_greatestOf) ∈ WG := WG_t3 (List.mem_of_getElem? (i := 201) (by decide +kernel)) rfl
theorem wd_694 : (Cond.static yX3_greatestOf) ∈ WG := WG_t3 (List.mem_of_getElem? (i := 202) (by decide +kernel)) rfl
theorem wd_695 : (Cond.code yX3_greatestOf prog_1_method_48_code 1 (Option.some FieldType.int)) ∈ WG := WG_t3 (List.mem_of_getElem? (i := 203) (rfl)) rfl
theorem wd_697 : (Cond.methodLink "MagnetPoems" 178 yX0_changeSetting) ∈ WG := WG_t3 (List.mem_of_getElem? (i := 205) (by decide +kernel)) rfl
theorem wd_698 : (Cond.instanceMethod yX0_changeSetting) ∈ WG := WG_t3 (List.mem_of_getElem? (i := 206) (by decide +kernel)) rfl
theorem wd_699 : (Cond.selects "MagnetPoems$Board" yX0_changeSetting yX0_changeSetting) ∈ WG := WG_t3 (List.mem_of_getElem? (i := 207) (by decide +kernel)) rfl
theorem wd_700 : (Cond.code yX0_changeSetting prog_2_method_39_code 3 (Option.none : Option FieldType)) ∈ WG := WG_t3 (List.mem_of_getElem? (i := 208) (rfl)) rfl
theorem wd_701 : (Cond.sameMethod "java/lang/Throwable" "java/lang/Throwable" "fillInStackTrace" "(I)Ljava/lang/Throwable;") ∈ WG := WG_t3 (List.mem_of_getElem? (i := 209) (by decide +kernel)) rfl

/-- all words of the tables that a method may be told again -/
def WG : List Cond := lw_tbl.filter goodWord
theorem WG_in {w : Cond} {l : List Cond} (i : Nat) (hl : lw_tbl = l) (h : l[i]? = some w) (hg : goodWord w = true) : w ∈ WG := List.mem_filter.mpr ⟨hl ▸ List.mem_of_getElem? h, hg⟩
theorem WG_a {w : Cond} (h : w ∈ lw_tbl) (hg : goodWord w = true) : w ∈ WG := List.mem_filter.mpr ⟨h, hg⟩
theorem WG_t1 {w : Cond} (h : w ∈ tables_1_1) (hg : goodWord w = true) : w ∈ WG := WG_a (List.mem_append_right _ (List.mem_append_left _ h)) hg
theorem WG_t2 {w : Cond} (h : w ∈ tables_1_2) (hg : goodWord w = true) : w ∈ WG := WG_a (List.mem_append_right _ (List.mem_append_right _ (List.mem_append_left _ h))) hg
theorem WG_t3 {w : Cond} (h : w ∈ tables_1_3) (hg : goodWord w = true) : w ∈ WG := WG_a (List.mem_append_right _ (List.mem_append_right _ (List.mem_append_right _ (List.mem_append_left _ h)))) hg
theorem WG_t4 {w : Cond} (h : w ∈ tables_1_4) (hg : goodWord w = true) : w ∈ WG := WG_a (List.mem_append_right _ (List.mem_append_right _ (List.mem_append_right _ (List.mem_append_right _ (List.mem_append_left _ h))))) hg
theorem WG_t5 {w : Cond} (h : w ∈ tables_1_5) (hg : goodWord w = true) : w ∈ WG := WG_a (List.mem_append_right _ (List.mem_append_right _ (List.mem_append_right _ (List.mem_append_right _ (List.mem_append_right _ (List.mem_append_left _ h)))))) hg
theorem WG_t6 {w : Cond} (h : w ∈ tables_1_6) (hg : goodWord w = true) : w ∈ WG := WG_a (List.mem_append_right _ (List.mem_append_right _ (List.mem_append_right _ (List.mem_append_right _ (List.mem_append_right _ (List.mem_append_right _ (h))))))) hg
theorem WG_p {w : Cond} (h : w ∈ k2_sels lw_privs) (hg : goodWord w = true) : w ∈ WG := WG_a (List.mem_append_left _ h) hg
theorem wd_0 : (Cond.selects "MagnetPoems" yX3_readBuffer yX3_readBuffer) ∈ WG := WG_p (List.mem_of_getElem? (i := 0) (by decide +kernel)) rfl
theorem wd_1 : (Cond.selects "MagnetPoems$PoemReader" yX2_takesDigit yX2_takesDigit) ∈ WG := WG_p (List.mem_of_getElem? (i := 1) (by decide +kernel)) rfl
theorem wd_2 : (Cond.selects "MagnetPoems$PoemReader" yX2_canBegin yX2_canBegin) ∈ WG := WG_p (List.mem_of_getElem? (i := 2) (by decide +kernel)) rfl
theorem wd_3 : (Cond.selects "MagnetPoems$PoemReader" yX2_isFree yX2_isFree) ∈ WG := WG_p (List.mem_of_getElem? (i := 3) (by decide +kernel)) rfl
theorem wd_4 : (Cond.selects "MagnetPoems$PoemReader" yX2_setTold yX2_setTold) ∈ WG := WG_p (List.mem_of_getElem? (i := 4) (by decide +kernel)) rfl
theorem wd_5 : (Cond.selects "MagnetPoems$Board" yX0_doorOfThief yX0_doorOfThief) ∈ WG := WG_p (List.mem_of_getElem? (i := 5) (by decide +kernel)) rfl
theorem wd_6 : (Cond.selects "MagnetPoems$Board" yX0_preyOn yX0_preyOn) ∈ WG := WG_p (List.mem_of_getElem? (i := 6) (by decide +kernel)) rfl
theorem wd_7 : (Cond.selects "MagnetPoems" yX3_share yX3_share) ∈ WG := WG_p (List.mem_of_getElem? (i := 7) (by decide +kernel)) rfl
theorem wd_8 : (Cond.selects "MagnetPoems$Board" yX0_watchOneNightFewer yX0_watchOneNightFewer) ∈ WG := WG_p (List.mem_of_getElem? (i := 8) (by decide +kernel)) rfl
theorem wd_9 : (Cond.selects "MagnetPoems$Board" yX0_steal yX0_steal) ∈ WG := WG_p (List.mem_of_getElem? (i := 9) (by decide +kernel)) rfl
theorem wd_10 : (Cond.selects "MagnetPoems$Board" yX0_endLoansOf yX0_endLoansOf) ∈ WG := WG_p (List.mem_of_getElem? (i := 10) (by decide +kernel)) rfl
theorem wd_11 : (Cond.selects "MagnetPoems" yX3_numberOf yX3_numberOf) ∈ WG := WG_p (List.mem_of_getElem? (i := 11) (by decide +kernel)) rfl
theorem wd_12 : (Cond.selects "MagnetPoems" yX3_mixDoor yX3_mixDoor) ∈ WG := WG_p (List.mem_of_getElem? (i := 12) (by decide +kernel)) rfl
theorem wd_13 : (Cond.selects "MagnetPoems$Board" yX0_clashes yX0_clashes) ∈ WG := WG_p (List.mem_of_getElem? (i := 13) (by decide +kernel)) rfl
theorem wd_14 : (Cond.selects "MagnetPoems$Board" yX0_wouldClash yX0_wouldClash) ∈ WG := WG_p (List.mem_of_getElem? (i := 14) (by decide +kernel)) rfl
theorem wd_15 : (Cond.selects "MagnetPoems" yX3_isPlaceToPut yX3_isPlaceToPut) ∈ WG := WG_p (List.mem_of_getElem? (i := 15) (by decide +kernel)) rfl
theorem wd_16 : (Cond.selects "java/lang/Throwable" ⟨"java/lang/Throwable", "fillInStackTrace", "(I)Ljava/lang/Throwable;"⟩ ⟨"java/lang/Throwable", "fillInStackTrace", "(I)Ljava/lang/Throwable;"⟩) ∈ WG := WG_p (List.mem_of_getElem? (i := 16) (by decide +kernel)) rfl
theorem wd_17 : (Cond.selects "MagnetPoems$History" yX1_stateAt yX1_stateAt) ∈ WG := WG_p (List.mem_of_getElem? (i := 17) (by decide +kernel)) rfl
theorem wd_18 : (Cond.selects "MagnetPoems" yX3_addCode yX3_addCode) ∈ WG := WG_p (List.mem_of_getElem? (i := 18) (by decide +kernel)) rfl
theorem wd_19 : (Cond.selects "MagnetPoems" yX3_putPoem yX3_putPoem) ∈ WG := WG_p (List.mem_of_getElem? (i := 19) (by decide +kernel)) rfl
theorem wd_20 : (Cond.selects "MagnetPoems" yX3_textLength yX3_textLength) ∈ WG := WG_p (List.mem_of_getElem? (i := 20) (by decide +kernel)) rfl
theorem wd_21 : (Cond.selects "MagnetPoems" yX3_addLine yX3_addLine) ∈ WG := WG_p (List.mem_of_getElem? (i := 21) (by decide +kernel)) rfl
theorem wd_22 : (Cond.selects "MagnetPoems" yX3_addNumber yX3_addNumber) ∈ WG := WG_p (List.mem_of_getElem? (i := 22) (by decide +kernel)) rfl
theorem wd_23 : (Cond.selects "MagnetPoemsModel" yX4_fails yX4_fails) ∈ WG := WG_p (List.mem_of_getElem? (i := 23) (by decide +kernel)) rfl
theorem wd_24 : (Cond.selects "MagnetPoemsModel" yX4_lineOfWord yX4_lineOfWord) ∈ WG := WG_p (List.mem_of_getElem? (i := 24) (by decide +kernel)) rfl
theorem wd_25 : (Cond.selects "MagnetPoemsModel" yX4_wordAt yX4_wordAt) ∈ WG := WG_p (List.mem_of_getElem? (i := 25) (by decide +kernel)) rfl
theorem wd_26 : (Cond.selects "MagnetPoemsModel" yX4_save yX4_save) ∈ WG := WG_p (List.mem_of_getElem? (i := 26) (by decide +kernel)) rfl
theorem wd_27 : (Cond.selects "MagnetPoemsModel" yX4_reason yX4_reason) ∈ WG := WG_p (List.mem_of_getElem? (i := 27) (by decide +kernel)) rfl
theorem wd_28 : (Cond.selects "MagnetPoemsModel" yX4_beatsOn yX4_beatsOn) ∈ WG := WG_p (List.mem_of_getElem? (i := 28) (by decide +kernel)) rfl
theorem wd_29 : (Cond.selects "MagnetPoemsModel" yX4_wordWith yX4_wordWith) ∈ WG := WG_p (List.mem_of_getElem? (i := 29) (by decide +kernel)) rfl
theorem wd_30 : (Cond.selects "MagnetPoemsModel" yX4_insert yX4_insert) ∈ WG := WG_p (List.mem_of_getElem? (i := 30) (by decide +kernel)) rfl
theorem wd_31 : (Cond.selects "MagnetPoemsModel" yX4_lastOf yX4_lastOf) ∈ WG := WG_p (List.mem_of_getElem? (i := 31) (by decide +kernel)) rfl
theorem wd_32 : (Cond.selects "MagnetPoemsModel" yX4_endLoans yX4_endLoans) ∈ WG := WG_p (List.mem_of_getElem? (i := 32) (by decide +kernel)) rfl
theorem wd_33 : (Cond.selects "MagnetPoemsModel" yX4_placeOfWord yX4_placeOfWord) ∈ WG := WG_p (List.mem_of_getElem? (i := 33) (by decide +kernel)) rfl
theorem wd_34 : (Cond.selects "MagnetPoemsModel" yX4_removeAt yX4_removeAt) ∈ WG := WG_p (List.mem_of_getElem? (i := 34) (by decide +kernel)) rfl
theorem wd_35 : (Cond.selects "MagnetPoemsModel" yX4_emptyDoor yX4_emptyDoor) ∈ WG := WG_p (List.mem_of_getElem? (i := 35) (by decide +kernel)) rfl
theorem wd_36 : (Cond.selects "MagnetPoemsModel" yX4_canLend yX4_canLend) ∈ WG := WG_p (List.mem_of_getElem? (i := 36) (by decide +kernel)) rfl
theorem wd_37 : (Cond.selects "MagnetPoemsModel" yX4_borrowerOf yX4_borrowerOf) ∈ WG := WG_p (List.mem_of_getElem? (i := 37) (by decide +kernel)) rfl
theorem wd_38 : (Cond.selects "MagnetPoemsModel" yX4_lineEnding yX4_lineEnding) ∈ WG := WG_p (List.mem_of_getElem? (i := 38) (by decide +kernel)) rfl
theorem wd_39 : (Cond.selects "MagnetPoemsModel" yX4_nights yX4_nights) ∈ WG := WG_p (List.mem_of_getElem? (i := 39) (by decide +kernel)) rfl
theorem wd_40 : (Cond.selects "MagnetPoemsModel" yX4_night yX4_night) ∈ WG := WG_p (List.mem_of_getElem? (i := 40) (by decide +kernel)) rfl
theorem wd_41 : (Cond.selects "MagnetPoemsModel" yX4_preyNow yX4_preyNow) ∈ WG := WG_p (List.mem_of_getElem? (i := 41) (by decide +kernel)) rfl
theorem wd_42 : (Cond.selects "MagnetPoemsModel" yX4_target yX4_target) ∈ WG := WG_p (List.mem_of_getElem? (i := 42) (by decide +kernel)) rfl
theorem wd_43 : (Cond.selects "MagnetPoemsModel" yX4_doorWords yX4_doorWords) ∈ WG := WG_p (List.mem_of_getElem? (i := 43) (by decide +kernel)) rfl
theorem wd_44 : (Cond.selects "MagnetPoemsModel" yX4_doorWorth yX4_doorWorth) ∈ WG := WG_p (List.mem_of_getElem? (i := 44) (by decide +kernel)) rfl
theorem wd_45 : (Cond.selects "MagnetPoemsModel" yX4_pairs yX4_pairs) ∈ WG := WG_p (List.mem_of_getElem? (i := 45) (by decide +kernel)) rfl
theorem wd_46 : (Cond.selects "MagnetPoemsModel" yX4_rhymes yX4_rhymes) ∈ WG := WG_p (List.mem_of_getElem? (i := 46) (by decide +kernel)) rfl
theorem wd_47 : (Cond.selects "MagnetPoemsModel" yX4_lineWorth yX4_lineWorth) ∈ WG := WG_p (List.mem_of_getElem? (i := 47) (by decide +kernel)) rfl
theorem wd_48 : (Cond.selects "MagnetPoemsModel" yX4_hasKind yX4_hasKind) ∈ WG := WG_p (List.mem_of_getElem? (i := 48) (by decide +kernel)) rfl
theorem wd_49 : (Cond.selects "MagnetPoemsModel" yX4_preyOn yX4_preyOn) ∈ WG := WG_p (List.mem_of_getElem? (i := 49) (by decide +kernel)) rfl
theorem wd_50 : (Cond.selects "MagnetPoemsModel" yX4_readPoem yX4_readPoem) ∈ WG := WG_p (List.mem_of_getElem? (i := 50) (by decide +kernel)) rfl
theorem wd_51 : (Cond.selects "MagnetPoemsModel" yX4_readNumber yX4_readNumber) ∈ WG := WG_p (List.mem_of_getElem? (i := 51) (by decide +kernel)) rfl
theorem wd_52 : (Cond.selects "MagnetPoemsModel" yX4_digitAt yX4_digitAt) ∈ WG := WG_p (List.mem_of_getElem? (i := 52) (by decide +kernel)) rfl
theorem wd_53 : (Cond.selects "MagnetPoemsModel" yX4_canBegin yX4_canBegin) ∈ WG := WG_p (List.mem_of_getElem? (i := 53) (by decide +kernel)) rfl
theorem wd_54 : (Cond.selects "MagnetPoemsModel" yX4_hasStood yX4_hasStood) ∈ WG := WG_p (List.mem_of_getElem? (i := 54) (by decide +kernel)) rfl
theorem wd_55 : (Cond.selects "MagnetPoemsModel" yX4_draftSign yX4_draftSign) ∈ WG := WG_p (List.mem_of_getElem? (i := 55) (by decide +kernel)) rfl
theorem wd_56 : (Cond.selects "MagnetPoemsModel" yX4_draftLine yX4_draftLine) ∈ WG := WG_p (List.mem_of_getElem? (i := 56) (by decide +kernel)) rfl
theorem wd_57 : (Cond.selects "MagnetPoemsModel" yX4_inBag yX4_inBag) ∈ WG := WG_p (List.mem_of_getElem? (i := 57) (by decide +kernel)) rfl
theorem wd_58 : (Cond.selects "MagnetPoemsModel" yX4_wordProperty yX4_wordProperty) ∈ WG := WG_p (List.mem_of_getElem? (i := 58) (by decide +kernel)) rfl
theorem wd_59 : (Cond.selects "MagnetPoemsModel" yX4_wordOrNone yX4_wordOrNone) ∈ WG := WG_p (List.mem_of_getElem? (i := 59) (by decide +kernel)) rfl
theorem wd_60 : (Cond.selects "MagnetPoemsModel" yX4_lineProperty yX4_lineProperty) ∈ WG := WG_p (List.mem_of_getElem? (i := 60) (by decide +kernel)) rfl
theorem wd_61 : (Cond.selects "MagnetPoemsModel" yX4_isMixed yX4_isMixed) ∈ WG := WG_p (List.mem_of_getElem? (i := 61) (by decide +kernel)) rfl
theorem wd_62 : (Cond.selects "MagnetPoemsModel" yX4_doorProperty yX4_doorProperty) ∈ WG := WG_p (List.mem_of_getElem? (i := 62) (by decide +kernel)) rfl
theorem wd_63 : (Cond.selects "MagnetPoemsModel" yX4_number yX4_number) ∈ WG := WG_p (List.mem_of_getElem? (i := 63) (by decide +kernel)) rfl
theorem wd_64 : (Cond.selects "MagnetPoemsModel" yX4_stolenInAll yX4_stolenInAll) ∈ WG := WG_p (List.mem_of_getElem? (i := 64) (by decide +kernel)) rfl
theorem wd_65 : (Cond.selects "MagnetPoemsModel" yX4_lentNow yX4_lentNow) ∈ WG := WG_p (List.mem_of_getElem? (i := 65) (by decide +kernel)) rfl
theorem wd_66 : (Cond.selects "MagnetPoemsModel" yX4_allWorth yX4_allWorth) ∈ WG := WG_p (List.mem_of_getElem? (i := 66) (by decide +kernel)) rfl
theorem wd_67 : (Cond.selects "MagnetPoemsModel" yX4_bestFor yX4_bestFor) ∈ WG := WG_p (List.mem_of_getElem? (i := 67) (by decide +kernel)) rfl
theorem wd_68 : (Cond.selects "MagnetPoemsModel" yX4_worthWith yX4_worthWith) ∈ WG := WG_p (List.mem_of_getElem? (i := 68) (by decide +kernel)) rfl
theorem wd_69 : (Cond.selects "MagnetPoemsModel" yX4_putAside yX4_putAside) ∈ WG := WG_p (List.mem_of_getElem? (i := 69) (by decide +kernel)) rfl
theorem wd_70 : (Cond.selects "MagnetPoemsModel" yX4_putBack yX4_putBack) ∈ WG := WG_p (List.mem_of_getElem? (i := 70) (by decide +kernel)) rfl
theorem wd_71 : (Cond.selects "MagnetPoemsModel" yX4_worthBehind yX4_worthBehind) ∈ WG := WG_p (List.mem_of_getElem? (i := 71) (by decide +kernel)) rfl
theorem wd_72 : (Cond.selects "MagnetPoemsModel" yX4_share yX4_share) ∈ WG := WG_p (List.mem_of_getElem? (i := 72) (by decide +kernel)) rfl
theorem wd_73 : (Cond.selects "MagnetPoemsModel" yX4_mix yX4_mix) ∈ WG := WG_p (List.mem_of_getElem? (i := 73) (by decide +kernel)) rfl
theorem wd_74 : (Cond.selects "MagnetPoemsModel" yX4_mixDoor yX4_mixDoor) ∈ WG := WG_p (List.mem_of_getElem? (i := 74) (by decide +kernel)) rfl
theorem wd_75 : (Cond.selects "MagnetPoemsModel" yX4_mixLine yX4_mixLine) ∈ WG := WG_p (List.mem_of_getElem? (i := 75) (by decide +kernel)) rfl
theorem wd_76 : (Cond.initialized "MagnetPoemsLaw") ∈ WG := WG_t1 (List.mem_of_getElem? (i := 0) (by decide +kernel)) rfl
theorem wd_77 : (Cond.initialized "MagnetPoems") ∈ WG := WG_t1 (List.mem_of_getElem? (i := 1) (by decide +kernel)) rfl
theorem wd_78 : (Cond.initialized "MagnetPoems$Board") ∈ WG := WG_t1 (List.mem_of_getElem? (i := 2) (by decide +kernel)) rfl
theorem wd_79 : (Cond.initialized "MagnetPoems$History") ∈ WG := WG_t1 (List.mem_of_getElem? (i := 3) (by decide +kernel)) rfl
theorem wd_80 : (Cond.initialized "MagnetPoems$PoemReader") ∈ WG := WG_t1 (List.mem_of_getElem? (i := 4) (by decide +kernel)) rfl
theorem wd_81 : (Cond.initialized "MagnetPoemsModel") ∈ WG := WG_t1 (List.mem_of_getElem? (i := 5) (by decide +kernel)) rfl
theorem wd_82 : (Cond.initialized "java/lang/Throwable") ∈ WG := WG_t1 (List.mem_of_getElem? (i := 6) (by decide +kernel)) rfl
theorem wd_83 : (Cond.initialized "java/lang/Exception") ∈ WG := WG_t1 (List.mem_of_getElem? (i := 7) (by decide +kernel)) rfl
theorem wd_84 : (Cond.initialized "java/lang/RuntimeException") ∈ WG := WG_t1 (List.mem_of_getElem? (i := 8) (by decide +kernel)) rfl
theorem wd_85 : (Cond.initialized "java/lang/IndexOutOfBoundsException") ∈ WG := WG_t1 (List.mem_of_getElem? (i := 9) (by decide +kernel)) rfl
theorem wd_86 : (Cond.initialized "java/lang/IllegalStateException") ∈ WG := WG_t1 (List.mem_of_getElem? (i := 10) (by decide +kernel)) rfl
theorem wd_87 : (Cond.initialized "java/lang/IllegalArgumentException") ∈ WG := WG_t1 (List.mem_of_getElem? (i := 11) (by decide +kernel)) rfl
theorem wd_88 : (Cond.initialized "java/lang/Double") ∈ WG := WG_t1 (List.mem_of_getElem? (i := 12) (by decide +kernel)) rfl
theorem wd_89 : (Cond.classLink "MagnetPoemsLaw" 8 "MagnetPoems") ∈ WG := WG_t1 (List.mem_of_getElem? (i := 13) (by decide +kernel)) rfl
theorem wd_90 : (Cond.instantiable "MagnetPoems" 8) ∈ WG := WG_t1 (List.mem_of_getElem? (i := 14) (by decide +kernel)) rfl
theorem wd_91 : (Cond.methodLink "MagnetPoemsLaw" 89 yX3_init) ∈ WG := WG_t1 (List.mem_of_getElem? (i := 15) (by decide +kernel)) rfl
theorem wd_92 : (Cond.instanceMethod yX3_init) ∈ WG := WG_t1 (List.mem_of_getElem? (i := 16) (by decide +kernel)) rfl
theorem wd_93 : (Cond.code yX3_init prog_1_method_1_code 2 (Option.none : Option FieldType)) ∈ WG := WG_t1 (List.mem_of_getElem? (i := 17) (rfl)) rfl
theorem wd_94 : (Cond.methodLink "MagnetPoems" 1 ⟨"java/lang/Object", "<init>", "()V"⟩) ∈ WG := WG_t1 (List.mem_of_getElem? (i := 18) (by decide +kernel)) rfl
theorem wd_95 : (Cond.instanceMethod ⟨"java/lang/Object", "<init>", "()V"⟩) ∈ WG := WG_t1 (List.mem_of_getElem? (i := 19) (by decide +kernel)) rfl
theorem wd_96 : (Cond.code ⟨"java/lang/Object", "<init>", "()V"⟩ object_method_1_code 1 (Option.none : Option FieldType)) ∈ WG := WG_t1 (List.mem_of_getElem? (i := 20) (rfl)) rfl
theorem wd_97 : (Cond.classLink "MagnetPoems" 7 "MagnetPoems$Board") ∈ WG := WG_t1 (List.mem_of_getElem? (i := 21) (by decide +kernel)) rfl
theorem wd_98 : (Cond.instantiable "MagnetPoems$Board" 13) ∈ WG := WG_t1 (List.mem_of_getElem? (i := 22) (by decide +kernel)) rfl
theorem wd_99 : (Cond.methodLink "MagnetPoems" 9 yX0_init) ∈ WG := WG_t1 (List.mem_of_getElem? (i := 23) (by decide +kernel)) rfl
theorem wd_100 : (Cond.instanceMethod yX0_init) ∈ WG := WG_t1 (List.mem_of_getElem? (i := 24) (by decide +kernel)) rfl
theorem wd_101 : (Cond.code yX0_init prog_2_method_1_code 1 (Option.none : Option FieldType)) ∈ WG := WG_t1 (List.mem_of_getElem? (i := 25) (rfl)) rfl
theorem wd_102 : (Cond.methodLink "MagnetPoems$Board" 3 ⟨"java/lang/Object", "<init>", "()V"⟩) ∈ WG := WG_t1 (List.mem_of_getElem? (i := 26) (by decide +kernel)) rfl
theorem wd_104 : (Cond.static yX3_fillRow) ∈ WG := WG_t1 (List.mem_of_getElem? (i := 28) (by decide +kernel)) rfl
theorem wd_105 : (Cond.code yX3_fillRow prog_1_method_58_code 3 (Option.none : Option FieldType)) ∈ WG := WG_t1 (List.mem_of_getElem? (i := 29) (rfl)) rfl
theorem wd_107 : (Cond.static yX3_setCell) ∈ WG := WG_t1 (List.mem_of_getElem? (i := 31) (by decide +kernel)) rfl
theorem wd_108 : (Cond.code yX3_setCell prog_1_method_56_code 3 (Option.none : Option FieldType)) ∈ WG := WG_t1 (List.mem_of_getElem? (i := 32) (rfl)) rfl
theorem wd_109 : (Cond.fieldLink "MagnetPoems$Board" 9 "MagnetPoems$Board" "homes" "[I") ∈ WG := WG_t1 (List.mem_of_getElem? (i := 33) (by decide +kernel)) rfl
theorem wd_110 : (Cond.fieldLink "MagnetPoems$Board" 15 "MagnetPoems$Board" "words" "[I") ∈ WG := WG_t1 (List.mem_of_getElem? (i := 34) (by decide +kernel)) rfl
theorem wd_111 : (Cond.fieldLink "MagnetPoems$Board" 18 "MagnetPoems$Board" "sizes" "[I") ∈ WG := WG_t1 (List.mem_of_getElem? (i := 35) (by decide +kernel)) rfl
theorem wd_112 : (Cond.fieldLink "MagnetPoems$Board" 21 "MagnetPoems$Board" "lenders" "[I") ∈ WG := WG_t1 (List.mem_of_getElem? (i := 36) (by decide +kernel)) rfl
theorem wd_113 : (Cond.fieldLink "MagnetPoems$Board" 24 "MagnetPoems$Board" "borrowers" "[I") ∈ WG := WG_t1 (List.mem_of_getElem? (i := 37) (by decide +kernel)) rfl
theorem wd_114 : (Cond.fieldLink "MagnetPoems$Board" 27 "MagnetPoems$Board" "thefts" "[I") ∈ WG := WG_t1 (List.mem_of_getElem? (i := 38) (by decide +kernel)) rfl
theorem wd_115 : (Cond.fieldLink "MagnetPoems$Board" 30 "MagnetPoems$Board" "watches" "[I") ∈ WG := WG_t1 (List.mem_of_getElem? (i := 39) (by decide +kernel)) rfl
theorem wd_116 : (Cond.fieldLink "MagnetPoems$Board" 33 "MagnetPoems$Board" "losses" "[I") ∈ WG := WG_t1 (List.mem_of_getElem? (i := 40) (by decide +kernel)) rfl
theorem wd_117 : (Cond.fieldLink "MagnetPoems$Board" 36 "MagnetPoems$Board" "settings" "[I") ∈ WG := WG_t1 (List.mem_of_getElem? (i := 41) (by decide +kernel)) rfl
theorem wd_118 : (Cond.fieldLink "MagnetPoems$Board" 51 "MagnetPoems$Board" "nights" "I") ∈ WG := WG_t1 (List.mem_of_getElem? (i := 42) (by decide +kernel)) rfl
theorem wd_120 : (Cond.fieldLink "MagnetPoems$Board" 55 "MagnetPoems$Board" "stolen" "I") ∈ WG := WG_t1 (List.mem_of_getElem? (i := 44) (by decide +kernel)) rfl
theorem wd_122 : (Cond.fieldLink "MagnetPoems$Board" 58 "MagnetPoems$Board" "shown" "I") ∈ WG := WG_t1 (List.mem_of_getElem? (i := 46) (by decide +kernel)) rfl
theorem wd_125 : (Cond.fieldLink "MagnetPoems$Board" 61 "MagnetPoems$Board" "refused" "I") ∈ WG := WG_t1 (List.mem_of_getElem? (i := 49) (by decide +kernel)) rfl
theorem wd_126 : (Cond.laysFinal "MagnetPoems$Board" "MagnetPoems$Board" "homes" "[I") ∈ WG := WG_t1 (List.mem_of_getElem? (i := 50) (by decide +kernel)) rfl
theorem wd_127 : (Cond.soleField "MagnetPoems$Board" "homes") ∈ WG := WG_t1 (List.mem_of_getElem? (i := 51) (by decide +kernel)) rfl
theorem wd_128 : (Cond.laysFinal "MagnetPoems$Board" "MagnetPoems$Board" "words" "[I") ∈ WG := WG_t1 (List.mem_of_getElem? (i := 52) (by decide +kernel)) rfl
theorem wd_129 : (Cond.soleField "MagnetPoems$Board" "words") ∈ WG := WG_t1 (List.mem_of_getElem? (i := 53) (by decide +kernel)) rfl
theorem wd_130 : (Cond.laysFinal "MagnetPoems$Board" "MagnetPoems$Board" "sizes" "[I") ∈ WG := WG_t1 (List.mem_of_getElem? (i := 54) (by decide +kernel)) rfl
theorem wd_131 : (Cond.soleField "MagnetPoems$Board" "sizes") ∈ WG := WG_t1 (List.mem_of_getElem? (i := 55) (by decide +kernel)) rfl
theorem wd_132 : (Cond.laysFinal "MagnetPoems$Board" "MagnetPoems$Board" "lenders" "[I") ∈ WG := WG_t1 (List.mem_of_getElem? (i := 56) (by decide +kernel)) rfl
theorem wd_133 : (Cond.soleField "MagnetPoems$Board" "lenders") ∈ WG := WG_t1 (List.mem_of_getElem? (i := 57) (by decide +kernel)) rfl
theorem wd_134 : (Cond.laysFinal "MagnetPoems$Board" "MagnetPoems$Board" "borrowers" "[I") ∈ WG := WG_t1 (List.mem_of_getElem? (i := 58) (by decide +kernel)) rfl
theorem wd_135 : (Cond.soleField "MagnetPoems$Board" "borrowers") ∈ WG := WG_t1 (List.mem_of_getElem? (i := 59) (by decide +kernel)) rfl
theorem wd_136 : (Cond.laysFinal "MagnetPoems$Board" "MagnetPoems$Board" "thefts" "[I") ∈ WG := WG_t1 (List.mem_of_getElem? (i := 60) (by decide +kernel)) rfl
theorem wd_137 : (Cond.soleField "MagnetPoems$Board" "thefts") ∈ WG := WG_t1 (List.mem_of_getElem? (i := 61) (by decide +kernel)) rfl
theorem wd_138 : (Cond.laysFinal "MagnetPoems$Board" "MagnetPoems$Board" "watches" "[I") ∈ WG := WG_t1 (List.mem_of_getElem? (i := 62) (by decide +kernel)) rfl
theorem wd_139 : (Cond.soleField "MagnetPoems$Board" "watches") ∈ WG := WG_t1 (List.mem_of_getElem? (i := 63) (by decide +kernel)) rfl
theorem wd_140 : (Cond.laysFinal "MagnetPoems$Board" "MagnetPoems$Board" "losses" "[I") ∈ WG := WG_t1 (List.mem_of_getElem? (i := 64) (by decide +kernel)) rfl
theorem wd_141 : (Cond.soleField "MagnetPoems$Board" "losses") ∈ WG := WG_t1 (List.mem_of_getElem? (i := 65) (by decide +kernel)) rfl
theorem wd_142 : (Cond.laysFinal "MagnetPoems$Board" "MagnetPoems$Board" "settings" "[I") ∈ WG := WG_t1 (List.mem_of_getElem? (i := 66) (by decide +kernel)) rfl
theorem wd_143 : (Cond.soleField "MagnetPoems$Board" "settings") ∈ WG := WG_t1 (List.mem_of_getElem? (i := 67) (by decide +kernel)) rfl
theorem wd_144 : (Cond.lays "MagnetPoems$Board" "MagnetPoems$Board" "nights" "I") ∈ WG := WG_t1 (List.mem_of_getElem? (i := 68) (by decide +kernel)) rfl
theorem wd_145 : (Cond.soleField "MagnetPoems$Board" "nights") ∈ WG := WG_t1 (List.mem_of_getElem? (i := 69) (by decide +kernel)) rfl
theorem wd_146 : (Cond.lays "MagnetPoems$Board" "MagnetPoems$Board" "stolen" "I") ∈ WG := WG_t1 (List.mem_of_getElem? (i := 70) (by decide +kernel)) rfl
theorem wd_147 : (Cond.soleField "MagnetPoems$Board" "stolen") ∈ WG := WG_t1 (List.mem_of_getElem? (i := 71) (by decide +kernel)) rfl
theorem wd_148 : (Cond.lays "MagnetPoems$Board" "MagnetPoems$Board" "shown" "I") ∈ WG := WG_t1 (List.mem_of_getElem? (i := 72) (by decide +kernel)) rfl
theorem wd_149 : (Cond.soleField "MagnetPoems$Board" "shown") ∈ WG := WG_t1 (List.mem_of_getElem? (i := 73) (by decide +kernel)) rfl
theorem wd_150 : (Cond.lays "MagnetPoems$Board" "MagnetPoems$Board" "refused" "I") ∈ WG := WG_t1 (List.mem_of_getElem? (i := 74) (by decide +kernel)) rfl
theorem wd_151 : (Cond.soleField "MagnetPoems$Board" "refused") ∈ WG := WG_t1 (List.mem_of_getElem? (i := 75) (by decide +kernel)) rfl
theorem wd_152 : (Cond.superclass "MagnetPoems$Board" "java/lang/Object") ∈ WG := WG_t1 (List.mem_of_getElem? (i := 76) (by decide +kernel)) rfl
theorem wd_153 : (Cond.arrayClass FieldType.int) ∈ WG := WG_t1 (List.mem_of_getElem? (i := 77) (by decide +kernel)) rfl
theorem wd_154 : (Cond.classLink "MagnetPoems" 19 "MagnetPoems$History") ∈ WG := WG_t1 (List.mem_of_getElem? (i := 78) (by decide +kernel)) rfl
theorem wd_155 : (Cond.instantiable "MagnetPoems$History" 3) ∈ WG := WG_t1 (List.mem_of_getElem? (i := 79) (by decide +kernel)) rfl
theorem wd_156 : (Cond.methodLink "MagnetPoems" 21 yX1_init) ∈ WG := WG_t1 (List.mem_of_getElem? (i := 80) (by decide +kernel)) rfl
theorem wd_157 : (Cond.instanceMethod yX1_init) ∈ WG := WG_t1 (List.mem_of_getElem? (i := 81) (by decide +kernel)) rfl
theorem wd_158 : (Cond.code yX1_init prog_3_method_1_code 2 (Option.none : Option FieldType)) ∈ WG := WG_t1 (List.mem_of_getElem? (i := 82) (rfl)) rfl
theorem wd_159 : (Cond.methodLink "MagnetPoems$History" 3 ⟨"java/lang/Object", "<init>", "()V"⟩) ∈ WG := WG_t1 (List.mem_of_getElem? (i := 83) (by decide +kernel)) rfl
theorem wd_160 : (Cond.classLink "MagnetPoems$History" 9 "MagnetPoems$Board") ∈ WG := WG_t1 (List.mem_of_getElem? (i := 84) (by decide +kernel)) rfl
theorem wd_162 : (Cond.methodLink "MagnetPoems$History" 17 yX0_init) ∈ WG := WG_t1 (List.mem_of_getElem? (i := 86) (by decide +kernel)) rfl
theorem wd_163 : (Cond.fieldLink "MagnetPoems$History" 11 "MagnetPoems$History" "states" "[LMagnetPoems$Board;") ∈ WG := WG_t1 (List.mem_of_getElem? (i := 87) (by decide +kernel)) rfl
theorem wd_164 : (Cond.fieldLink "MagnetPoems$History" 22 "MagnetPoems$History" "oldest" "I") ∈ WG := WG_t1 (List.mem_of_getElem? (i := 88) (by decide +kernel)) rfl
theorem wd_165 : (Cond.fieldLink "MagnetPoems$History" 18 "MagnetPoems$History" "size" "I") ∈ WG := WG_t1 (List.mem_of_getElem? (i := 89) (by decide +kernel)) rfl
theorem wd_167 : (Cond.laysFinal "MagnetPoems$History" "MagnetPoems$History" "states" "[LMagnetPoems$Board;") ∈ WG := WG_t1 (List.mem_of_getElem? (i := 91) (by decide +kernel)) rfl
theorem wd_168 : (Cond.soleField "MagnetPoems$History" "states") ∈ WG := WG_t1 (List.mem_of_getElem? (i := 92) (by decide +kernel)) rfl
theorem wd_169 : (Cond.lays "MagnetPoems$History" "MagnetPoems$History" "oldest" "I") ∈ WG := WG_t1 (List.mem_of_getElem? (i := 93) (by decide +kernel)) rfl
theorem wd_170 : (Cond.soleField "MagnetPoems$History" "oldest") ∈ WG := WG_t1 (List.mem_of_getElem? (i := 94) (by decide +kernel)) rfl
theorem wd_171 : (Cond.lays "MagnetPoems$History" "MagnetPoems$History" "size" "I") ∈ WG := WG_t1 (List.mem_of_getElem? (i := 95) (by decide +kernel)) rfl
theorem wd_172 : (Cond.soleField "MagnetPoems$History" "size") ∈ WG := WG_t1 (List.mem_of_getElem? (i := 96) (by decide +kernel)) rfl
theorem wd_173 : (Cond.superclass "MagnetPoems$History" "java/lang/Object") ∈ WG := WG_t1 (List.mem_of_getElem? (i := 97) (by decide +kernel)) rfl
theorem wd_174 : (Cond.classLink "MagnetPoems" 38 "MagnetPoems$PoemReader") ∈ WG := WG_t1 (List.mem_of_getElem? (i := 98) (by decide +kernel)) rfl
theorem wd_175 : (Cond.instantiable "MagnetPoems$PoemReader" 7) ∈ WG := WG_t1 (List.mem_of_getElem? (i := 99) (by decide +kernel)) rfl
theorem wd_177 : (Cond.instanceMethod yX2_init) ∈ WG := WG_t1 (List.mem_of_getElem? (i := 101) (by decide +kernel)) rfl
theorem wd_178 : (Cond.code yX2_init prog_4_method_1_code 1 (Option.none : Option FieldType)) ∈ WG := WG_t1 (List.mem_of_getElem? (i := 102) (rfl)) rfl
theorem wd_179 : (Cond.methodLink "MagnetPoems$PoemReader" 3 ⟨"java/lang/Object", "<init>", "()V"⟩) ∈ WG := WG_t1 (List.mem_of_getElem? (i := 103) (by decide +kernel)) rfl
theorem wd_180 : (Cond.fieldLink "MagnetPoems$PoemReader" 9 "MagnetPoems$PoemReader" "told" "[Z") ∈ WG := WG_t1 (List.mem_of_getElem? (i := 104) (by decide +kernel)) rfl
theorem wd_181 : (Cond.fieldLink "MagnetPoems$PoemReader" 15 "MagnetPoems$PoemReader" "words" "[I") ∈ WG := WG_t1 (List.mem_of_getElem? (i := 105) (by decide +kernel)) rfl
theorem wd_182 : (Cond.fieldLink "MagnetPoems$PoemReader" 19 "MagnetPoems$PoemReader" "lines" "[I") ∈ WG := WG_t1 (List.mem_of_getElem? (i := 106) (by decide +kernel)) rfl
theorem wd_183 : (Cond.fieldLink "MagnetPoems$PoemReader" 22 "MagnetPoems$PoemReader" "found" "I") ∈ WG := WG_t1 (List.mem_of_getElem? (i := 107) (by decide +kernel)) rfl
theorem wd_185 : (Cond.fieldLink "MagnetPoems$PoemReader" 26 "MagnetPoems$PoemReader" "line" "I") ∈ WG := WG_t1 (List.mem_of_getElem? (i := 109) (by decide +kernel)) rfl
theorem wd_186 : (Cond.fieldLink "MagnetPoems$PoemReader" 29 "MagnetPoems$PoemReader" "wordsOnLine" "I") ∈ WG := WG_t1 (List.mem_of_getElem? (i := 110) (by decide +kernel)) rfl
theorem wd_187 : (Cond.fieldLink "MagnetPoems$PoemReader" 32 "MagnetPoems$PoemReader" "number" "I") ∈ WG := WG_t1 (List.mem_of_getElem? (i := 111) (by decide +kernel)) rfl
theorem wd_188 : (Cond.laysFinal "MagnetPoems$PoemReader" "MagnetPoems$PoemReader" "told" "[Z") ∈ WG := WG_t1 (List.mem_of_getElem? (i := 112) (by decide +kernel)) rfl
theorem wd_189 : (Cond.soleField "MagnetPoems$PoemReader" "told") ∈ WG := WG_t1 (List.mem_of_getElem? (i := 113) (by decide +kernel)) rfl
theorem wd_190 : (Cond.laysFinal "MagnetPoems$PoemReader" "MagnetPoems$PoemReader" "words" "[I") ∈ WG := WG_t1 (List.mem_of_getElem? (i := 114) (by decide +kernel)) rfl
theorem wd_191 : (Cond.soleField "MagnetPoems$PoemReader" "words") ∈ WG := WG_t1 (List.mem_of_getElem? (i := 115) (by decide +kernel)) rfl
theorem wd_192 : (Cond.laysFinal "MagnetPoems$PoemReader" "MagnetPoems$PoemReader" "lines" "[I") ∈ WG := WG_t1 (List.mem_of_getElem? (i := 116) (by decide +kernel)) rfl
theorem wd_193 : (Cond.soleField "MagnetPoems$PoemReader" "lines") ∈ WG := WG_t1 (List.mem_of_getElem? (i := 117) (by decide +kernel)) rfl
theorem wd_194 : (Cond.lays "MagnetPoems$PoemReader" "MagnetPoems$PoemReader" "found" "I") ∈ WG := WG_t1 (List.mem_of_getElem? (i := 118) (by decide +kernel)) rfl
theorem wd_195 : (Cond.soleField "MagnetPoems$PoemReader" "found") ∈ WG := WG_t1 (List.mem_of_getElem? (i := 119) (by decide +kernel)) rfl
theorem wd_196 : (Cond.lays "MagnetPoems$PoemReader" "MagnetPoems$PoemReader" "line" "I") ∈ WG := WG_t1 (List.mem_of_getElem? (i := 120) (by decide +kernel)) rfl
theorem wd_197 : (Cond.soleField "MagnetPoems$PoemReader" "line") ∈ WG := WG_t1 (List.mem_of_getElem? (i := 121) (by decide +kernel)) rfl
theorem wd_198 : (Cond.lays "MagnetPoems$PoemReader" "MagnetPoems$PoemReader" "wordsOnLine" "I") ∈ WG := WG_t1 (List.mem_of_getElem? (i := 122) (by decide +kernel)) rfl
theorem wd_199 : (Cond.soleField "MagnetPoems$PoemReader" "wordsOnLine") ∈ WG := WG_t1 (List.mem_of_getElem? (i := 123) (by decide +kernel)) rfl
theorem wd_200 : (Cond.lays "MagnetPoems$PoemReader" "MagnetPoems$PoemReader" "number" "I") ∈ WG := WG_t1 (List.mem_of_getElem? (i := 124) (by decide +kernel)) rfl
theorem wd_201 : (Cond.soleField "MagnetPoems$PoemReader" "number") ∈ WG := WG_t1 (List.mem_of_getElem? (i := 125) (by decide +kernel)) rfl
theorem wd_202 : (Cond.superclass "MagnetPoems$PoemReader" "java/lang/Object") ∈ WG := WG_t1 (List.mem_of_getElem? (i := 126) (by decide +kernel)) rfl
theorem wd_203 : (Cond.arrayClass FieldType.boolean) ∈ WG := WG_t1 (List.mem_of_getElem? (i := 127) (by decide +kernel)) rfl
theorem wd_204 : (Cond.fieldLink "MagnetPoems" 10 "MagnetPoems" "board" "LMagnetPoems$Board;") ∈ WG := WG_t1 (List.mem_of_getElem? (i := 128) (by decide +kernel)) rfl
theorem wd_205 : (Cond.fieldLink "MagnetPoems" 16 "MagnetPoems" "dream" "LMagnetPoems$Board;") ∈ WG := WG_t1 (List.mem_of_getElem? (i := 129) (by decide +kernel)) rfl
theorem wd_206 : (Cond.fieldLink "MagnetPoems" 22 "MagnetPoems" "history" "LMagnetPoems$History;") ∈ WG := WG_t1 (List.mem_of_getElem? (i := 130) (by decide +kernel)) rfl
theorem wd_207 : (Cond.fieldLink "MagnetPoems" 26 "MagnetPoems" "slots" "[LMagnetPoems$Board;") ∈ WG := WG_t1 (List.mem_of_getElem? (i := 131) (by decide +kernel)) rfl
theorem wd_208 : (Cond.fieldLink "MagnetPoems" 30 "MagnetPoems" "kept" "[Z") ∈ WG := WG_t1 (List.mem_of_getElem? (i := 132) (by decide +kernel)) rfl
theorem wd_209 : (Cond.fieldLink "MagnetPoems" 34 "MagnetPoems" "buffer" "[I") ∈ WG := WG_t1 (List.mem_of_getElem? (i := 133) (by decide +kernel)) rfl
theorem wd_210 : (Cond.fieldLink "MagnetPoems" 183 "MagnetPoems" "bufferLength" "I") ∈ WG := WG_t1 (List.mem_of_getElem? (i := 134) (by decide +kernel)) rfl
theorem wd_211 : (Cond.fieldLink "MagnetPoems" 41 "MagnetPoems" "reader" "LMagnetPoems$PoemReader;") ∈ WG := WG_t1 (List.mem_of_getElem? (i := 135) (by decide +kernel)) rfl
theorem wd_212 : (Cond.laysFinal "MagnetPoems" "MagnetPoems" "board" "LMagnetPoems$Board;") ∈ WG := WG_t1 (List.mem_of_getElem? (i := 136) (by decide +kernel)) rfl
theorem wd_213 : (Cond.soleField "MagnetPoems" "board") ∈ WG := WG_t1 (List.mem_of_getElem? (i := 137) (by decide +kernel)) rfl
theorem wd_214 : (Cond.laysFinal "MagnetPoems" "MagnetPoems" "dream" "LMagnetPoems$Board;") ∈ WG := WG_t1 (List.mem_of_getElem? (i := 138) (by decide +kernel)) rfl
theorem wd_215 : (Cond.soleField "MagnetPoems" "dream") ∈ WG := WG_t1 (List.mem_of_getElem? (i := 139) (by decide +kernel)) rfl
theorem wd_216 : (Cond.laysFinal "MagnetPoems" "MagnetPoems" "history" "LMagnetPoems$History;") ∈ WG := WG_t1 (List.mem_of_getElem? (i := 140) (by decide +kernel)) rfl
theorem wd_217 : (Cond.soleField "MagnetPoems" "history") ∈ WG := WG_t1 (List.mem_of_getElem? (i := 141) (by decide +kernel)) rfl
theorem wd_218 : (Cond.laysFinal "MagnetPoems" "MagnetPoems" "slots" "[LMagnetPoems$Board;") ∈ WG := WG_t1 (List.mem_of_getElem? (i := 142) (by decide +kernel)) rfl
theorem wd_219 : (Cond.soleField "MagnetPoems" "slots") ∈ WG := WG_t1 (List.mem_of_getElem? (i := 143) (by decide +kernel)) rfl
theorem wd_220 : (Cond.laysFinal "MagnetPoems" "MagnetPoems" "kept" "[Z") ∈ WG := WG_t1 (List.mem_of_getElem? (i := 144) (by decide +kernel)) rfl
theorem wd_221 : (Cond.soleField "MagnetPoems" "kept") ∈ WG := WG_t1 (List.mem_of_getElem? (i := 145) (by decide +kernel)) rfl
theorem wd_222 : (Cond.laysFinal "MagnetPoems" "MagnetPoems" "buffer" "[I") ∈ WG := WG_t1 (List.mem_of_getElem? (i := 146) (by decide +kernel)) rfl
theorem wd_223 : (Cond.soleField "MagnetPoems" "buffer") ∈ WG := WG_t1 (List.mem_of_getElem? (i := 147) (by decide +kernel)) rfl
theorem wd_224 : (Cond.lays "MagnetPoems" "MagnetPoems" "bufferLength" "I") ∈ WG := WG_t1 (List.mem_of_getElem? (i := 148) (by decide +kernel)) rfl
theorem wd_225 : (Cond.soleField "MagnetPoems" "bufferLength") ∈ WG := WG_t1 (List.mem_of_getElem? (i := 149) (by decide +kernel)) rfl
theorem wd_226 : (Cond.laysFinal "MagnetPoems" "MagnetPoems" "reader" "LMagnetPoems$PoemReader;") ∈ WG := WG_t1 (List.mem_of_getElem? (i := 150) (by decide +kernel)) rfl
theorem wd_227 : (Cond.soleField "MagnetPoems" "reader") ∈ WG := WG_t1 (List.mem_of_getElem? (i := 151) (by decide +kernel)) rfl
theorem wd_228 : (Cond.superclass "MagnetPoems" "java/lang/Object") ∈ WG := WG_t1 (List.mem_of_getElem? (i := 152) (by decide +kernel)) rfl
theorem wd_229 : (Cond.methodLink "MagnetPoemsLaw" 129 yX3_clearBuffer) ∈ WG := WG_t1 (List.mem_of_getElem? (i := 153) (by decide +kernel)) rfl
theorem wd_230 : (Cond.instanceMethod yX3_clearBuffer) ∈ WG := WG_t1 (List.mem_of_getElem? (i := 154) (by decide +kernel)) rfl
theorem wd_231 : (Cond.selects "MagnetPoems" yX3_clearBuffer yX3_clearBuffer) ∈ WG := WG_t1 (List.mem_of_getElem? (i := 155) (by decide +kernel)) rfl
theorem wd_232 : (Cond.code yX3_clearBuffer prog_1_method_11_code 2 (Option.some FieldType.int)) ∈ WG := WG_t1 (List.mem_of_getElem? (i := 156) (rfl)) rfl
theorem wd_233 : (Cond.methodLink "MagnetPoemsLaw" 133 yX3_firstError) ∈ WG := WG_t1 (List.mem_of_getElem? (i := 157) (by decide +kernel)) rfl
theorem wd_234 : (Cond.instanceMethod yX3_firstError) ∈ WG := WG_t1 (List.mem_of_getElem? (i := 158) (by decide +kernel)) rfl
theorem wd_235 : (Cond.selects "MagnetPoems" yX3_firstError yX3_firstError) ∈ WG := WG_t1 (List.mem_of_getElem? (i := 159) (by decide +kernel)) rfl
theorem wd_236 : (Cond.code yX3_firstError prog_1_method_12_code 1 (Option.some FieldType.int)) ∈ WG := WG_t1 (List.mem_of_getElem? (i := 160) (rfl)) rfl
theorem wd_237 : (Cond.methodLink "MagnetPoems" 191 yX3_readBuffer) ∈ WG := WG_t1 (List.mem_of_getElem? (i := 161) (by decide +kernel)) rfl
theorem wd_239 : (Cond.instanceMethod yX3_readBuffer) ∈ WG := WG_t1 (List.mem_of_getElem? (i := 163) (by decide +kernel)) rfl
theorem wd_240 : (Cond.code yX3_readBuffer prog_1_method_36_code 2 (Option.some FieldType.int)) ∈ WG := WG_t1 (List.mem_of_getElem? (i := 164) (rfl)) rfl
theorem wd_241 : (Cond.methodLink "MagnetPoems" 307 yX2_restart) ∈ WG := WG_t1 (List.mem_of_getElem? (i := 165) (by decide +kernel)) rfl
theorem wd_242 : (Cond.instanceMethod yX2_restart) ∈ WG := WG_t1 (List.mem_of_getElem? (i := 166) (by decide +kernel)) rfl
theorem wd_243 : (Cond.selects "MagnetPoems$PoemReader" yX2_restart yX2_restart) ∈ WG := WG_t1 (List.mem_of_getElem? (i := 167) (by decide +kernel)) rfl
theorem wd_244 : (Cond.code yX2_restart prog_4_method_2_code 2 (Option.none : Option FieldType)) ∈ WG := WG_t1 (List.mem_of_getElem? (i := 168) (rfl)) rfl
theorem wd_245 : (Cond.methodLink "MagnetPoems" 310 yX2_takes) ∈ WG := WG_t1 (List.mem_of_getElem? (i := 169) (by decide +kernel)) rfl
theorem wd_246 : (Cond.instanceMethod yX2_takes) ∈ WG := WG_t1 (List.mem_of_getElem? (i := 170) (by decide +kernel)) rfl
theorem wd_247 : (Cond.selects "MagnetPoems$PoemReader" yX2_takes yX2_takes) ∈ WG := WG_t1 (List.mem_of_getElem? (i := 171) (by decide +kernel)) rfl
theorem wd_248 : (Cond.code yX2_takes prog_4_method_5_code 2 (Option.some FieldType.boolean)) ∈ WG := WG_t1 (List.mem_of_getElem? (i := 172) (rfl)) rfl
theorem wd_249 : (Cond.methodLink "MagnetPoems$PoemReader" 39 yX2_takesDigit) ∈ WG := WG_t1 (List.mem_of_getElem? (i := 173) (by decide +kernel)) rfl
theorem wd_251 : (Cond.instanceMethod yX2_takesDigit) ∈ WG := WG_t1 (List.mem_of_getElem? (i := 175) (by decide +kernel)) rfl
theorem wd_252 : (Cond.code yX2_takesDigit prog_4_method_7_code 4 (Option.some FieldType.boolean)) ∈ WG := WG_t1 (List.mem_of_getElem? (i := 176) (rfl)) rfl
theorem wd_253 : (Cond.methodLink "MagnetPoems$PoemReader" 58 yX2_canBegin) ∈ WG := WG_t1 (List.mem_of_getElem? (i := 177) (by decide +kernel)) rfl
theorem wd_255 : (Cond.instanceMethod yX2_canBegin) ∈ WG := WG_t1 (List.mem_of_getElem? (i := 179) (by decide +kernel)) rfl
theorem wd_256 : (Cond.code yX2_canBegin prog_4_method_8_code 4 (Option.some FieldType.boolean)) ∈ WG := WG_t1 (List.mem_of_getElem? (i := 180) (rfl)) rfl
theorem wd_257 : (Cond.methodLink "MagnetPoems$PoemReader" 47 yX2_isFree) ∈ WG := WG_t1 (List.mem_of_getElem? (i := 181) (by decide +kernel)) rfl
theorem wd_259 : (Cond.instanceMethod yX2_isFree) ∈ WG := WG_t1 (List.mem_of_getElem? (i := 183) (by decide +kernel)) rfl
theorem wd_260 : (Cond.code yX2_isFree prog_4_method_9_code 2 (Option.some FieldType.boolean)) ∈ WG := WG_t1 (List.mem_of_getElem? (i := 184) (rfl)) rfl
theorem wd_261 : (Cond.methodLink "MagnetPoems$PoemReader" 43 yX2_closesNumber) ∈ WG := WG_t1 (List.mem_of_getElem? (i := 185) (by decide +kernel)) rfl
theorem wd_262 : (Cond.instanceMethod yX2_closesNumber) ∈ WG := WG_t1 (List.mem_of_getElem? (i := 186) (by decide +kernel)) rfl
theorem wd_263 : (Cond.selects "MagnetPoems$PoemReader" yX2_closesNumber yX2_closesNumber) ∈ WG := WG_t1 (List.mem_of_getElem? (i := 187) (by decide +kernel)) rfl
theorem wd_264 : (Cond.code yX2_closesNumber prog_4_method_6_code 1 (Option.some FieldType.boolean)) ∈ WG := WG_t1 (List.mem_of_getElem? (i := 188) (rfl)) rfl
theorem wd_265 : (Cond.methodLink "MagnetPoems$PoemReader" 50 yX2_setTold) ∈ WG := WG_t1 (List.mem_of_getElem? (i := 189) (by decide +kernel)) rfl
theorem wd_267 : (Cond.instanceMethod yX2_setTold) ∈ WG := WG_t1 (List.mem_of_getElem? (i := 191) (by decide +kernel)) rfl
theorem wd_268 : (Cond.code yX2_setTold prog_4_method_10_code 2 (Option.none : Option FieldType)) ∈ WG := WG_t1 (List.mem_of_getElem? (i := 192) (rfl)) rfl
theorem wd_270 : (Cond.methodLink "MagnetPoemsLaw" 177 yX3_prey) ∈ WG := WG_t1 (List.mem_of_getElem? (i := 194) (by decide +kernel)) rfl
theorem wd_271 : (Cond.instanceMethod yX3_prey) ∈ WG := WG_t1 (List.mem_of_getElem? (i := 195) (by decide +kernel)) rfl
theorem wd_272 : (Cond.selects "MagnetPoems" yX3_prey yX3_prey) ∈ WG := WG_t1 (List.mem_of_getElem? (i := 196) (by decide +kernel)) rfl
theorem wd_273 : (Cond.code yX3_prey prog_1_method_26_code 1 (Option.some FieldType.int)) ∈ WG := WG_t1 (List.mem_of_getElem? (i := 197) (rfl)) rfl
theorem wd_274 : (Cond.methodLink "MagnetPoems" 259 yX0_nextPrey) ∈ WG := WG_t1 (List.mem_of_getElem? (i := 198) (by decide +kernel)) rfl
theorem wd_275 : (Cond.instanceMethod yX0_nextPrey) ∈ WG := WG_t1 (List.mem_of_getElem? (i := 199) (by decide +kernel)) rfl
theorem wd_276 : (Cond.selects "MagnetPoems$Board" yX0_nextPrey yX0_nextPrey) ∈ WG := WG_t1 (List.mem_of_getElem? (i := 200) (by decide +kernel)) rfl
theorem wd_277 : (Cond.code yX0_nextPrey prog_2_method_33_code 2 (Option.some FieldType.int)) ∈ WG := WG_t1 (List.mem_of_getElem? (i := 201) (rfl)) rfl
theorem wd_278 : (Cond.methodLink "MagnetPoems$Board" 133 yX0_doorOfThief) ∈ WG := WG_t1 (List.mem_of_getElem? (i := 202) (by decide +kernel)) rfl
theorem wd_280 : (Cond.instanceMethod yX0_doorOfThief) ∈ WG := WG_t1 (List.mem_of_getElem? (i := 204) (by decide +kernel)) rfl
theorem wd_281 : (Cond.code yX0_doorOfThief prog_2_method_34_code 5 (Option.some FieldType.int)) ∈ WG := WG_t1 (List.mem_of_getElem? (i := 205) (rfl)) rfl
theorem wd_282 : (Cond.methodLink "MagnetPoems$Board" 147 yX0_wordsOfDoor) ∈ WG := WG_t1 (List.mem_of_getElem? (i := 206) (by decide +kernel)) rfl
theorem wd_283 : (Cond.instanceMethod yX0_wordsOfDoor) ∈ WG := WG_t1 (List.mem_of_getElem? (i := 207) (by decide +kernel)) rfl
theorem wd_284 : (Cond.selects "MagnetPoems$Board" yX0_wordsOfDoor yX0_wordsOfDoor) ∈ WG := WG_t1 (List.mem_of_getElem? (i := 208) (by decide +kernel)) rfl
theorem wd_285 : (Cond.code yX0_wordsOfDoor prog_2_method_11_code 4 (Option.some FieldType.int)) ∈ WG := WG_t1 (List.mem_of_getElem? (i := 209) (rfl)) rfl
theorem wd_287 : (Cond.static yX3_lineNumber) ∈ WG := WG_t1 (List.mem_of_getElem? (i := 211) (by decide +kernel)) rfl
theorem wd_288 : (Cond.code yX3_lineNumber prog_1_method_53_code 2 (Option.some FieldType.int)) ∈ WG := WG_t1 (List.mem_of_getElem? (i := 212) (rfl)) rfl
theorem wd_290 : (Cond.static yX3_cell) ∈ WG := WG_t1 (List.mem_of_getElem? (i := 214) (by decide +kernel)) rfl
theorem wd_291 : (Cond.code yX3_cell prog_1_method_55_code 2 (Option.some FieldType.int)) ∈ WG := WG_t1 (List.mem_of_getElem? (i := 215) (rfl)) rfl
theorem wd_292 : (Cond.methodLink "MagnetPoems$Board" 120 yX0_worthOfDoor) ∈ WG := WG_t1 (List.mem_of_getElem? (i := 216) (by decide +kernel)) rfl
theorem wd_293 : (Cond.instanceMethod yX0_worthOfDoor) ∈ WG := WG_t1 (List.mem_of_getElem? (i := 217) (by decide +kernel)) rfl
theorem wd_294 : (Cond.selects "MagnetPoems$Board" yX0_worthOfDoor yX0_worthOfDoor) ∈ WG := WG_t1 (List.mem_of_getElem? (i := 218) (by decide +kernel)) rfl
theorem wd_295 : (Cond.code yX0_worthOfDoor prog_2_method_23_code 4 (Option.some FieldType.int)) ∈ WG := WG_t1 (List.mem_of_getElem? (i := 219) (rfl)) rfl
theorem wd_296 : (Cond.methodLink "MagnetPoems$Board" 114 yX0_rhymesOfDoor) ∈ WG := WG_t1 (List.mem_of_getElem? (i := 220) (by decide +kernel)) rfl
theorem wd_297 : (Cond.instanceMethod yX0_rhymesOfDoor) ∈ WG := WG_t1 (List.mem_of_getElem? (i := 221) (by decide +kernel)) rfl
theorem wd_298 : (Cond.selects "MagnetPoems$Board" yX0_rhymesOfDoor yX0_rhymesOfDoor) ∈ WG := WG_t1 (List.mem_of_getElem? (i := 222) (by decide +kernel)) rfl
theorem wd_299 : (Cond.code yX0_rhymesOfDoor prog_2_method_22_code 6 (Option.some FieldType.int)) ∈ WG := WG_t1 (List.mem_of_getElem? (i := 223) (rfl)) rfl
theorem wd_300 : (Cond.methodLink "MagnetPoems$Board" 111 yX0_endingOn) ∈ WG := WG_t1 (List.mem_of_getElem? (i := 224) (by decide +kernel)) rfl
theorem wd_301 : (Cond.instanceMethod yX0_endingOn) ∈ WG := WG_t1 (List.mem_of_getElem? (i := 225) (by decide +kernel)) rfl
theorem wd_302 : (Cond.selects "MagnetPoems$Board" yX0_endingOn yX0_endingOn) ∈ WG := WG_t1 (List.mem_of_getElem? (i := 226) (by decide +kernel)) rfl
theorem wd_303 : (Cond.code yX0_endingOn prog_2_method_20_code 5 (Option.some FieldType.int)) ∈ WG := WG_t1 (List.mem_of_getElem? (i := 227) (rfl)) rfl
theorem wd_304 : (Cond.methodLink "MagnetPoems$Board" 68 yX0_wordAt) ∈ WG := WG_t1 (List.mem_of_getElem? (i := 228) (by decide +kernel)) rfl
theorem wd_305 : (Cond.instanceMethod yX0_wordAt) ∈ WG := WG_t1 (List.mem_of_getElem? (i := 229) (by decide +kernel)) rfl
theorem wd_306 : (Cond.selects "MagnetPoems$Board" yX0_wordAt yX0_wordAt) ∈ WG := WG_t1 (List.mem_of_getElem? (i := 230) (by decide +kernel)) rfl
theorem wd_307 : (Cond.code yX0_wordAt prog_2_method_6_code 5 (Option.some FieldType.int)) ∈ WG := WG_t1 (List.mem_of_getElem? (i := 231) (rfl)) rfl
theorem wd_309 : (Cond.static yX3_endingOf) ∈ WG := WG_t1 (List.mem_of_getElem? (i := 233) (by decide +kernel)) rfl
theorem wd_310 : (Cond.code yX3_endingOf prog_1_method_50_code 1 (Option.some FieldType.int)) ∈ WG := WG_t1 (List.mem_of_getElem? (i := 234) (rfl)) rfl
theorem wd_311 : (Cond.methodLink "MagnetPoems$Board" 117 yX0_worthOfLine) ∈ WG := WG_t1 (List.mem_of_getElem? (i := 235) (by decide +kernel)) rfl
theorem wd_312 : (Cond.instanceMethod yX0_worthOfLine) ∈ WG := WG_t1 (List.mem_of_getElem? (i := 236) (by decide +kernel)) rfl
theorem wd_313 : (Cond.selects "MagnetPoems$Board" yX0_worthOfLine yX0_worthOfLine) ∈ WG := WG_t1 (List.mem_of_getElem? (i := 237) (by decide +kernel)) rfl
theorem wd_314 : (Cond.code yX0_worthOfLine prog_2_method_19_code 9 (Option.some FieldType.int)) ∈ WG := WG_t1 (List.mem_of_getElem? (i := 238) (rfl)) rfl
theorem wd_316 : (Cond.static yX3_beatsOf) ∈ WG := WG_t2 (List.mem_of_getElem? (i := 0) (by decide +kernel)) rfl
theorem wd_317 : (Cond.code yX3_beatsOf prog_1_method_51_code 1 (Option.some FieldType.int)) ∈ WG := WG_t2 (List.mem_of_getElem? (i := 1) (rfl)) rfl
theorem wd_319 : (Cond.static yX3_kindOf) ∈ WG := WG_t2 (List.mem_of_getElem? (i := 3) (by decide +kernel)) rfl
theorem wd_320 : (Cond.code yX3_kindOf prog_1_method_49_code 1 (Option.some FieldType.int)) ∈ WG := WG_t2 (List.mem_of_getElem? (i := 4) (rfl)) rfl
theorem wd_321 : (Cond.methodLink "MagnetPoems$Board" 140 yX0_preyOn) ∈ WG := WG_t2 (List.mem_of_getElem? (i := 5) (by decide +kernel)) rfl
theorem wd_323 : (Cond.instanceMethod yX0_preyOn) ∈ WG := WG_t2 (List.mem_of_getElem? (i := 7) (by decide +kernel)) rfl
theorem wd_324 : (Cond.code yX0_preyOn prog_2_method_35_code 8 (Option.some FieldType.int)) ∈ WG := WG_t2 (List.mem_of_getElem? (i := 8) (rfl)) rfl
theorem wd_325 : (Cond.methodLink "MagnetPoemsLaw" 184 yX3_shownShare) ∈ WG := WG_t2 (List.mem_of_getElem? (i := 9) (by decide +kernel)) rfl
theorem wd_326 : (Cond.instanceMethod yX3_shownShare) ∈ WG := WG_t2 (List.mem_of_getElem? (i := 10) (by decide +kernel)) rfl
theorem wd_327 : (Cond.selects "MagnetPoems" yX3_shownShare yX3_shownShare) ∈ WG := WG_t2 (List.mem_of_getElem? (i := 11) (by decide +kernel)) rfl
theorem wd_328 : (Cond.code yX3_shownShare prog_1_method_28_code 1 (Option.some FieldType.double)) ∈ WG := WG_t2 (List.mem_of_getElem? (i := 12) (rfl)) rfl
theorem wd_329 : (Cond.methodLink "MagnetPoems" 265 yX3_share) ∈ WG := WG_t2 (List.mem_of_getElem? (i := 13) (by decide +kernel)) rfl
theorem wd_331 : (Cond.instanceMethod yX3_share) ∈ WG := WG_t2 (List.mem_of_getElem? (i := 15) (by decide +kernel)) rfl
theorem wd_332 : (Cond.code yX3_share prog_1_method_33_code 1 (Option.some FieldType.double)) ∈ WG := WG_t2 (List.mem_of_getElem? (i := 16) (rfl)) rfl
theorem wd_333 : (Cond.methodLink "MagnetPoems" 218 yX0_bagToldByWords) ∈ WG := WG_t2 (List.mem_of_getElem? (i := 17) (by decide +kernel)) rfl
theorem wd_334 : (Cond.instanceMethod yX0_bagToldByWords) ∈ WG := WG_t2 (List.mem_of_getElem? (i := 18) (by decide +kernel)) rfl
theorem wd_335 : (Cond.selects "MagnetPoems$Board" yX0_bagToldByWords yX0_bagToldByWords) ∈ WG := WG_t2 (List.mem_of_getElem? (i := 19) (by decide +kernel)) rfl
theorem wd_336 : (Cond.code yX0_bagToldByWords prog_2_method_9_code 3 (Option.some FieldType.int)) ∈ WG := WG_t2 (List.mem_of_getElem? (i := 20) (rfl)) rfl
theorem wd_337 : (Cond.constantDouble "MagnetPoems" 293 4630826316843712512) ∈ WG := WG_t2 (List.mem_of_getElem? (i := 21) (by decide +kernel)) rfl
theorem wd_338 : (Cond.methodLink "MagnetPoemsLaw" 189 yX3_digest) ∈ WG := WG_t2 (List.mem_of_getElem? (i := 22) (by decide +kernel)) rfl
theorem wd_339 : (Cond.instanceMethod yX3_digest) ∈ WG := WG_t2 (List.mem_of_getElem? (i := 23) (by decide +kernel)) rfl
theorem wd_340 : (Cond.selects "MagnetPoems" yX3_digest yX3_digest) ∈ WG := WG_t2 (List.mem_of_getElem? (i := 24) (by decide +kernel)) rfl
theorem wd_341 : (Cond.code yX3_digest prog_1_method_29_code 5 (Option.some FieldType.long)) ∈ WG := WG_t2 (List.mem_of_getElem? (i := 25) (rfl)) rfl
theorem wd_342 : (Cond.methodLink "MagnetPoems" 215 yX0_copyFrom) ∈ WG := WG_t2 (List.mem_of_getElem? (i := 26) (by decide +kernel)) rfl
theorem wd_343 : (Cond.instanceMethod yX0_copyFrom) ∈ WG := WG_t2 (List.mem_of_getElem? (i := 27) (by decide +kernel)) rfl
theorem wd_344 : (Cond.selects "MagnetPoems$Board" yX0_copyFrom yX0_copyFrom) ∈ WG := WG_t2 (List.mem_of_getElem? (i := 28) (by decide +kernel)) rfl
theorem wd_345 : (Cond.code yX0_copyFrom prog_2_method_2_code 2 (Option.none : Option FieldType)) ∈ WG := WG_t2 (List.mem_of_getElem? (i := 29) (rfl)) rfl
theorem wd_347 : (Cond.static yX3_copyRow) ∈ WG := WG_t2 (List.mem_of_getElem? (i := 31) (by decide +kernel)) rfl
theorem wd_348 : (Cond.code yX3_copyRow prog_1_method_57_code 3 (Option.none : Option FieldType)) ∈ WG := WG_t2 (List.mem_of_getElem? (i := 32) (rfl)) rfl
theorem wd_349 : (Cond.methodLink "MagnetPoems" 162 yX0_passNights) ∈ WG := WG_t2 (List.mem_of_getElem? (i := 33) (by decide +kernel)) rfl
theorem wd_350 : (Cond.instanceMethod yX0_passNights) ∈ WG := WG_t2 (List.mem_of_getElem? (i := 34) (by decide +kernel)) rfl
theorem wd_351 : (Cond.selects "MagnetPoems$Board" yX0_passNights yX0_passNights) ∈ WG := WG_t2 (List.mem_of_getElem? (i := 35) (by decide +kernel)) rfl
theorem wd_352 : (Cond.code yX0_passNights prog_2_method_32_code 5 (Option.some FieldType.int)) ∈ WG := WG_t2 (List.mem_of_getElem? (i := 36) (rfl)) rfl
theorem wd_353 : (Cond.methodLink "MagnetPoems$Board" 137 yX0_watchOneNightFewer) ∈ WG := WG_t2 (List.mem_of_getElem? (i := 37) (by decide +kernel)) rfl
theorem wd_355 : (Cond.instanceMethod yX0_watchOneNightFewer) ∈ WG := WG_t2 (List.mem_of_getElem? (i := 39) (by decide +kernel)) rfl
theorem wd_356 : (Cond.code yX0_watchOneNightFewer prog_2_method_36_code 2 (Option.none : Option FieldType)) ∈ WG := WG_t2 (List.mem_of_getElem? (i := 40) (rfl)) rfl
theorem wd_357 : (Cond.methodLink "MagnetPoems$Board" 143 yX0_steal) ∈ WG := WG_t2 (List.mem_of_getElem? (i := 41) (by decide +kernel)) rfl
theorem wd_359 : (Cond.instanceMethod yX0_steal) ∈ WG := WG_t2 (List.mem_of_getElem? (i := 43) (by decide +kernel)) rfl
theorem wd_360 : (Cond.code yX0_steal prog_2_method_37_code 3 (Option.none : Option FieldType)) ∈ WG := WG_t2 (List.mem_of_getElem? (i := 44) (rfl)) rfl
theorem wd_361 : (Cond.methodLink "MagnetPoems$Board" 87 yX0_removeWord) ∈ WG := WG_t2 (List.mem_of_getElem? (i := 45) (by decide +kernel)) rfl
theorem wd_362 : (Cond.instanceMethod yX0_removeWord) ∈ WG := WG_t2 (List.mem_of_getElem? (i := 46) (by decide +kernel)) rfl
theorem wd_363 : (Cond.selects "MagnetPoems$Board" yX0_removeWord yX0_removeWord) ∈ WG := WG_t2 (List.mem_of_getElem? (i := 47) (by decide +kernel)) rfl
theorem wd_364 : (Cond.code yX0_removeWord prog_2_method_13_code 6 (Option.none : Option FieldType)) ∈ WG := WG_t2 (List.mem_of_getElem? (i := 48) (rfl)) rfl
theorem wd_365 : (Cond.methodLink "MagnetPoems$Board" 83 yX0_placeOf) ∈ WG := WG_t2 (List.mem_of_getElem? (i := 49) (by decide +kernel)) rfl
theorem wd_366 : (Cond.instanceMethod yX0_placeOf) ∈ WG := WG_t2 (List.mem_of_getElem? (i := 50) (by decide +kernel)) rfl
theorem wd_367 : (Cond.selects "MagnetPoems$Board" yX0_placeOf yX0_placeOf) ∈ WG := WG_t2 (List.mem_of_getElem? (i := 51) (by decide +kernel)) rfl
theorem wd_368 : (Cond.code yX0_placeOf prog_2_method_8_code 4 (Option.some FieldType.int)) ∈ WG := WG_t2 (List.mem_of_getElem? (i := 52) (rfl)) rfl
theorem wd_369 : (Cond.methodLink "MagnetPoems$Board" 75 yX0_setWordAt) ∈ WG := WG_t2 (List.mem_of_getElem? (i := 53) (by decide +kernel)) rfl
theorem wd_370 : (Cond.instanceMethod yX0_setWordAt) ∈ WG := WG_t2 (List.mem_of_getElem? (i := 54) (by decide +kernel)) rfl
theorem wd_371 : (Cond.selects "MagnetPoems$Board" yX0_setWordAt yX0_setWordAt) ∈ WG := WG_t2 (List.mem_of_getElem? (i := 55) (by decide +kernel)) rfl
theorem wd_372 : (Cond.code yX0_setWordAt prog_2_method_7_code 4 (Option.none : Option FieldType)) ∈ WG := WG_t2 (List.mem_of_getElem? (i := 56) (rfl)) rfl
theorem wd_373 : (Cond.methodLink "MagnetPoems$Board" 79 yX0_endLoansOf) ∈ WG := WG_t2 (List.mem_of_getElem? (i := 57) (by decide +kernel)) rfl
theorem wd_375 : (Cond.instanceMethod yX0_endLoansOf) ∈ WG := WG_t2 (List.mem_of_getElem? (i := 59) (by decide +kernel)) rfl
theorem wd_376 : (Cond.code yX0_endLoansOf prog_2_method_31_code 3 (Option.none : Option FieldType)) ∈ WG := WG_t2 (List.mem_of_getElem? (i := 60) (rfl)) rfl
theorem wd_377 : (Cond.methodLink "MagnetPoems$Board" 130 yX0_endLoan) ∈ WG := WG_t2 (List.mem_of_getElem? (i := 61) (by decide +kernel)) rfl
theorem wd_378 : (Cond.instanceMethod yX0_endLoan) ∈ WG := WG_t2 (List.mem_of_getElem? (i := 62) (by decide +kernel)) rfl
theorem wd_379 : (Cond.selects "MagnetPoems$Board" yX0_endLoan yX0_endLoan) ∈ WG := WG_t2 (List.mem_of_getElem? (i := 63) (by decide +kernel)) rfl
theorem wd_380 : (Cond.code yX0_endLoan prog_2_method_30_code 3 (Option.none : Option FieldType)) ∈ WG := WG_t2 (List.mem_of_getElem? (i := 64) (rfl)) rfl
theorem wd_381 : (Cond.constantLong "MagnetPoems" 269 3391) ∈ WG := WG_t2 (List.mem_of_getElem? (i := 65) (by decide +kernel)) rfl
theorem wd_382 : (Cond.methodLink "MagnetPoems" 253 yX3_numberOf) ∈ WG := WG_t2 (List.mem_of_getElem? (i := 66) (by decide +kernel)) rfl
theorem wd_384 : (Cond.instanceMethod yX3_numberOf) ∈ WG := WG_t2 (List.mem_of_getElem? (i := 68) (by decide +kernel)) rfl
theorem wd_385 : (Cond.code yX3_numberOf prog_1_method_34_code 2 (Option.some FieldType.int)) ∈ WG := WG_t2 (List.mem_of_getElem? (i := 69) (rfl)) rfl
theorem wd_386 : (Cond.methodLink "MagnetPoems" 295 yX0_bagToldByLines) ∈ WG := WG_t2 (List.mem_of_getElem? (i := 70) (by decide +kernel)) rfl
theorem wd_387 : (Cond.instanceMethod yX0_bagToldByLines) ∈ WG := WG_t2 (List.mem_of_getElem? (i := 71) (by decide +kernel)) rfl
theorem wd_388 : (Cond.selects "MagnetPoems$Board" yX0_bagToldByLines yX0_bagToldByLines) ∈ WG := WG_t2 (List.mem_of_getElem? (i := 72) (by decide +kernel)) rfl
theorem wd_389 : (Cond.code yX0_bagToldByLines prog_2_method_10_code 3 (Option.some FieldType.int)) ∈ WG := WG_t2 (List.mem_of_getElem? (i := 73) (rfl)) rfl
theorem wd_390 : (Cond.methodLink "MagnetPoems" 301 yX0_loans) ∈ WG := WG_t2 (List.mem_of_getElem? (i := 74) (by decide +kernel)) rfl
theorem wd_391 : (Cond.instanceMethod yX0_loans) ∈ WG := WG_t2 (List.mem_of_getElem? (i := 75) (by decide +kernel)) rfl
theorem wd_392 : (Cond.selects "MagnetPoems$Board" yX0_loans yX0_loans) ∈ WG := WG_t2 (List.mem_of_getElem? (i := 76) (by decide +kernel)) rfl
theorem wd_393 : (Cond.code yX0_loans prog_2_method_28_code 3 (Option.some FieldType.int)) ∈ WG := WG_t2 (List.mem_of_getElem? (i := 77) (rfl)) rfl
theorem wd_394 : (Cond.methodLink "MagnetPoems" 304 yX0_worthOfAll) ∈ WG := WG_t2 (List.mem_of_getElem? (i := 78) (by decide +kernel)) rfl
theorem wd_395 : (Cond.instanceMethod yX0_worthOfAll) ∈ WG := WG_t2 (List.mem_of_getElem? (i := 79) (by decide +kernel)) rfl
theorem wd_396 : (Cond.selects "MagnetPoems$Board" yX0_worthOfAll yX0_worthOfAll) ∈ WG := WG_t2 (List.mem_of_getElem? (i := 80) (by decide +kernel)) rfl
theorem wd_397 : (Cond.code yX0_worthOfAll prog_2_method_24_code 3 (Option.some FieldType.int)) ∈ WG := WG_t2 (List.mem_of_getElem? (i := 81) (rfl)) rfl
theorem wd_398 : (Cond.methodLink "MagnetPoems" 271 yX3_mix) ∈ WG := WG_t2 (List.mem_of_getElem? (i := 82) (by decide +kernel)) rfl
theorem wd_399 : (Cond.static yX3_mix) ∈ WG := WG_t2 (List.mem_of_getElem? (i := 83) (by decide +kernel)) rfl
theorem wd_400 : (Cond.code yX3_mix prog_1_method_30_code 4 (Option.some FieldType.long)) ∈ WG := WG_t2 (List.mem_of_getElem? (i := 84) (rfl)) rfl
theorem wd_401 : (Cond.constantLong "MagnetPoems" 283 31) ∈ WG := WG_t2 (List.mem_of_getElem? (i := 85) (by decide +kernel)) rfl
theorem wd_402 : (Cond.methodLink "MagnetPoems" 175 yX0_settingValue) ∈ WG := WG_t2 (List.mem_of_getElem? (i := 86) (by decide +kernel)) rfl
theorem wd_403 : (Cond.instanceMethod yX0_settingValue) ∈ WG := WG_t2 (List.mem_of_getElem? (i := 87) (by decide +kernel)) rfl
theorem wd_404 : (Cond.selects "MagnetPoems$Board" yX0_settingValue yX0_settingValue) ∈ WG := WG_t2 (List.mem_of_getElem? (i := 88) (by decide +kernel)) rfl
theorem wd_405 : (Cond.code yX0_settingValue prog_2_method_38_code 2 (Option.some FieldType.int)) ∈ WG := WG_t2 (List.mem_of_getElem? (i := 89) (rfl)) rfl
theorem wd_406 : (Cond.methodLink "MagnetPoems" 233 yX0_wordProperty) ∈ WG := WG_t2 (List.mem_of_getElem? (i := 90) (by decide +kernel)) rfl
theorem wd_407 : (Cond.instanceMethod yX0_wordProperty) ∈ WG := WG_t2 (List.mem_of_getElem? (i := 91) (by decide +kernel)) rfl
theorem wd_408 : (Cond.selects "MagnetPoems$Board" yX0_wordProperty yX0_wordProperty) ∈ WG := WG_t2 (List.mem_of_getElem? (i := 92) (by decide +kernel)) rfl
theorem wd_409 : (Cond.code yX0_wordProperty prog_2_method_40_code 4 (Option.some FieldType.int)) ∈ WG := WG_t2 (List.mem_of_getElem? (i := 93) (rfl)) rfl
theorem wd_410 : (Cond.methodLink "MagnetPoems" 275 yX3_mixDoor) ∈ WG := WG_t2 (List.mem_of_getElem? (i := 94) (by decide +kernel)) rfl
theorem wd_412 : (Cond.instanceMethod yX3_mixDoor) ∈ WG := WG_t2 (List.mem_of_getElem? (i := 96) (by decide +kernel)) rfl
theorem wd_413 : (Cond.code yX3_mixDoor prog_1_method_31_code 9 (Option.some FieldType.long)) ∈ WG := WG_t2 (List.mem_of_getElem? (i := 97) (rfl)) rfl
theorem wd_414 : (Cond.methodLink "MagnetPoems" 248 yX0_doorProperty) ∈ WG := WG_t2 (List.mem_of_getElem? (i := 98) (by decide +kernel)) rfl
theorem wd_415 : (Cond.instanceMethod yX0_doorProperty) ∈ WG := WG_t2 (List.mem_of_getElem? (i := 99) (by decide +kernel)) rfl
theorem wd_416 : (Cond.selects "MagnetPoems$Board" yX0_doorProperty yX0_doorProperty) ∈ WG := WG_t2 (List.mem_of_getElem? (i := 100) (by decide +kernel)) rfl
theorem wd_417 : (Cond.code yX0_doorProperty prog_2_method_42_code 3 (Option.some FieldType.int)) ∈ WG := WG_t2 (List.mem_of_getElem? (i := 101) (rfl)) rfl
theorem wd_418 : (Cond.methodLink "MagnetPoems" 72 yX3_lineNumber) ∈ WG := WG_t2 (List.mem_of_getElem? (i := 102) (by decide +kernel)) rfl
theorem wd_419 : (Cond.methodLink "MagnetPoems" 238 yX0_wordAt) ∈ WG := WG_t2 (List.mem_of_getElem? (i := 103) (by decide +kernel)) rfl
theorem wd_420 : (Cond.methodLink "MagnetPoems" 243 yX0_lineProperty) ∈ WG := WG_t2 (List.mem_of_getElem? (i := 104) (by decide +kernel)) rfl
theorem wd_421 : (Cond.instanceMethod yX0_lineProperty) ∈ WG := WG_t2 (List.mem_of_getElem? (i := 105) (by decide +kernel)) rfl
theorem wd_422 : (Cond.selects "MagnetPoems$Board" yX0_lineProperty yX0_lineProperty) ∈ WG := WG_t2 (List.mem_of_getElem? (i := 106) (by decide +kernel)) rfl
theorem wd_423 : (Cond.code yX0_lineProperty prog_2_method_41_code 3 (Option.some FieldType.int)) ∈ WG := WG_t2 (List.mem_of_getElem? (i := 107) (rfl)) rfl
theorem wd_424 : (Cond.methodLink "MagnetPoems$Board" 91 yX0_beatsOn) ∈ WG := WG_t2 (List.mem_of_getElem? (i := 108) (by decide +kernel)) rfl
theorem wd_425 : (Cond.instanceMethod yX0_beatsOn) ∈ WG := WG_t2 (List.mem_of_getElem? (i := 109) (by decide +kernel)) rfl
theorem wd_426 : (Cond.selects "MagnetPoems$Board" yX0_beatsOn yX0_beatsOn) ∈ WG := WG_t2 (List.mem_of_getElem? (i := 110) (by decide +kernel)) rfl
theorem wd_427 : (Cond.code yX0_beatsOn prog_2_method_18_code 4 (Option.some FieldType.int)) ∈ WG := WG_t2 (List.mem_of_getElem? (i := 111) (rfl)) rfl
theorem wd_429 : (Cond.static yX3_lineCode) ∈ WG := WG_t2 (List.mem_of_getElem? (i := 113) (by decide +kernel)) rfl
theorem wd_430 : (Cond.code yX3_lineCode prog_1_method_54_code 1 (Option.some FieldType.int)) ∈ WG := WG_t2 (List.mem_of_getElem? (i := 114) (rfl)) rfl
theorem wd_431 : (Cond.methodLink "MagnetPoems$Board" 127 yX0_rhymesOf) ∈ WG := WG_t2 (List.mem_of_getElem? (i := 115) (by decide +kernel)) rfl
theorem wd_432 : (Cond.instanceMethod yX0_rhymesOf) ∈ WG := WG_t2 (List.mem_of_getElem? (i := 116) (by decide +kernel)) rfl
theorem wd_433 : (Cond.selects "MagnetPoems$Board" yX0_rhymesOf yX0_rhymesOf) ∈ WG := WG_t2 (List.mem_of_getElem? (i := 117) (by decide +kernel)) rfl
theorem wd_434 : (Cond.code yX0_rhymesOf prog_2_method_21_code 7 (Option.some FieldType.int)) ∈ WG := WG_t2 (List.mem_of_getElem? (i := 118) (rfl)) rfl
theorem wd_435 : (Cond.methodLink "MagnetPoems$Board" 153 yX0_clashes) ∈ WG := WG_t2 (List.mem_of_getElem? (i := 119) (by decide +kernel)) rfl
theorem wd_437 : (Cond.instanceMethod yX0_clashes) ∈ WG := WG_t2 (List.mem_of_getElem? (i := 121) (by decide +kernel)) rfl
theorem wd_438 : (Cond.code yX0_clashes prog_2_method_17_code 3 (Option.some FieldType.boolean)) ∈ WG := WG_t2 (List.mem_of_getElem? (i := 122) (rfl)) rfl
theorem wd_440 : (Cond.static yX3_clash) ∈ WG := WG_t2 (List.mem_of_getElem? (i := 124) (by decide +kernel)) rfl
theorem wd_441 : (Cond.code yX3_clash prog_1_method_52_code 2 (Option.some FieldType.boolean)) ∈ WG := WG_t2 (List.mem_of_getElem? (i := 125) (rfl)) rfl
theorem wd_442 : (Cond.methodLink "MagnetPoems" 325 yX3_kindOf) ∈ WG := WG_t2 (List.mem_of_getElem? (i := 126) (by decide +kernel)) rfl
theorem wd_443 : (Cond.methodLink "MagnetPoems" 256 yX0_bestWordFor) ∈ WG := WG_t2 (List.mem_of_getElem? (i := 127) (by decide +kernel)) rfl
theorem wd_444 : (Cond.instanceMethod yX0_bestWordFor) ∈ WG := WG_t2 (List.mem_of_getElem? (i := 128) (by decide +kernel)) rfl
theorem wd_445 : (Cond.selects "MagnetPoems$Board" yX0_bestWordFor yX0_bestWordFor) ∈ WG := WG_t2 (List.mem_of_getElem? (i := 129) (by decide +kernel)) rfl
theorem wd_446 : (Cond.code yX0_bestWordFor prog_2_method_25_code 7 (Option.some FieldType.int)) ∈ WG := WG_t2 (List.mem_of_getElem? (i := 130) (rfl)) rfl
theorem wd_447 : (Cond.methodLink "MagnetPoems$Board" 123 yX0_refusal) ∈ WG := WG_t2 (List.mem_of_getElem? (i := 131) (by decide +kernel)) rfl
theorem wd_448 : (Cond.instanceMethod yX0_refusal) ∈ WG := WG_t2 (List.mem_of_getElem? (i := 132) (by decide +kernel)) rfl
theorem wd_449 : (Cond.selects "MagnetPoems$Board" yX0_refusal yX0_refusal) ∈ WG := WG_t2 (List.mem_of_getElem? (i := 133) (by decide +kernel)) rfl
theorem wd_450 : (Cond.code yX0_refusal prog_2_method_15_code 6 (Option.some FieldType.int)) ∈ WG := WG_t2 (List.mem_of_getElem? (i := 134) (rfl)) rfl
theorem wd_451 : (Cond.methodLink "MagnetPoems$Board" 97 yX0_wouldClash) ∈ WG := WG_t2 (List.mem_of_getElem? (i := 135) (by decide +kernel)) rfl
theorem wd_453 : (Cond.instanceMethod yX0_wouldClash) ∈ WG := WG_t2 (List.mem_of_getElem? (i := 137) (by decide +kernel)) rfl
theorem wd_454 : (Cond.code yX0_wouldClash prog_2_method_16_code 8 (Option.some FieldType.boolean)) ∈ WG := WG_t2 (List.mem_of_getElem? (i := 138) (rfl)) rfl
theorem wd_455 : (Cond.methodLink "MagnetPoems" 262 yX0_worthOfDoor) ∈ WG := WG_t2 (List.mem_of_getElem? (i := 139) (by decide +kernel)) rfl
theorem wd_456 : (Cond.methodLink "MagnetPoems" 279 yX3_bitsOf) ∈ WG := WG_t2 (List.mem_of_getElem? (i := 140) (by decide +kernel)) rfl
theorem wd_457 : (Cond.static yX3_bitsOf) ∈ WG := WG_t2 (List.mem_of_getElem? (i := 141) (by decide +kernel)) rfl
theorem wd_458 : (Cond.code yX3_bitsOf prog_1_method_32_code 6 (Option.some FieldType.long)) ∈ WG := WG_t2 (List.mem_of_getElem? (i := 142) (rfl)) rfl
theorem wd_459 : (Cond.constantLong "MagnetPoems" 285 1023) ∈ WG := WG_t2 (List.mem_of_getElem? (i := 143) (by decide +kernel)) rfl
theorem wd_460 : (Cond.constantDouble "MagnetPoems" 287 4611686018427387904) ∈ WG := WG_t2 (List.mem_of_getElem? (i := 144) (by decide +kernel)) rfl
theorem wd_461 : (Cond.constantLong "MagnetPoems" 289 4503599627370496) ∈ WG := WG_t2 (List.mem_of_getElem? (i := 145) (by decide +kernel)) rfl
theorem wd_462 : (Cond.constantDouble "MagnetPoems" 291 4841369599423283200) ∈ WG := WG_t2 (List.mem_of_getElem? (i := 146) (by decide +kernel)) rfl
theorem wd_463 : (Cond.methodLink "MagnetPoemsLaw" 93 yL_put) ∈ WG := WG_t2 (List.mem_of_getElem? (i := 147) (by decide +kernel)) rfl
theorem wd_464 : (Cond.static yL_put) ∈ WG := WG_t2 (List.mem_of_getElem? (i := 148) (by decide +kernel)) rfl
theorem wd_465 : (Cond.codeWith yL_put method_3_code 7 (Option.some FieldType.int) [(0, 14, 17, 13), (0, 14, 21, 15)]) ∈ WG := WG_t2 (List.mem_of_getElem? (i := 149) (rfl)) rfl
theorem wd_466 : (Cond.classLink "MagnetPoemsLaw" 13 "java/lang/IndexOutOfBoundsException") ∈ WG := WG_t2 (List.mem_of_getElem? (i := 150) (by decide +kernel)) rfl
theorem wd_467 : (Cond.classLink "MagnetPoemsLaw" 15 "java/lang/IllegalStateException") ∈ WG := WG_t2 (List.mem_of_getElem? (i := 151) (by decide +kernel)) rfl
theorem wd_468 : (Cond.methodLink "MagnetPoemsLaw" 7 yX3_put) ∈ WG := WG_t2 (List.mem_of_getElem? (i := 152) (by decide +kernel)) rfl
theorem wd_469 : (Cond.instanceMethod yX3_put) ∈ WG := WG_t2 (List.mem_of_getElem? (i := 153) (by decide +kernel)) rfl
theorem wd_470 : (Cond.selects "MagnetPoems" yX3_put yX3_put) ∈ WG := WG_t2 (List.mem_of_getElem? (i := 154) (by decide +kernel)) rfl
theorem wd_471 : (Cond.code yX3_put prog_1_method_2_code 7 (Option.some FieldType.int)) ∈ WG := WG_t2 (List.mem_of_getElem? (i := 155) (rfl)) rfl
theorem wd_472 : (Cond.methodLink "MagnetPoems" 45 yX3_isWord) ∈ WG := WG_t2 (List.mem_of_getElem? (i := 156) (by decide +kernel)) rfl
theorem wd_473 : (Cond.static yX3_isWord) ∈ WG := WG_t2 (List.mem_of_getElem? (i := 157) (by decide +kernel)) rfl
theorem wd_474 : (Cond.code yX3_isWord prog_1_method_41_code 1 (Option.some FieldType.boolean)) ∈ WG := WG_t2 (List.mem_of_getElem? (i := 158) (rfl)) rfl
theorem wd_475 : (Cond.methodLink "MagnetPoems" 49 yX3_isPlaceToPut) ∈ WG := WG_t2 (List.mem_of_getElem? (i := 159) (by decide +kernel)) rfl
theorem wd_477 : (Cond.instanceMethod yX3_isPlaceToPut) ∈ WG := WG_t2 (List.mem_of_getElem? (i := 161) (by decide +kernel)) rfl
theorem wd_478 : (Cond.code yX3_isPlaceToPut prog_1_method_44_code 4 (Option.some FieldType.boolean)) ∈ WG := WG_t2 (List.mem_of_getElem? (i := 162) (rfl)) rfl
theorem wd_479 : (Cond.methodLink "MagnetPoems" 106 yX3_isLine) ∈ WG := WG_t2 (List.mem_of_getElem? (i := 163) (by decide +kernel)) rfl
theorem wd_480 : (Cond.static yX3_isLine) ∈ WG := WG_t2 (List.mem_of_getElem? (i := 164) (by decide +kernel)) rfl
theorem wd_481 : (Cond.code yX3_isLine prog_1_method_43_code 2 (Option.some FieldType.boolean)) ∈ WG := WG_t2 (List.mem_of_getElem? (i := 165) (rfl)) rfl
theorem wd_482 : (Cond.methodLink "MagnetPoems" 117 yX3_isDoor) ∈ WG := WG_t2 (List.mem_of_getElem? (i := 166) (by decide +kernel)) rfl
theorem wd_483 : (Cond.static yX3_isDoor) ∈ WG := WG_t2 (List.mem_of_getElem? (i := 167) (by decide +kernel)) rfl
theorem wd_484 : (Cond.code yX3_isDoor prog_1_method_42_code 1 (Option.some FieldType.boolean)) ∈ WG := WG_t2 (List.mem_of_getElem? (i := 168) (rfl)) rfl
theorem wd_485 : (Cond.methodLink "MagnetPoems" 114 yX0_sizeOf) ∈ WG := WG_t2 (List.mem_of_getElem? (i := 169) (by decide +kernel)) rfl
theorem wd_486 : (Cond.instanceMethod yX0_sizeOf) ∈ WG := WG_t2 (List.mem_of_getElem? (i := 170) (by decide +kernel)) rfl
theorem wd_487 : (Cond.selects "MagnetPoems$Board" yX0_sizeOf yX0_sizeOf) ∈ WG := WG_t2 (List.mem_of_getElem? (i := 171) (by decide +kernel)) rfl
theorem wd_488 : (Cond.code yX0_sizeOf prog_2_method_5_code 2 (Option.some FieldType.int)) ∈ WG := WG_t2 (List.mem_of_getElem? (i := 172) (rfl)) rfl
theorem wd_489 : (Cond.classLink "MagnetPoems" 53 "java/lang/IndexOutOfBoundsException") ∈ WG := WG_t2 (List.mem_of_getElem? (i := 173) (by decide +kernel)) rfl
theorem wd_490 : (Cond.instantiable "java/lang/IndexOutOfBoundsException" 6) ∈ WG := WG_t2 (List.mem_of_getElem? (i := 174) (by decide +kernel)) rfl
theorem wd_498 : (Cond.selects "java/lang/IndexOutOfBoundsException" ⟨"java/lang/Throwable", "fillInStackTrace", "(I)Ljava/lang/Throwable;"⟩ ⟨"java/lang/Throwable", "fillInStackTrace", "(I)Ljava/lang/Throwable;"⟩) ∈ WG := WG_t2 (List.mem_of_getElem? (i := 182) (by decide +kernel)) rfl
theorem wd_499 : (Cond.selects "java/lang/IndexOutOfBoundsException" ⟨"java/lang/Throwable", "fillInStackTrace", "()Ljava/lang/Throwable;"⟩ ⟨"java/lang/Throwable", "fillInStackTrace", "()Ljava/lang/Throwable;"⟩) ∈ WG := WG_t2 (List.mem_of_getElem? (i := 183) (by decide +kernel)) rfl
theorem wd_500 : (Cond.lays "java/lang/IndexOutOfBoundsException" "java/lang/Throwable" "cause" "Ljava/lang/Throwable;") ∈ WG := WG_t2 (List.mem_of_getElem? (i := 184) (by decide +kernel)) rfl
theorem wd_501 : (Cond.lays "java/lang/Throwable" "java/lang/Throwable" "cause" "Ljava/lang/Throwable;") ∈ WG := WG_t2 (List.mem_of_getElem? (i := 185) (by decide +kernel)) rfl
theorem wd_502 : (Cond.lays "java/lang/IndexOutOfBoundsException" "java/lang/Throwable" "stackTrace" "[Ljava/lang/StackTraceElement;") ∈ WG := WG_t2 (List.mem_of_getElem? (i := 186) (by decide +kernel)) rfl
theorem wd_503 : (Cond.lays "java/lang/Throwable" "java/lang/Throwable" "stackTrace" "[Ljava/lang/StackTraceElement;") ∈ WG := WG_t2 (List.mem_of_getElem? (i := 187) (by decide +kernel)) rfl
theorem wd_504 : (Cond.lays "java/lang/IndexOutOfBoundsException" "java/lang/Throwable" "suppressedExceptions" "Ljava/util/List;") ∈ WG := WG_t2 (List.mem_of_getElem? (i := 188) (by decide +kernel)) rfl
theorem wd_505 : (Cond.lays "java/lang/Throwable" "java/lang/Throwable" "suppressedExceptions" "Ljava/util/List;") ∈ WG := WG_t2 (List.mem_of_getElem? (i := 189) (by decide +kernel)) rfl
theorem wd_506 : (Cond.lays "java/lang/IndexOutOfBoundsException" "java/lang/Throwable" "detailMessage" "Ljava/lang/String;") ∈ WG := WG_t2 (List.mem_of_getElem? (i := 190) (by decide +kernel)) rfl
theorem wd_507 : (Cond.lays "java/lang/Throwable" "java/lang/Throwable" "detailMessage" "Ljava/lang/String;") ∈ WG := WG_t2 (List.mem_of_getElem? (i := 191) (by decide +kernel)) rfl
theorem wd_508 : (Cond.lays "java/lang/IndexOutOfBoundsException" "java/lang/Throwable" "backtrace" "Ljava/lang/Object;") ∈ WG := WG_t2 (List.mem_of_getElem? (i := 192) (by decide +kernel)) rfl
theorem wd_509 : (Cond.lays "java/lang/Throwable" "java/lang/Throwable" "backtrace" "Ljava/lang/Object;") ∈ WG := WG_t2 (List.mem_of_getElem? (i := 193) (by decide +kernel)) rfl
theorem wd_510 : (Cond.fieldLink "java/lang/Throwable" 198 "java/lang/Throwable" "backtrace" "Ljava/lang/Object;") ∈ WG := WG_t2 (List.mem_of_getElem? (i := 194) (by decide +kernel)) rfl
theorem wd_511 : (Cond.superclass "java/lang/Throwable" "java/lang/Object") ∈ WG := WG_t2 (List.mem_of_getElem? (i := 195) (by decide +kernel)) rfl
theorem wd_512 : (Cond.instanceMethod ⟨"java/lang/Throwable", "<init>", "()V"⟩) ∈ WG := WG_t2 (List.mem_of_getElem? (i := 196) (by decide +kernel)) rfl
theorem wd_513 : (Cond.code ⟨"java/lang/Throwable", "<init>", "()V"⟩ prog_14_method_1_code 1 (Option.none : Option FieldType)) ∈ WG := WG_t2 (List.mem_of_getElem? (i := 197) (rfl)) rfl
theorem wd_514 : (Cond.methodLink "java/lang/Throwable" 1 ⟨"java/lang/Object", "<init>", "()V"⟩) ∈ WG := WG_t2 (List.mem_of_getElem? (i := 198) (by decide +kernel)) rfl
theorem wd_515 : (Cond.fieldLink "java/lang/Throwable" 13 "java/lang/Throwable" "UNASSIGNED_STACK" "[Ljava/lang/StackTraceElement;") ∈ WG := WG_t2 (List.mem_of_getElem? (i := 199) (by decide +kernel)) rfl
theorem wd_517 : (Cond.fieldLink "java/lang/Throwable" 20 "java/lang/Throwable" "SUPPRESSED_SENTINEL" "Ljava/util/List;") ∈ WG := WG_t2 (List.mem_of_getElem? (i := 201) (by decide +kernel)) rfl
theorem wd_519 : (Cond.methodLink "java/lang/Throwable" 27 ⟨"java/lang/Throwable", "fillInStackTrace", "()Ljava/lang/Throwable;"⟩) ∈ WG := WG_t2 (List.mem_of_getElem? (i := 203) (by decide +kernel)) rfl
theorem wd_520 : (Cond.instanceMethod ⟨"java/lang/Throwable", "fillInStackTrace", "()Ljava/lang/Throwable;"⟩) ∈ WG := WG_t2 (List.mem_of_getElem? (i := 204) (by decide +kernel)) rfl
theorem wd_521 : (Cond.sameMethod "java/lang/Throwable" "java/lang/Throwable" "fillInStackTrace" "()Ljava/lang/Throwable;") ∈ WG := WG_t2 (List.mem_of_getElem? (i := 205) (by decide +kernel)) rfl
theorem wd_522 : (Cond.selects "java/lang/IllegalArgumentException" ⟨"java/lang/Throwable", "fillInStackTrace", "()Ljava/lang/Throwable;"⟩ ⟨"java/lang/Throwable", "fillInStackTrace", "()Ljava/lang/Throwable;"⟩) ∈ WG := WG_t2 (List.mem_of_getElem? (i := 206) (by decide +kernel)) rfl
theorem wd_523 : (Cond.selects "java/lang/IllegalStateException" ⟨"java/lang/Throwable", "fillInStackTrace", "()Ljava/lang/Throwable;"⟩ ⟨"java/lang/Throwable", "fillInStackTrace", "()Ljava/lang/Throwable;"⟩) ∈ WG := WG_t2 (List.mem_of_getElem? (i := 207) (by decide +kernel)) rfl
theorem wd_525 : (Cond.methodLink "java/lang/Throwable" 202 ⟨"java/lang/Throwable", "fillInStackTrace", "(I)Ljava/lang/Throwable;"⟩) ∈ WG := WG_t2 (List.mem_of_getElem? (i := 209) (by decide +kernel)) rfl
theorem wd_527 : (Cond.instanceMethod ⟨"java/lang/Throwable", "fillInStackTrace", "(I)Ljava/lang/Throwable;"⟩) ∈ WG := WG_t2 (List.mem_of_getElem? (i := 211) (by decide +kernel)) rfl
theorem wd_528 : (Cond.instantiable "java/lang/Throwable" 6) ∈ WG := WG_t2 (List.mem_of_getElem? (i := 212) (by decide +kernel)) rfl
theorem wd_529 : (Cond.native ⟨"java/lang/Throwable", "fillInStackTrace", "(I)Ljava/lang/Throwable;"⟩) ∈ WG := WG_t2 (List.mem_of_getElem? (i := 213) (by decide +kernel)) rfl
theorem wd_531 : (Cond.methodLink "MagnetPoems" 57 ⟨"java/lang/IndexOutOfBoundsException", "<init>", "(Ljava/lang/String;)V"⟩) ∈ WG := WG_t2 (List.mem_of_getElem? (i := 215) (by decide +kernel)) rfl
theorem wd_532 : (Cond.instanceMethod ⟨"java/lang/IndexOutOfBoundsException", "<init>", "(Ljava/lang/String;)V"⟩) ∈ WG := WG_t2 (List.mem_of_getElem? (i := 216) (by decide +kernel)) rfl
theorem wd_533 : (Cond.code ⟨"java/lang/IndexOutOfBoundsException", "<init>", "(Ljava/lang/String;)V"⟩ prog_11_method_2_code 2 (Option.none : Option FieldType)) ∈ WG := WG_t2 (List.mem_of_getElem? (i := 217) (rfl)) rfl
theorem wd_534 : (Cond.methodLink "java/lang/IndexOutOfBoundsException" 7 ⟨"java/lang/RuntimeException", "<init>", "(Ljava/lang/String;)V"⟩) ∈ WG := WG_t2 (List.mem_of_getElem? (i := 218) (by decide +kernel)) rfl
theorem wd_535 : (Cond.instanceMethod ⟨"java/lang/RuntimeException", "<init>", "(Ljava/lang/String;)V"⟩) ∈ WG := WG_t2 (List.mem_of_getElem? (i := 219) (by decide +kernel)) rfl
theorem wd_536 : (Cond.code ⟨"java/lang/RuntimeException", "<init>", "(Ljava/lang/String;)V"⟩ prog_12_method_2_code 2 (Option.none : Option FieldType)) ∈ WG := WG_t2 (List.mem_of_getElem? (i := 220) (rfl)) rfl
theorem wd_537 : (Cond.methodLink "java/lang/RuntimeException" 7 ⟨"java/lang/Exception", "<init>", "(Ljava/lang/String;)V"⟩) ∈ WG := WG_t2 (List.mem_of_getElem? (i := 221) (by decide +kernel)) rfl
theorem wd_538 : (Cond.instanceMethod ⟨"java/lang/Exception", "<init>", "(Ljava/lang/String;)V"⟩) ∈ WG := WG_t2 (List.mem_of_getElem? (i := 222) (by decide +kernel)) rfl
theorem wd_539 : (Cond.code ⟨"java/lang/Exception", "<init>", "(Ljava/lang/String;)V"⟩ prog_8_method_2_code 2 (Option.none : Option FieldType)) ∈ WG := WG_t2 (List.mem_of_getElem? (i := 223) (rfl)) rfl
theorem wd_540 : (Cond.methodLink "java/lang/Exception" 7 ⟨"java/lang/Throwable", "<init>", "(Ljava/lang/String;)V"⟩) ∈ WG := WG_t2 (List.mem_of_getElem? (i := 224) (by decide +kernel)) rfl
theorem wd_541 : (Cond.instanceMethod ⟨"java/lang/Throwable", "<init>", "(Ljava/lang/String;)V"⟩) ∈ WG := WG_t2 (List.mem_of_getElem? (i := 225) (by decide +kernel)) rfl
theorem wd_542 : (Cond.code ⟨"java/lang/Throwable", "<init>", "(Ljava/lang/String;)V"⟩ prog_14_method_2_code 2 (Option.none : Option FieldType)) ∈ WG := WG_t2 (List.mem_of_getElem? (i := 226) (rfl)) rfl
theorem wd_543 : (Cond.fieldLink "java/lang/Throwable" 198 "java/lang/Throwable" "backtrace" "Ljava/lang/Object;") ∈ WG := WG_t2 (List.mem_of_getElem? (i := 227) (by decide +kernel)) rfl
theorem wd_544 : (Cond.fieldLink "java/lang/Throwable" 31 "java/lang/Throwable" "detailMessage" "Ljava/lang/String;") ∈ WG := WG_t2 (List.mem_of_getElem? (i := 228) (by decide +kernel)) rfl
theorem wd_545 : (Cond.fieldLink "java/lang/Throwable" 7 "java/lang/Throwable" "cause" "Ljava/lang/Throwable;") ∈ WG := WG_t2 (List.mem_of_getElem? (i := 229) (by decide +kernel)) rfl
theorem wd_546 : (Cond.fieldLink "java/lang/Throwable" 17 "java/lang/Throwable" "stackTrace" "[Ljava/lang/StackTraceElement;") ∈ WG := WG_t2 (List.mem_of_getElem? (i := 230) (by decide +kernel)) rfl
theorem wd_547 : (Cond.fieldLink "java/lang/Throwable" 24 "java/lang/Throwable" "suppressedExceptions" "Ljava/util/List;") ∈ WG := WG_t2 (List.mem_of_getElem? (i := 231) (by decide +kernel)) rfl
theorem wd_548 : (Cond.soleField "java/lang/Throwable" "backtrace") ∈ WG := WG_t2 (List.mem_of_getElem? (i := 232) (by decide +kernel)) rfl
theorem wd_549 : (Cond.soleField "java/lang/Throwable" "detailMessage") ∈ WG := WG_t2 (List.mem_of_getElem? (i := 233) (by decide +kernel)) rfl
theorem wd_550 : (Cond.soleField "java/lang/Throwable" "cause") ∈ WG := WG_t2 (List.mem_of_getElem? (i := 234) (by decide +kernel)) rfl
theorem wd_551 : (Cond.soleField "java/lang/Throwable" "stackTrace") ∈ WG := WG_t2 (List.mem_of_getElem? (i := 235) (by decide +kernel)) rfl
theorem wd_552 : (Cond.lays "java/lang/IndexOutOfBoundsException" "java/lang/Throwable" "depth" "I") ∈ WG := WG_t2 (List.mem_of_getElem? (i := 236) (by decide +kernel)) rfl
theorem wd_553 : (Cond.soleField "java/lang/Throwable" "depth") ∈ WG := WG_t2 (List.mem_of_getElem? (i := 237) (by decide +kernel)) rfl
theorem wd_554 : (Cond.soleField "java/lang/Throwable" "suppressedExceptions") ∈ WG := WG_t2 (List.mem_of_getElem? (i := 238) (by decide +kernel)) rfl
theorem wd_555 : (Cond.superclass "java/lang/IndexOutOfBoundsException" "java/lang/RuntimeException") ∈ WG := WG_t2 (List.mem_of_getElem? (i := 239) (by decide +kernel)) rfl
theorem wd_556 : (Cond.arrayClass FieldType.byte) ∈ WG := WG_t3 (List.mem_of_getElem? (i := 0) (by decide +kernel)) rfl
theorem wd_557 : (Cond.methodLink "MagnetPoems" 60 yX0_isInBag) ∈ WG := WG_t3 (List.mem_of_getElem? (i := 1) (by decide +kernel)) rfl
theorem wd_558 : (Cond.instanceMethod yX0_isInBag) ∈ WG := WG_t3 (List.mem_of_getElem? (i := 2) (by decide +kernel)) rfl
theorem wd_559 : (Cond.selects "MagnetPoems$Board" yX0_isInBag yX0_isInBag) ∈ WG := WG_t3 (List.mem_of_getElem? (i := 3) (by decide +kernel)) rfl
theorem wd_560 : (Cond.code yX0_isInBag prog_2_method_4_code 2 (Option.some FieldType.boolean)) ∈ WG := WG_t3 (List.mem_of_getElem? (i := 4) (rfl)) rfl
theorem wd_561 : (Cond.classLink "MagnetPoems" 63 "java/lang/IllegalStateException") ∈ WG := WG_t3 (List.mem_of_getElem? (i := 5) (by decide +kernel)) rfl
theorem wd_562 : (Cond.instantiable "java/lang/IllegalStateException" 6) ∈ WG := WG_t3 (List.mem_of_getElem? (i := 6) (by decide +kernel)) rfl
theorem wd_564 : (Cond.selects "java/lang/IllegalStateException" ⟨"java/lang/Throwable", "fillInStackTrace", "(I)Ljava/lang/Throwable;"⟩ ⟨"java/lang/Throwable", "fillInStackTrace", "(I)Ljava/lang/Throwable;"⟩) ∈ WG := WG_t3 (List.mem_of_getElem? (i := 8) (by decide +kernel)) rfl
theorem wd_565 : (Cond.lays "java/lang/IllegalStateException" "java/lang/Throwable" "cause" "Ljava/lang/Throwable;") ∈ WG := WG_t3 (List.mem_of_getElem? (i := 9) (by decide +kernel)) rfl
theorem wd_566 : (Cond.lays "java/lang/IllegalStateException" "java/lang/Throwable" "stackTrace" "[Ljava/lang/StackTraceElement;") ∈ WG := WG_t3 (List.mem_of_getElem? (i := 10) (by decide +kernel)) rfl
theorem wd_567 : (Cond.lays "java/lang/IllegalStateException" "java/lang/Throwable" "suppressedExceptions" "Ljava/util/List;") ∈ WG := WG_t3 (List.mem_of_getElem? (i := 11) (by decide +kernel)) rfl
theorem wd_568 : (Cond.lays "java/lang/IllegalStateException" "java/lang/Throwable" "detailMessage" "Ljava/lang/String;") ∈ WG := WG_t3 (List.mem_of_getElem? (i := 12) (by decide +kernel)) rfl
theorem wd_569 : (Cond.lays "java/lang/IllegalStateException" "java/lang/Throwable" "backtrace" "Ljava/lang/Object;") ∈ WG := WG_t3 (List.mem_of_getElem? (i := 13) (by decide +kernel)) rfl
theorem wd_571 : (Cond.methodLink "MagnetPoems" 67 ⟨"java/lang/IllegalStateException", "<init>", "(Ljava/lang/String;)V"⟩) ∈ WG := WG_t3 (List.mem_of_getElem? (i := 15) (by decide +kernel)) rfl
theorem wd_572 : (Cond.instanceMethod ⟨"java/lang/IllegalStateException", "<init>", "(Ljava/lang/String;)V"⟩) ∈ WG := WG_t3 (List.mem_of_getElem? (i := 16) (by decide +kernel)) rfl
theorem wd_573 : (Cond.code ⟨"java/lang/IllegalStateException", "<init>", "(Ljava/lang/String;)V"⟩ prog_10_method_2_code 2 (Option.none : Option FieldType)) ∈ WG := WG_t3 (List.mem_of_getElem? (i := 17) (rfl)) rfl
theorem wd_574 : (Cond.methodLink "java/lang/IllegalStateException" 7 ⟨"java/lang/RuntimeException", "<init>", "(Ljava/lang/String;)V"⟩) ∈ WG := WG_t3 (List.mem_of_getElem? (i := 18) (by decide +kernel)) rfl
theorem wd_575 : (Cond.lays "java/lang/IllegalStateException" "java/lang/Throwable" "depth" "I") ∈ WG := WG_t3 (List.mem_of_getElem? (i := 19) (by decide +kernel)) rfl
theorem wd_576 : (Cond.superclass "java/lang/IllegalStateException" "java/lang/RuntimeException") ∈ WG := WG_t3 (List.mem_of_getElem? (i := 20) (by decide +kernel)) rfl
theorem wd_577 : (Cond.methodLink "MagnetPoems" 68 yX1_save) ∈ WG := WG_t3 (List.mem_of_getElem? (i := 21) (by decide +kernel)) rfl
theorem wd_578 : (Cond.instanceMethod yX1_save) ∈ WG := WG_t3 (List.mem_of_getElem? (i := 22) (by decide +kernel)) rfl
theorem wd_579 : (Cond.selects "MagnetPoems$History" yX1_save yX1_save) ∈ WG := WG_t3 (List.mem_of_getElem? (i := 23) (by decide +kernel)) rfl
theorem wd_580 : (Cond.code yX1_save prog_3_method_2_code 3 (Option.none : Option FieldType)) ∈ WG := WG_t3 (List.mem_of_getElem? (i := 24) (rfl)) rfl
theorem wd_581 : (Cond.methodLink "MagnetPoems$History" 25 yX1_stateAt) ∈ WG := WG_t3 (List.mem_of_getElem? (i := 25) (by decide +kernel)) rfl
theorem wd_583 : (Cond.instanceMethod yX1_stateAt) ∈ WG := WG_t3 (List.mem_of_getElem? (i := 27) (by decide +kernel)) rfl
theorem wd_584 : (Cond.code yX1_stateAt prog_3_method_4_code 3 (Option.some (FieldType.object "MagnetPoems$Board"))) ∈ WG := WG_t3 (List.mem_of_getElem? (i := 28) (rfl)) rfl
theorem wd_585 : (Cond.methodLink "MagnetPoems$History" 29 yX0_copyFrom) ∈ WG := WG_t3 (List.mem_of_getElem? (i := 29) (by decide +kernel)) rfl
theorem wd_586 : (Cond.methodLink "MagnetPoems" 76 yX0_refusal) ∈ WG := WG_t3 (List.mem_of_getElem? (i := 30) (by decide +kernel)) rfl
theorem wd_587 : (Cond.methodLink "MagnetPoems" 84 yX0_insertWord) ∈ WG := WG_t3 (List.mem_of_getElem? (i := 31) (by decide +kernel)) rfl
theorem wd_588 : (Cond.instanceMethod yX0_insertWord) ∈ WG := WG_t3 (List.mem_of_getElem? (i := 32) (by decide +kernel)) rfl
theorem wd_589 : (Cond.selects "MagnetPoems$Board" yX0_insertWord yX0_insertWord) ∈ WG := WG_t3 (List.mem_of_getElem? (i := 33) (by decide +kernel)) rfl
theorem wd_590 : (Cond.code yX0_insertWord prog_2_method_12_code 6 (Option.none : Option FieldType)) ∈ WG := WG_t3 (List.mem_of_getElem? (i := 34) (rfl)) rfl
theorem wd_591 : (Cond.methodLink "MagnetPoemsLaw" 102 yL_takeOff) ∈ WG := WG_t3 (List.mem_of_getElem? (i := 35) (by decide +kernel)) rfl
theorem wd_592 : (Cond.static yL_takeOff) ∈ WG := WG_t3 (List.mem_of_getElem? (i := 36) (by decide +kernel)) rfl
theorem wd_593 : (Cond.codeWith yL_takeOff method_4_code 4 (Option.some FieldType.int) [(0, 9, 12, 13), (0, 9, 15, 15)]) ∈ WG := WG_t3 (List.mem_of_getElem? (i := 37) (rfl)) rfl
theorem wd_594 : (Cond.methodLink "MagnetPoemsLaw" 17 yX3_takeOff) ∈ WG := WG_t3 (List.mem_of_getElem? (i := 38) (by decide +kernel)) rfl
theorem wd_595 : (Cond.instanceMethod yX3_takeOff) ∈ WG := WG_t3 (List.mem_of_getElem? (i := 39) (by decide +kernel)) rfl
theorem wd_596 : (Cond.selects "MagnetPoems" yX3_takeOff yX3_takeOff) ∈ WG := WG_t3 (List.mem_of_getElem? (i := 40) (by decide +kernel)) rfl
theorem wd_597 : (Cond.code yX3_takeOff prog_1_method_3_code 3 (Option.some FieldType.int)) ∈ WG := WG_t3 (List.mem_of_getElem? (i := 41) (rfl)) rfl
theorem wd_600 : (Cond.methodLink "MagnetPoems" 95 yX0_homeOf) ∈ WG := WG_t3 (List.mem_of_getElem? (i := 44) (by decide +kernel)) rfl
theorem wd_601 : (Cond.instanceMethod yX0_homeOf) ∈ WG := WG_t3 (List.mem_of_getElem? (i := 45) (by decide +kernel)) rfl
theorem wd_602 : (Cond.selects "MagnetPoems$Board" yX0_homeOf yX0_homeOf) ∈ WG := WG_t3 (List.mem_of_getElem? (i := 46) (by decide +kernel)) rfl
theorem wd_603 : (Cond.code yX0_homeOf prog_2_method_3_code 2 (Option.some FieldType.int)) ∈ WG := WG_t3 (List.mem_of_getElem? (i := 47) (rfl)) rfl
theorem wd_604 : (Cond.methodLink "MagnetPoems" 99 yX0_removeWord) ∈ WG := WG_t3 (List.mem_of_getElem? (i := 48) (by decide +kernel)) rfl
theorem wd_605 : (Cond.methodLink "MagnetPoems" 103 yX3_lineCode) ∈ WG := WG_t3 (List.mem_of_getElem? (i := 49) (by decide +kernel)) rfl
theorem wd_606 : (Cond.methodLink "MagnetPoemsLaw" 106 yL_move) ∈ WG := WG_t3 (List.mem_of_getElem? (i := 50) (by decide +kernel)) rfl
theorem wd_607 : (Cond.static yL_move) ∈ WG := WG_t3 (List.mem_of_getElem? (i := 51) (by decide +kernel)) rfl
theorem wd_608 : (Cond.codeWith yL_move method_5_code 6 (Option.some FieldType.int) [(0, 12, 15, 13), (0, 12, 19, 15)]) ∈ WG := WG_t3 (List.mem_of_getElem? (i := 52) (rfl)) rfl
theorem wd_609 : (Cond.methodLink "MagnetPoemsLaw" 21 yX3_move) ∈ WG := WG_t3 (List.mem_of_getElem? (i := 53) (by decide +kernel)) rfl
theorem wd_610 : (Cond.instanceMethod yX3_move) ∈ WG := WG_t3 (List.mem_of_getElem? (i := 54) (by decide +kernel)) rfl
theorem wd_611 : (Cond.selects "MagnetPoems" yX3_move yX3_move) ∈ WG := WG_t3 (List.mem_of_getElem? (i := 55) (by decide +kernel)) rfl
theorem wd_612 : (Cond.code yX3_move prog_1_method_4_code 7 (Option.some FieldType.int)) ∈ WG := WG_t3 (List.mem_of_getElem? (i := 56) (rfl)) rfl
theorem wd_615 : (Cond.methodLink "MagnetPoemsLaw" 110 yL_clearDoor) ∈ WG := WG_t3 (List.mem_of_getElem? (i := 59) (by decide +kernel)) rfl
theorem wd_616 : (Cond.static yL_clearDoor) ∈ WG := WG_t3 (List.mem_of_getElem? (i := 60) (by decide +kernel)) rfl
theorem wd_617 : (Cond.codeWith yL_clearDoor method_6_code 4 (Option.some FieldType.int) [(0, 9, 12, 13)]) ∈ WG := WG_t3 (List.mem_of_getElem? (i := 61) (rfl)) rfl
theorem wd_618 : (Cond.methodLink "MagnetPoemsLaw" 25 yX3_clearDoor) ∈ WG := WG_t3 (List.mem_of_getElem? (i := 62) (by decide +kernel)) rfl
theorem wd_619 : (Cond.instanceMethod yX3_clearDoor) ∈ WG := WG_t3 (List.mem_of_getElem? (i := 63) (by decide +kernel)) rfl
theorem wd_620 : (Cond.selects "MagnetPoems" yX3_clearDoor yX3_clearDoor) ∈ WG := WG_t3 (List.mem_of_getElem? (i := 64) (by decide +kernel)) rfl
theorem wd_621 : (Cond.code yX3_clearDoor prog_1_method_5_code 2 (Option.some FieldType.int)) ∈ WG := WG_t3 (List.mem_of_getElem? (i := 65) (rfl)) rfl
theorem wd_623 : (Cond.methodLink "MagnetPoems" 122 yX0_emptyDoor) ∈ WG := WG_t3 (List.mem_of_getElem? (i := 67) (by decide +kernel)) rfl
theorem wd_624 : (Cond.instanceMethod yX0_emptyDoor) ∈ WG := WG_t3 (List.mem_of_getElem? (i := 68) (by decide +kernel)) rfl
theorem wd_625 : (Cond.selects "MagnetPoems$Board" yX0_emptyDoor yX0_emptyDoor) ∈ WG := WG_t3 (List.mem_of_getElem? (i := 69) (by decide +kernel)) rfl
theorem wd_626 : (Cond.code yX0_emptyDoor prog_2_method_14_code 4 (Option.some FieldType.int)) ∈ WG := WG_t3 (List.mem_of_getElem? (i := 70) (rfl)) rfl
theorem wd_627 : (Cond.methodLink "MagnetPoemsLaw" 113 yL_borrow) ∈ WG := WG_t3 (List.mem_of_getElem? (i := 71) (by decide +kernel)) rfl
theorem wd_628 : (Cond.static yL_borrow) ∈ WG := WG_t3 (List.mem_of_getElem? (i := 72) (by decide +kernel)) rfl
theorem wd_629 : (Cond.codeWith yL_borrow method_7_code 7 (Option.some FieldType.int) [(0, 14, 17, 13), (0, 14, 21, 31), (0, 14, 25, 15)]) ∈ WG := WG_t3 (List.mem_of_getElem? (i := 73) (rfl)) rfl
theorem wd_630 : (Cond.classLink "MagnetPoemsLaw" 31 "java/lang/IllegalArgumentException") ∈ WG := WG_t3 (List.mem_of_getElem? (i := 74) (by decide +kernel)) rfl
theorem wd_631 : (Cond.methodLink "MagnetPoemsLaw" 28 yX3_borrow) ∈ WG := WG_t3 (List.mem_of_getElem? (i := 75) (by decide +kernel)) rfl
theorem wd_632 : (Cond.instanceMethod yX3_borrow) ∈ WG := WG_t3 (List.mem_of_getElem? (i := 76) (by decide +kernel)) rfl
theorem wd_633 : (Cond.selects "MagnetPoems" yX3_borrow yX3_borrow) ∈ WG := WG_t3 (List.mem_of_getElem? (i := 77) (by decide +kernel)) rfl
theorem wd_634 : (Cond.code yX3_borrow prog_1_method_6_code 7 (Option.some FieldType.int)) ∈ WG := WG_t3 (List.mem_of_getElem? (i := 78) (rfl)) rfl
theorem wd_636 : (Cond.classLink "MagnetPoems" 127 "java/lang/IllegalArgumentException") ∈ WG := WG_t3 (List.mem_of_getElem? (i := 80) (by decide +kernel)) rfl
theorem wd_637 : (Cond.instantiable "java/lang/IllegalArgumentException" 6) ∈ WG := WG_t3 (List.mem_of_getElem? (i := 81) (by decide +kernel)) rfl
theorem wd_639 : (Cond.selects "java/lang/IllegalArgumentException" ⟨"java/lang/Throwable", "fillInStackTrace", "(I)Ljava/lang/Throwable;"⟩ ⟨"java/lang/Throwable", "fillInStackTrace", "(I)Ljava/lang/Throwable;"⟩) ∈ WG := WG_t3 (List.mem_of_getElem? (i := 83) (by decide +kernel)) rfl
theorem wd_640 : (Cond.lays "java/lang/IllegalArgumentException" "java/lang/Throwable" "cause" "Ljava/lang/Throwable;") ∈ WG := WG_t3 (List.mem_of_getElem? (i := 84) (by decide +kernel)) rfl
theorem wd_641 : (Cond.lays "java/lang/IllegalArgumentException" "java/lang/Throwable" "stackTrace" "[Ljava/lang/StackTraceElement;") ∈ WG := WG_t3 (List.mem_of_getElem? (i := 85) (by decide +kernel)) rfl
theorem wd_642 : (Cond.lays "java/lang/IllegalArgumentException" "java/lang/Throwable" "suppressedExceptions" "Ljava/util/List;") ∈ WG := WG_t3 (List.mem_of_getElem? (i := 86) (by decide +kernel)) rfl
theorem wd_643 : (Cond.lays "java/lang/IllegalArgumentException" "java/lang/Throwable" "detailMessage" "Ljava/lang/String;") ∈ WG := WG_t3 (List.mem_of_getElem? (i := 87) (by decide +kernel)) rfl
theorem wd_644 : (Cond.lays "java/lang/IllegalArgumentException" "java/lang/Throwable" "backtrace" "Ljava/lang/Object;") ∈ WG := WG_t3 (List.mem_of_getElem? (i := 88) (by decide +kernel)) rfl
theorem wd_646 : (Cond.methodLink "MagnetPoems" 131 ⟨"java/lang/IllegalArgumentException", "<init>", "(Ljava/lang/String;)V"⟩) ∈ WG := WG_t3 (List.mem_of_getElem? (i := 90) (by decide +kernel)) rfl
theorem wd_647 : (Cond.instanceMethod ⟨"java/lang/IllegalArgumentException", "<init>", "(Ljava/lang/String;)V"⟩) ∈ WG := WG_t3 (List.mem_of_getElem? (i := 91) (by decide +kernel)) rfl
theorem wd_648 : (Cond.code ⟨"java/lang/IllegalArgumentException", "<init>", "(Ljava/lang/String;)V"⟩ prog_9_method_2_code 2 (Option.none : Option FieldType)) ∈ WG := WG_t3 (List.mem_of_getElem? (i := 92) (rfl)) rfl
theorem wd_649 : (Cond.methodLink "java/lang/IllegalArgumentException" 7 ⟨"java/lang/RuntimeException", "<init>", "(Ljava/lang/String;)V"⟩) ∈ WG := WG_t3 (List.mem_of_getElem? (i := 93) (by decide +kernel)) rfl
theorem wd_650 : (Cond.lays "java/lang/IllegalArgumentException" "java/lang/Throwable" "depth" "I") ∈ WG := WG_t3 (List.mem_of_getElem? (i := 94) (by decide +kernel)) rfl
theorem wd_651 : (Cond.superclass "java/lang/IllegalArgumentException" "java/lang/RuntimeException") ∈ WG := WG_t3 (List.mem_of_getElem? (i := 95) (by decide +kernel)) rfl
theorem wd_652 : (Cond.methodLink "MagnetPoems" 132 yX0_isFreeForLoan) ∈ WG := WG_t3 (List.mem_of_getElem? (i := 96) (by decide +kernel)) rfl
theorem wd_653 : (Cond.instanceMethod yX0_isFreeForLoan) ∈ WG := WG_t3 (List.mem_of_getElem? (i := 97) (by decide +kernel)) rfl
theorem wd_654 : (Cond.selects "MagnetPoems$Board" yX0_isFreeForLoan yX0_isFreeForLoan) ∈ WG := WG_t3 (List.mem_of_getElem? (i := 98) (by decide +kernel)) rfl
theorem wd_655 : (Cond.code yX0_isFreeForLoan prog_2_method_27_code 2 (Option.some FieldType.boolean)) ∈ WG := WG_t3 (List.mem_of_getElem? (i := 99) (rfl)) rfl
theorem wd_657 : (Cond.methodLink "MagnetPoems" 137 yX0_startLoan) ∈ WG := WG_t3 (List.mem_of_getElem? (i := 101) (by decide +kernel)) rfl
theorem wd_658 : (Cond.instanceMethod yX0_startLoan) ∈ WG := WG_t3 (List.mem_of_getElem? (i := 102) (by decide +kernel)) rfl
theorem wd_659 : (Cond.selects "MagnetPoems$Board" yX0_startLoan yX0_startLoan) ∈ WG := WG_t3 (List.mem_of_getElem? (i := 103) (by decide +kernel)) rfl
theorem wd_660 : (Cond.code yX0_startLoan prog_2_method_29_code 3 (Option.none : Option FieldType)) ∈ WG := WG_t3 (List.mem_of_getElem? (i := 104) (rfl)) rfl
theorem wd_661 : (Cond.methodLink "MagnetPoems" 141 yX0_endingOn) ∈ WG := WG_t3 (List.mem_of_getElem? (i := 105) (by decide +kernel)) rfl
theorem wd_662 : (Cond.methodLink "MagnetPoemsLaw" 116 yL_bringBack) ∈ WG := WG_t3 (List.mem_of_getElem? (i := 106) (by decide +kernel)) rfl
theorem wd_663 : (Cond.static yL_bringBack) ∈ WG := WG_t3 (List.mem_of_getElem? (i := 107) (by decide +kernel)) rfl
theorem wd_664 : (Cond.codeWith yL_bringBack method_8_code 5 (Option.some FieldType.int) [(0, 10, 13, 13), (0, 10, 17, 15)]) ∈ WG := WG_t3 (List.mem_of_getElem? (i := 108) (rfl)) rfl
theorem wd_665 : (Cond.methodLink "MagnetPoemsLaw" 33 yX3_bringBack) ∈ WG := WG_t3 (List.mem_of_getElem? (i := 109) (by decide +kernel)) rfl
theorem wd_666 : (Cond.instanceMethod yX3_bringBack) ∈ WG := WG_t3 (List.mem_of_getElem? (i := 110) (by decide +kernel)) rfl
theorem wd_667 : (Cond.selects "MagnetPoems" yX3_bringBack yX3_bringBack) ∈ WG := WG_t3 (List.mem_of_getElem? (i := 111) (by decide +kernel)) rfl
theorem wd_668 : (Cond.code yX3_bringBack prog_1_method_7_code 4 (Option.some FieldType.int)) ∈ WG := WG_t3 (List.mem_of_getElem? (i := 112) (rfl)) rfl
theorem wd_669 : (Cond.methodLink "MagnetPoems" 144 yX0_borrows) ∈ WG := WG_t3 (List.mem_of_getElem? (i := 113) (by decide +kernel)) rfl
theorem wd_670 : (Cond.instanceMethod yX0_borrows) ∈ WG := WG_t3 (List.mem_of_getElem? (i := 114) (by decide +kernel)) rfl
theorem wd_671 : (Cond.selects "MagnetPoems$Board" yX0_borrows yX0_borrows) ∈ WG := WG_t3 (List.mem_of_getElem? (i := 115) (by decide +kernel)) rfl
theorem wd_672 : (Cond.code yX0_borrows prog_2_method_26_code 2 (Option.some FieldType.boolean)) ∈ WG := WG_t3 (List.mem_of_getElem? (i := 116) (rfl)) rfl
theorem wd_674 : (Cond.methodLink "MagnetPoems" 149 yX0_endLoan) ∈ WG := WG_t3 (List.mem_of_getElem? (i := 118) (by decide +kernel)) rfl
theorem wd_675 : (Cond.methodLink "MagnetPoemsLaw" 120 yL_sleep) ∈ WG := WG_t3 (List.mem_of_getElem? (i := 119) (by decide +kernel)) rfl
theorem wd_676 : (Cond.static yL_sleep) ∈ WG := WG_t3 (List.mem_of_getElem? (i := 120) (by decide +kernel)) rfl
theorem wd_677 : (Cond.codeWith yL_sleep method_9_code 4 (Option.some FieldType.int) [(0, 9, 12, 31), (0, 9, 15, 15)]) ∈ WG := WG_t3 (List.mem_of_getElem? (i := 121) (rfl)) rfl
theorem wd_678 : (Cond.methodLink "MagnetPoemsLaw" 37 yX3_sleep) ∈ WG := WG_t3 (List.mem_of_getElem? (i := 122) (by decide +kernel)) rfl
theorem wd_679 : (Cond.instanceMethod yX3_sleep) ∈ WG := WG_t3 (List.mem_of_getElem? (i := 123) (by decide +kernel)) rfl
theorem wd_680 : (Cond.selects "MagnetPoems" yX3_sleep yX3_sleep) ∈ WG := WG_t3 (List.mem_of_getElem? (i := 124) (by decide +kernel)) rfl
theorem wd_681 : (Cond.code yX3_sleep prog_1_method_8_code 2 (Option.some FieldType.int)) ∈ WG := WG_t3 (List.mem_of_getElem? (i := 125) (rfl)) rfl
theorem wd_682 : (Cond.methodLink "MagnetPoems" 152 yX3_isNights) ∈ WG := WG_t3 (List.mem_of_getElem? (i := 126) (by decide +kernel)) rfl
theorem wd_683 : (Cond.static yX3_isNights) ∈ WG := WG_t3 (List.mem_of_getElem? (i := 127) (by decide +kernel)) rfl
theorem wd_684 : (Cond.code yX3_isNights prog_1_method_45_code 1 (Option.some FieldType.boolean)) ∈ WG := WG_t3 (List.mem_of_getElem? (i := 128) (rfl)) rfl
theorem wd_687 : (Cond.methodLink "MagnetPoemsLaw" 123 yL_set) ∈ WG := WG_t3 (List.mem_of_getElem? (i := 131) (by decide +kernel)) rfl
theorem wd_688 : (Cond.static yL_set) ∈ WG := WG_t3 (List.mem_of_getElem? (i := 132) (by decide +kernel)) rfl
theorem wd_689 : (Cond.codeWith yL_set method_10_code 5 (Option.some FieldType.int) [(0, 10, 13, 13), (0, 10, 17, 31)]) ∈ WG := WG_t3 (List.mem_of_getElem? (i := 133) (rfl)) rfl
theorem wd_690 : (Cond.methodLink "MagnetPoemsLaw" 40 yX3_set) ∈ WG := WG_t3 (List.mem_of_getElem? (i := 134) (by decide +kernel)) rfl
theorem wd_691 : (Cond.instanceMethod yX3_set) ∈ WG := WG_t3 (List.mem_of_getElem? (i := 135) (by decide +kernel)) rfl
theorem wd_692 : (Cond.selects "MagnetPoems" yX3_set yX3_set) ∈ WG := WG_t3 (List.mem_of_getElem? (i := 136) (by decide +kernel)) rfl
theorem wd_693 : (Cond.code yX3_set prog_1_method_9_code 4 (Option.some FieldType.int)) ∈ WG := WG_t3 (List.mem_of_getElem? (i := 137) (rfl)) rfl
theorem wd_694 : (Cond.methodLink "MagnetPoems" 165 yX3_isSetting) ∈ WG := WG_t3 (List.mem_of_getElem? (i := 138) (by decide +kernel)) rfl
theorem wd_695 : (Cond.static yX3_isSetting) ∈ WG := WG_t3 (List.mem_of_getElem? (i := 139) (by decide +kernel)) rfl
theorem wd_696 : (Cond.code yX3_isSetting prog_1_method_46_code 1 (Option.some FieldType.boolean)) ∈ WG := WG_t3 (List.mem_of_getElem? (i := 140) (rfl)) rfl
theorem wd_698 : (Cond.methodLink "MagnetPoems" 170 yX3_greatestOf) ∈ WG := WG_t3 (List.mem_of_getElem? (i := 142) (by decide +kernel)) rfl
theorem wd_699 : (Cond.static yX3_greatestOf) ∈ WG := WG_t3 (List.mem_of_getElem? (i := 143) (by decide +kernel)) rfl
theorem wd_700 : (Cond.code yX3_greatestOf prog_1_method_48_code 1 (Option.some FieldType.int)) ∈ WG := WG_t3 (List.mem_of_getElem? (i := 144) (rfl)) rfl
theorem wd_702 : (Cond.methodLink "MagnetPoems" 178 yX0_changeSetting) ∈ WG := WG_t3 (List.mem_of_getElem? (i := 146) (by decide +kernel)) rfl
theorem wd_703 : (Cond.instanceMethod yX0_changeSetting) ∈ WG := WG_t3 (List.mem_of_getElem? (i := 147) (by decide +kernel)) rfl
theorem wd_704 : (Cond.selects "MagnetPoems$Board" yX0_changeSetting yX0_changeSetting) ∈ WG := WG_t3 (List.mem_of_getElem? (i := 148) (by decide +kernel)) rfl
theorem wd_705 : (Cond.code yX0_changeSetting prog_2_method_39_code 3 (Option.none : Option FieldType)) ∈ WG := WG_t3 (List.mem_of_getElem? (i := 149) (rfl)) rfl
theorem wd_706 : (Cond.methodLink "MagnetPoemsLaw" 126 yL_append) ∈ WG := WG_t3 (List.mem_of_getElem? (i := 150) (by decide +kernel)) rfl
theorem wd_707 : (Cond.static yL_append) ∈ WG := WG_t3 (List.mem_of_getElem? (i := 151) (by decide +kernel)) rfl
theorem wd_708 : (Cond.codeWith yL_append method_11_code 4 (Option.some FieldType.int) [(0, 9, 12, 31), (0, 9, 15, 15)]) ∈ WG := WG_t3 (List.mem_of_getElem? (i := 152) (rfl)) rfl
theorem wd_709 : (Cond.methodLink "MagnetPoemsLaw" 43 yX3_append) ∈ WG := WG_t3 (List.mem_of_getElem? (i := 153) (by decide +kernel)) rfl
theorem wd_710 : (Cond.instanceMethod yX3_append) ∈ WG := WG_t3 (List.mem_of_getElem? (i := 154) (by decide +kernel)) rfl
theorem wd_711 : (Cond.selects "MagnetPoems" yX3_append yX3_append) ∈ WG := WG_t3 (List.mem_of_getElem? (i := 155) (by decide +kernel)) rfl
theorem wd_712 : (Cond.code yX3_append prog_1_method_10_code 2 (Option.some FieldType.int)) ∈ WG := WG_t3 (List.mem_of_getElem? (i := 156) (rfl)) rfl
theorem wd_715 : (Cond.methodLink "MagnetPoems" 188 yX3_addCode) ∈ WG := WG_t3 (List.mem_of_getElem? (i := 159) (by decide +kernel)) rfl
theorem wd_717 : (Cond.instanceMethod yX3_addCode) ∈ WG := WG_t3 (List.mem_of_getElem? (i := 161) (by decide +kernel)) rfl
theorem wd_718 : (Cond.code yX3_addCode prog_1_method_35_code 2 (Option.none : Option FieldType)) ∈ WG := WG_t3 (List.mem_of_getElem? (i := 162) (rfl)) rfl
theorem wd_719 : (Cond.methodLink "MagnetPoemsLaw" 137 yL_load) ∈ WG := WG_t3 (List.mem_of_getElem? (i := 163) (by decide +kernel)) rfl
theorem wd_720 : (Cond.static yL_load) ∈ WG := WG_t3 (List.mem_of_getElem? (i := 164) (by decide +kernel)) rfl
theorem wd_721 : (Cond.codeWith yL_load method_12_code 4 (Option.some FieldType.int) [(0, 9, 12, 13), (0, 9, 15, 31)]) ∈ WG := WG_t3 (List.mem_of_getElem? (i := 165) (rfl)) rfl
theorem wd_722 : (Cond.methodLink "MagnetPoemsLaw" 46 yX3_load) ∈ WG := WG_t3 (List.mem_of_getElem? (i := 166) (by decide +kernel)) rfl
theorem wd_723 : (Cond.instanceMethod yX3_load) ∈ WG := WG_t3 (List.mem_of_getElem? (i := 167) (by decide +kernel)) rfl
theorem wd_724 : (Cond.selects "MagnetPoems" yX3_load yX3_load) ∈ WG := WG_t3 (List.mem_of_getElem? (i := 168) (by decide +kernel)) rfl
theorem wd_725 : (Cond.code yX3_load prog_1_method_13_code 2 (Option.some FieldType.int)) ∈ WG := WG_t3 (List.mem_of_getElem? (i := 169) (rfl)) rfl
theorem wd_726 : (Cond.methodLink "MagnetPoems" 195 yX2_closesNumber) ∈ WG := WG_t3 (List.mem_of_getElem? (i := 170) (by decide +kernel)) rfl
theorem wd_728 : (Cond.methodLink "MagnetPoems" 201 yX3_putPoem) ∈ WG := WG_t3 (List.mem_of_getElem? (i := 172) (by decide +kernel)) rfl
theorem wd_730 : (Cond.instanceMethod yX3_putPoem) ∈ WG := WG_t3 (List.mem_of_getElem? (i := 174) (by decide +kernel)) rfl
theorem wd_731 : (Cond.code yX3_putPoem prog_1_method_37_code 6 (Option.some FieldType.int)) ∈ WG := WG_t3 (List.mem_of_getElem? (i := 175) (rfl)) rfl
theorem wd_732 : (Cond.methodLink "MagnetPoems" 316 yX2_wordTold) ∈ WG := WG_t3 (List.mem_of_getElem? (i := 176) (by decide +kernel)) rfl
theorem wd_733 : (Cond.instanceMethod yX2_wordTold) ∈ WG := WG_t3 (List.mem_of_getElem? (i := 177) (by decide +kernel)) rfl
theorem wd_734 : (Cond.selects "MagnetPoems$PoemReader" yX2_wordTold yX2_wordTold) ∈ WG := WG_t3 (List.mem_of_getElem? (i := 178) (by decide +kernel)) rfl
theorem wd_735 : (Cond.code yX2_wordTold prog_4_method_3_code 2 (Option.some FieldType.int)) ∈ WG := WG_t3 (List.mem_of_getElem? (i := 179) (rfl)) rfl
theorem wd_737 : (Cond.methodLink "MagnetPoems" 319 yX2_lineTold) ∈ WG := WG_t3 (List.mem_of_getElem? (i := 181) (by decide +kernel)) rfl
theorem wd_738 : (Cond.instanceMethod yX2_lineTold) ∈ WG := WG_t3 (List.mem_of_getElem? (i := 182) (by decide +kernel)) rfl
theorem wd_739 : (Cond.selects "MagnetPoems$PoemReader" yX2_lineTold yX2_lineTold) ∈ WG := WG_t3 (List.mem_of_getElem? (i := 183) (by decide +kernel)) rfl
theorem wd_740 : (Cond.code yX2_lineTold prog_4_method_4_code 2 (Option.some FieldType.int)) ∈ WG := WG_t3 (List.mem_of_getElem? (i := 184) (rfl)) rfl
theorem wd_741 : (Cond.methodLink "MagnetPoemsLaw" 140 yL_write) ∈ WG := WG_t3 (List.mem_of_getElem? (i := 185) (by decide +kernel)) rfl
theorem wd_742 : (Cond.static yL_write) ∈ WG := WG_t3 (List.mem_of_getElem? (i := 186) (by decide +kernel)) rfl
theorem wd_743 : (Cond.codeWith yL_write method_13_code 4 (Option.some FieldType.int) [(0, 9, 12, 13)]) ∈ WG := WG_t3 (List.mem_of_getElem? (i := 187) (rfl)) rfl
theorem wd_744 : (Cond.methodLink "MagnetPoemsLaw" 49 yX3_write) ∈ WG := WG_t3 (List.mem_of_getElem? (i := 188) (by decide +kernel)) rfl
theorem wd_745 : (Cond.instanceMethod yX3_write) ∈ WG := WG_t3 (List.mem_of_getElem? (i := 189) (by decide +kernel)) rfl
theorem wd_746 : (Cond.selects "MagnetPoems" yX3_write yX3_write) ∈ WG := WG_t3 (List.mem_of_getElem? (i := 190) (by decide +kernel)) rfl
theorem wd_747 : (Cond.code yX3_write prog_1_method_14_code 3 (Option.some FieldType.int)) ∈ WG := WG_t3 (List.mem_of_getElem? (i := 191) (rfl)) rfl
theorem wd_748 : (Cond.methodLink "MagnetPoems" 204 yX3_textLength) ∈ WG := WG_t3 (List.mem_of_getElem? (i := 192) (by decide +kernel)) rfl
theorem wd_750 : (Cond.instanceMethod yX3_textLength) ∈ WG := WG_t3 (List.mem_of_getElem? (i := 194) (by decide +kernel)) rfl
theorem wd_751 : (Cond.code yX3_textLength prog_1_method_38_code 7 (Option.some FieldType.int)) ∈ WG := WG_t3 (List.mem_of_getElem? (i := 195) (rfl)) rfl
theorem wd_752 : (Cond.methodLink "MagnetPoems" 207 yX3_addLine) ∈ WG := WG_t3 (List.mem_of_getElem? (i := 196) (by decide +kernel)) rfl
theorem wd_754 : (Cond.instanceMethod yX3_addLine) ∈ WG := WG_t3 (List.mem_of_getElem? (i := 198) (by decide +kernel)) rfl
theorem wd_755 : (Cond.code yX3_addLine prog_1_method_39_code 3 (Option.none : Option FieldType)) ∈ WG := WG_t3 (List.mem_of_getElem? (i := 199) (rfl)) rfl
theorem wd_756 : (Cond.methodLink "MagnetPoems" 322 yX3_addNumber) ∈ WG := WG_t3 (List.mem_of_getElem? (i := 200) (by decide +kernel)) rfl
theorem wd_758 : (Cond.instanceMethod yX3_addNumber) ∈ WG := WG_t3 (List.mem_of_getElem? (i := 202) (by decide +kernel)) rfl
theorem wd_759 : (Cond.code yX3_addNumber prog_1_method_40_code 2 (Option.none : Option FieldType)) ∈ WG := WG_t3 (List.mem_of_getElem? (i := 203) (rfl)) rfl
theorem wd_760 : (Cond.methodLink "MagnetPoemsLaw" 143 yL_keep) ∈ WG := WG_t3 (List.mem_of_getElem? (i := 204) (by decide +kernel)) rfl
theorem wd_761 : (Cond.static yL_keep) ∈ WG := WG_t3 (List.mem_of_getElem? (i := 205) (by decide +kernel)) rfl
theorem wd_762 : (Cond.codeWith yL_keep method_14_code 4 (Option.some FieldType.int) [(0, 9, 12, 31)]) ∈ WG := WG_t3 (List.mem_of_getElem? (i := 206) (rfl)) rfl
theorem wd_763 : (Cond.methodLink "MagnetPoemsLaw" 52 yX3_keep) ∈ WG := WG_t3 (List.mem_of_getElem? (i := 207) (by decide +kernel)) rfl
theorem wd_764 : (Cond.instanceMethod yX3_keep) ∈ WG := WG_t3 (List.mem_of_getElem? (i := 208) (by decide +kernel)) rfl
theorem wd_765 : (Cond.selects "MagnetPoems" yX3_keep yX3_keep) ∈ WG := WG_t3 (List.mem_of_getElem? (i := 209) (by decide +kernel)) rfl
theorem wd_766 : (Cond.code yX3_keep prog_1_method_15_code 3 (Option.some FieldType.int)) ∈ WG := WG_t3 (List.mem_of_getElem? (i := 210) (rfl)) rfl
theorem wd_767 : (Cond.methodLink "MagnetPoems" 210 yX3_isSlot) ∈ WG := WG_t3 (List.mem_of_getElem? (i := 211) (by decide +kernel)) rfl
theorem wd_768 : (Cond.static yX3_isSlot) ∈ WG := WG_t3 (List.mem_of_getElem? (i := 212) (by decide +kernel)) rfl
theorem wd_769 : (Cond.code yX3_isSlot prog_1_method_47_code 1 (Option.some FieldType.boolean)) ∈ WG := WG_t3 (List.mem_of_getElem? (i := 213) (rfl)) rfl
theorem wd_771 : (Cond.methodLink "MagnetPoemsLaw" 146 yL_goBack) ∈ WG := WG_t3 (List.mem_of_getElem? (i := 215) (by decide +kernel)) rfl
theorem wd_772 : (Cond.static yL_goBack) ∈ WG := WG_t3 (List.mem_of_getElem? (i := 216) (by decide +kernel)) rfl
theorem wd_773 : (Cond.codeWith yL_goBack method_15_code 4 (Option.some FieldType.int) [(0, 9, 12, 31), (0, 9, 15, 15)]) ∈ WG := WG_t3 (List.mem_of_getElem? (i := 217) (rfl)) rfl
theorem wd_774 : (Cond.methodLink "MagnetPoemsLaw" 55 yX3_goBack) ∈ WG := WG_t3 (List.mem_of_getElem? (i := 218) (by decide +kernel)) rfl
theorem wd_775 : (Cond.instanceMethod yX3_goBack) ∈ WG := WG_t3 (List.mem_of_getElem? (i := 219) (by decide +kernel)) rfl
theorem wd_776 : (Cond.selects "MagnetPoems" yX3_goBack yX3_goBack) ∈ WG := WG_t3 (List.mem_of_getElem? (i := 220) (by decide +kernel)) rfl
theorem wd_777 : (Cond.code yX3_goBack prog_1_method_16_code 3 (Option.some FieldType.int)) ∈ WG := WG_t3 (List.mem_of_getElem? (i := 221) (rfl)) rfl
theorem wd_779 : (Cond.methodLink "MagnetPoemsLaw" 149 yL_undo) ∈ WG := WG_t3 (List.mem_of_getElem? (i := 223) (by decide +kernel)) rfl
theorem wd_780 : (Cond.static yL_undo) ∈ WG := WG_t3 (List.mem_of_getElem? (i := 224) (by decide +kernel)) rfl
theorem wd_781 : (Cond.codeWith yL_undo method_16_code 3 (Option.some FieldType.int) [(0, 8, 11, 15)]) ∈ WG := WG_t3 (List.mem_of_getElem? (i := 225) (rfl)) rfl
theorem wd_782 : (Cond.methodLink "MagnetPoemsLaw" 58 yX3_undo) ∈ WG := WG_t3 (List.mem_of_getElem? (i := 226) (by decide +kernel)) rfl
theorem wd_783 : (Cond.instanceMethod yX3_undo) ∈ WG := WG_t3 (List.mem_of_getElem? (i := 227) (by decide +kernel)) rfl
theorem wd_784 : (Cond.selects "MagnetPoems" yX3_undo yX3_undo) ∈ WG := WG_t3 (List.mem_of_getElem? (i := 228) (by decide +kernel)) rfl
theorem wd_785 : (Cond.code yX3_undo prog_1_method_17_code 1 (Option.some FieldType.int)) ∈ WG := WG_t3 (List.mem_of_getElem? (i := 229) (rfl)) rfl
theorem wd_787 : (Cond.methodLink "MagnetPoems" 228 yX1_restore) ∈ WG := WG_t3 (List.mem_of_getElem? (i := 231) (by decide +kernel)) rfl
theorem wd_788 : (Cond.instanceMethod yX1_restore) ∈ WG := WG_t3 (List.mem_of_getElem? (i := 232) (by decide +kernel)) rfl
theorem wd_789 : (Cond.selects "MagnetPoems$History" yX1_restore yX1_restore) ∈ WG := WG_t3 (List.mem_of_getElem? (i := 233) (by decide +kernel)) rfl
theorem wd_790 : (Cond.code yX1_restore prog_3_method_3_code 3 (Option.none : Option FieldType)) ∈ WG := WG_t3 (List.mem_of_getElem? (i := 234) (rfl)) rfl
theorem wd_791 : (Cond.methodLink "MagnetPoemsLaw" 153 yL_wordOf) ∈ WG := WG_t3 (List.mem_of_getElem? (i := 235) (by decide +kernel)) rfl
theorem wd_792 : (Cond.static yL_wordOf) ∈ WG := WG_t3 (List.mem_of_getElem? (i := 236) (by decide +kernel)) rfl
theorem wd_793 : (Cond.codeWith yL_wordOf method_17_code 5 (Option.some FieldType.int) [(0, 10, 13, 13), (0, 10, 17, 31)]) ∈ WG := WG_t3 (List.mem_of_getElem? (i := 237) (rfl)) rfl
theorem wd_794 : (Cond.methodLink "MagnetPoemsLaw" 62 yX3_wordOf) ∈ WG := WG_t3 (List.mem_of_getElem? (i := 238) (by decide +kernel)) rfl
theorem wd_795 : (Cond.instanceMethod yX3_wordOf) ∈ WG := WG_t3 (List.mem_of_getElem? (i := 239) (by decide +kernel)) rfl
theorem wd_796 : (Cond.selects "MagnetPoems" yX3_wordOf yX3_wordOf) ∈ WG := WG_t4 (List.mem_of_getElem? (i := 0) (by decide +kernel)) rfl
theorem wd_797 : (Cond.code yX3_wordOf prog_1_method_18_code 3 (Option.some FieldType.int)) ∈ WG := WG_t4 (List.mem_of_getElem? (i := 1) (rfl)) rfl
theorem wd_799 : (Cond.methodLink "MagnetPoemsLaw" 156 yL_at) ∈ WG := WG_t4 (List.mem_of_getElem? (i := 3) (by decide +kernel)) rfl
theorem wd_800 : (Cond.static yL_at) ∈ WG := WG_t4 (List.mem_of_getElem? (i := 4) (by decide +kernel)) rfl
theorem wd_801 : (Cond.codeWith yL_at method_18_code 6 (Option.some FieldType.int) [(0, 12, 15, 13)]) ∈ WG := WG_t4 (List.mem_of_getElem? (i := 5) (rfl)) rfl
theorem wd_802 : (Cond.methodLink "MagnetPoemsLaw" 65 yX3_at) ∈ WG := WG_t4 (List.mem_of_getElem? (i := 6) (by decide +kernel)) rfl
theorem wd_803 : (Cond.instanceMethod yX3_at) ∈ WG := WG_t4 (List.mem_of_getElem? (i := 7) (by decide +kernel)) rfl
theorem wd_804 : (Cond.selects "MagnetPoems" yX3_at yX3_at) ∈ WG := WG_t4 (List.mem_of_getElem? (i := 8) (by decide +kernel)) rfl
theorem wd_805 : (Cond.code yX3_at prog_1_method_19_code 4 (Option.some FieldType.int)) ∈ WG := WG_t4 (List.mem_of_getElem? (i := 9) (rfl)) rfl
theorem wd_807 : (Cond.methodLink "MagnetPoemsLaw" 159 yL_lineOf) ∈ WG := WG_t4 (List.mem_of_getElem? (i := 11) (by decide +kernel)) rfl
theorem wd_808 : (Cond.static yL_lineOf) ∈ WG := WG_t4 (List.mem_of_getElem? (i := 12) (by decide +kernel)) rfl
theorem wd_809 : (Cond.codeWith yL_lineOf method_19_code 6 (Option.some FieldType.int) [(0, 12, 15, 13), (0, 12, 19, 31)]) ∈ WG := WG_t4 (List.mem_of_getElem? (i := 13) (rfl)) rfl
theorem wd_810 : (Cond.methodLink "MagnetPoemsLaw" 68 yX3_lineOf) ∈ WG := WG_t4 (List.mem_of_getElem? (i := 14) (by decide +kernel)) rfl
theorem wd_811 : (Cond.instanceMethod yX3_lineOf) ∈ WG := WG_t4 (List.mem_of_getElem? (i := 15) (by decide +kernel)) rfl
theorem wd_812 : (Cond.selects "MagnetPoems" yX3_lineOf yX3_lineOf) ∈ WG := WG_t4 (List.mem_of_getElem? (i := 16) (by decide +kernel)) rfl
theorem wd_813 : (Cond.code yX3_lineOf prog_1_method_20_code 4 (Option.some FieldType.int)) ∈ WG := WG_t4 (List.mem_of_getElem? (i := 17) (rfl)) rfl
theorem wd_815 : (Cond.methodLink "MagnetPoemsLaw" 162 yL_doorOf) ∈ WG := WG_t4 (List.mem_of_getElem? (i := 19) (by decide +kernel)) rfl
theorem wd_816 : (Cond.static yL_doorOf) ∈ WG := WG_t4 (List.mem_of_getElem? (i := 20) (by decide +kernel)) rfl
theorem wd_817 : (Cond.codeWith yL_doorOf method_20_code 5 (Option.some FieldType.int) [(0, 10, 13, 13), (0, 10, 17, 31)]) ∈ WG := WG_t4 (List.mem_of_getElem? (i := 21) (rfl)) rfl
theorem wd_818 : (Cond.methodLink "MagnetPoemsLaw" 71 yX3_doorOf) ∈ WG := WG_t4 (List.mem_of_getElem? (i := 22) (by decide +kernel)) rfl
theorem wd_819 : (Cond.instanceMethod yX3_doorOf) ∈ WG := WG_t4 (List.mem_of_getElem? (i := 23) (by decide +kernel)) rfl
theorem wd_820 : (Cond.selects "MagnetPoems" yX3_doorOf yX3_doorOf) ∈ WG := WG_t4 (List.mem_of_getElem? (i := 24) (by decide +kernel)) rfl
theorem wd_821 : (Cond.code yX3_doorOf prog_1_method_21_code 3 (Option.some FieldType.int)) ∈ WG := WG_t4 (List.mem_of_getElem? (i := 25) (rfl)) rfl
theorem wd_823 : (Cond.methodLink "MagnetPoemsLaw" 165 yL_count) ∈ WG := WG_t4 (List.mem_of_getElem? (i := 27) (by decide +kernel)) rfl
theorem wd_824 : (Cond.static yL_count) ∈ WG := WG_t4 (List.mem_of_getElem? (i := 28) (by decide +kernel)) rfl
theorem wd_825 : (Cond.codeWith yL_count method_21_code 4 (Option.some FieldType.int) [(0, 9, 12, 31)]) ∈ WG := WG_t4 (List.mem_of_getElem? (i := 29) (rfl)) rfl
theorem wd_826 : (Cond.methodLink "MagnetPoemsLaw" 74 yX3_count) ∈ WG := WG_t4 (List.mem_of_getElem? (i := 30) (by decide +kernel)) rfl
theorem wd_827 : (Cond.instanceMethod yX3_count) ∈ WG := WG_t4 (List.mem_of_getElem? (i := 31) (by decide +kernel)) rfl
theorem wd_828 : (Cond.selects "MagnetPoems" yX3_count yX3_count) ∈ WG := WG_t4 (List.mem_of_getElem? (i := 32) (by decide +kernel)) rfl
theorem wd_829 : (Cond.code yX3_count prog_1_method_22_code 2 (Option.some FieldType.int)) ∈ WG := WG_t4 (List.mem_of_getElem? (i := 33) (rfl)) rfl
theorem wd_831 : (Cond.methodLink "MagnetPoemsLaw" 168 yL_setting) ∈ WG := WG_t4 (List.mem_of_getElem? (i := 35) (by decide +kernel)) rfl
theorem wd_832 : (Cond.static yL_setting) ∈ WG := WG_t4 (List.mem_of_getElem? (i := 36) (by decide +kernel)) rfl
theorem wd_833 : (Cond.codeWith yL_setting method_22_code 4 (Option.some FieldType.int) [(0, 9, 12, 13)]) ∈ WG := WG_t4 (List.mem_of_getElem? (i := 37) (rfl)) rfl
theorem wd_834 : (Cond.methodLink "MagnetPoemsLaw" 77 yX3_setting) ∈ WG := WG_t4 (List.mem_of_getElem? (i := 38) (by decide +kernel)) rfl
theorem wd_835 : (Cond.instanceMethod yX3_setting) ∈ WG := WG_t4 (List.mem_of_getElem? (i := 39) (by decide +kernel)) rfl
theorem wd_836 : (Cond.selects "MagnetPoems" yX3_setting yX3_setting) ∈ WG := WG_t4 (List.mem_of_getElem? (i := 40) (by decide +kernel)) rfl
theorem wd_837 : (Cond.code yX3_setting prog_1_method_23_code 2 (Option.some FieldType.int)) ∈ WG := WG_t4 (List.mem_of_getElem? (i := 41) (rfl)) rfl
theorem wd_838 : (Cond.methodLink "MagnetPoemsLaw" 171 yL_whyNot) ∈ WG := WG_t4 (List.mem_of_getElem? (i := 42) (by decide +kernel)) rfl
theorem wd_839 : (Cond.static yL_whyNot) ∈ WG := WG_t4 (List.mem_of_getElem? (i := 43) (by decide +kernel)) rfl
theorem wd_840 : (Cond.codeWith yL_whyNot method_23_code 7 (Option.some FieldType.int) [(0, 14, 17, 13)]) ∈ WG := WG_t4 (List.mem_of_getElem? (i := 44) (rfl)) rfl
theorem wd_841 : (Cond.methodLink "MagnetPoemsLaw" 80 yX3_whyNot) ∈ WG := WG_t4 (List.mem_of_getElem? (i := 45) (by decide +kernel)) rfl
theorem wd_842 : (Cond.instanceMethod yX3_whyNot) ∈ WG := WG_t4 (List.mem_of_getElem? (i := 46) (by decide +kernel)) rfl
theorem wd_843 : (Cond.selects "MagnetPoems" yX3_whyNot yX3_whyNot) ∈ WG := WG_t4 (List.mem_of_getElem? (i := 47) (by decide +kernel)) rfl
theorem wd_844 : (Cond.code yX3_whyNot prog_1_method_24_code 6 (Option.some FieldType.int)) ∈ WG := WG_t4 (List.mem_of_getElem? (i := 48) (rfl)) rfl
theorem wd_845 : (Cond.methodLink "MagnetPoemsLaw" 174 yL_bestWord) ∈ WG := WG_t4 (List.mem_of_getElem? (i := 49) (by decide +kernel)) rfl
theorem wd_846 : (Cond.static yL_bestWord) ∈ WG := WG_t4 (List.mem_of_getElem? (i := 50) (by decide +kernel)) rfl
theorem wd_847 : (Cond.codeWith yL_bestWord method_24_code 5 (Option.some FieldType.int) [(0, 10, 13, 13)]) ∈ WG := WG_t4 (List.mem_of_getElem? (i := 51) (rfl)) rfl
theorem wd_848 : (Cond.methodLink "MagnetPoemsLaw" 83 yX3_bestWord) ∈ WG := WG_t4 (List.mem_of_getElem? (i := 52) (by decide +kernel)) rfl
theorem wd_849 : (Cond.instanceMethod yX3_bestWord) ∈ WG := WG_t4 (List.mem_of_getElem? (i := 53) (by decide +kernel)) rfl
theorem wd_850 : (Cond.selects "MagnetPoems" yX3_bestWord yX3_bestWord) ∈ WG := WG_t4 (List.mem_of_getElem? (i := 54) (by decide +kernel)) rfl
theorem wd_851 : (Cond.code yX3_bestWord prog_1_method_25_code 3 (Option.some FieldType.int)) ∈ WG := WG_t4 (List.mem_of_getElem? (i := 55) (rfl)) rfl
theorem wd_852 : (Cond.methodLink "MagnetPoemsLaw" 181 yL_ifSlept) ∈ WG := WG_t4 (List.mem_of_getElem? (i := 56) (by decide +kernel)) rfl
theorem wd_853 : (Cond.static yL_ifSlept) ∈ WG := WG_t4 (List.mem_of_getElem? (i := 57) (by decide +kernel)) rfl
theorem wd_854 : (Cond.codeWith yL_ifSlept method_25_code 5 (Option.some FieldType.int) [(0, 10, 13, 13), (0, 10, 17, 31)]) ∈ WG := WG_t4 (List.mem_of_getElem? (i := 58) (rfl)) rfl
theorem wd_855 : (Cond.methodLink "MagnetPoemsLaw" 86 yX3_ifSlept) ∈ WG := WG_t4 (List.mem_of_getElem? (i := 59) (by decide +kernel)) rfl
theorem wd_856 : (Cond.instanceMethod yX3_ifSlept) ∈ WG := WG_t4 (List.mem_of_getElem? (i := 60) (by decide +kernel)) rfl
theorem wd_857 : (Cond.selects "MagnetPoems" yX3_ifSlept yX3_ifSlept) ∈ WG := WG_t4 (List.mem_of_getElem? (i := 61) (by decide +kernel)) rfl
theorem wd_858 : (Cond.code yX3_ifSlept prog_1_method_27_code 3 (Option.some FieldType.int)) ∈ WG := WG_t4 (List.mem_of_getElem? (i := 62) (rfl)) rfl
theorem wd_859 : (Cond.classLink "MagnetPoemsLaw" 90 "MagnetPoemsModel") ∈ WG := WG_t4 (List.mem_of_getElem? (i := 63) (by decide +kernel)) rfl
theorem wd_860 : (Cond.instantiable "MagnetPoemsModel" 17) ∈ WG := WG_t4 (List.mem_of_getElem? (i := 64) (by decide +kernel)) rfl
theorem wd_861 : (Cond.methodLink "MagnetPoemsLaw" 92 yX4_init) ∈ WG := WG_t4 (List.mem_of_getElem? (i := 65) (by decide +kernel)) rfl
theorem wd_862 : (Cond.instanceMethod yX4_init) ∈ WG := WG_t4 (List.mem_of_getElem? (i := 66) (by decide +kernel)) rfl
theorem wd_863 : (Cond.code yX4_init prog_6_method_1_code 1 (Option.none : Option FieldType)) ∈ WG := WG_t4 (List.mem_of_getElem? (i := 67) (rfl)) rfl
theorem wd_864 : (Cond.methodLink "MagnetPoemsModel" 1 ⟨"java/lang/Object", "<init>", "()V"⟩) ∈ WG := WG_t4 (List.mem_of_getElem? (i := 68) (by decide +kernel)) rfl
theorem wd_865 : (Cond.fieldLink "MagnetPoemsModel" 7 "MagnetPoemsModel" "row" "[I") ∈ WG := WG_t4 (List.mem_of_getElem? (i := 69) (by decide +kernel)) rfl
theorem wd_866 : (Cond.fieldLink "MagnetPoemsModel" 13 "MagnetPoemsModel" "saved" "[I") ∈ WG := WG_t4 (List.mem_of_getElem? (i := 70) (by decide +kernel)) rfl
theorem wd_867 : (Cond.fieldLink "MagnetPoemsModel" 50 "MagnetPoemsModel" "savedMany" "I") ∈ WG := WG_t4 (List.mem_of_getElem? (i := 71) (by decide +kernel)) rfl
theorem wd_868 : (Cond.fieldLink "MagnetPoemsModel" 16 "MagnetPoemsModel" "slots" "[I") ∈ WG := WG_t4 (List.mem_of_getElem? (i := 72) (by decide +kernel)) rfl
theorem wd_869 : (Cond.fieldLink "MagnetPoemsModel" 19 "MagnetPoemsModel" "filled" "[Z") ∈ WG := WG_t4 (List.mem_of_getElem? (i := 73) (by decide +kernel)) rfl
theorem wd_870 : (Cond.fieldLink "MagnetPoemsModel" 23 "MagnetPoemsModel" "aside" "[I") ∈ WG := WG_t4 (List.mem_of_getElem? (i := 74) (by decide +kernel)) rfl
theorem wd_871 : (Cond.fieldLink "MagnetPoemsModel" 26 "MagnetPoemsModel" "buffer" "[I") ∈ WG := WG_t4 (List.mem_of_getElem? (i := 75) (by decide +kernel)) rfl
theorem wd_872 : (Cond.fieldLink "MagnetPoemsModel" 163 "MagnetPoemsModel" "length" "I") ∈ WG := WG_t4 (List.mem_of_getElem? (i := 76) (by decide +kernel)) rfl
theorem wd_873 : (Cond.fieldLink "MagnetPoemsModel" 38 "MagnetPoemsModel" "thrown" "I") ∈ WG := WG_t4 (List.mem_of_getElem? (i := 77) (by decide +kernel)) rfl
theorem wd_874 : (Cond.fieldLink "MagnetPoemsModel" 173 "MagnetPoemsModel" "spot" "I") ∈ WG := WG_t4 (List.mem_of_getElem? (i := 78) (by decide +kernel)) rfl
theorem wd_875 : (Cond.fieldLink "MagnetPoemsModel" 166 "MagnetPoemsModel" "stood" "J") ∈ WG := WG_t4 (List.mem_of_getElem? (i := 79) (by decide +kernel)) rfl
theorem wd_876 : (Cond.fieldLink "MagnetPoemsModel" 182 "MagnetPoemsModel" "poemMany" "I") ∈ WG := WG_t4 (List.mem_of_getElem? (i := 80) (by decide +kernel)) rfl
theorem wd_877 : (Cond.fieldLink "MagnetPoemsModel" 29 "MagnetPoemsModel" "poemWord" "[I") ∈ WG := WG_t4 (List.mem_of_getElem? (i := 81) (by decide +kernel)) rfl
theorem wd_878 : (Cond.fieldLink "MagnetPoemsModel" 32 "MagnetPoemsModel" "poemLine" "[I") ∈ WG := WG_t4 (List.mem_of_getElem? (i := 82) (by decide +kernel)) rfl
theorem wd_879 : (Cond.fieldLink "MagnetPoemsModel" 35 "MagnetPoemsModel" "draft" "[I") ∈ WG := WG_t4 (List.mem_of_getElem? (i := 83) (by decide +kernel)) rfl
theorem wd_880 : (Cond.fieldLink "MagnetPoemsModel" 192 "MagnetPoemsModel" "drafted" "I") ∈ WG := WG_t4 (List.mem_of_getElem? (i := 84) (by decide +kernel)) rfl
theorem wd_881 : (Cond.fieldLink "MagnetPoemsModel" 258 "MagnetPoemsModel" "hash" "J") ∈ WG := WG_t4 (List.mem_of_getElem? (i := 85) (by decide +kernel)) rfl
theorem wd_882 : (Cond.laysFinal "MagnetPoemsModel" "MagnetPoemsModel" "row" "[I") ∈ WG := WG_t4 (List.mem_of_getElem? (i := 86) (by decide +kernel)) rfl
theorem wd_883 : (Cond.soleField "MagnetPoemsModel" "row") ∈ WG := WG_t4 (List.mem_of_getElem? (i := 87) (by decide +kernel)) rfl
theorem wd_884 : (Cond.laysFinal "MagnetPoemsModel" "MagnetPoemsModel" "saved" "[I") ∈ WG := WG_t4 (List.mem_of_getElem? (i := 88) (by decide +kernel)) rfl
theorem wd_885 : (Cond.soleField "MagnetPoemsModel" "saved") ∈ WG := WG_t4 (List.mem_of_getElem? (i := 89) (by decide +kernel)) rfl
theorem wd_886 : (Cond.lays "MagnetPoemsModel" "MagnetPoemsModel" "savedMany" "I") ∈ WG := WG_t4 (List.mem_of_getElem? (i := 90) (by decide +kernel)) rfl
theorem wd_887 : (Cond.soleField "MagnetPoemsModel" "savedMany") ∈ WG := WG_t4 (List.mem_of_getElem? (i := 91) (by decide +kernel)) rfl
theorem wd_888 : (Cond.laysFinal "MagnetPoemsModel" "MagnetPoemsModel" "slots" "[I") ∈ WG := WG_t4 (List.mem_of_getElem? (i := 92) (by decide +kernel)) rfl
theorem wd_889 : (Cond.soleField "MagnetPoemsModel" "slots") ∈ WG := WG_t4 (List.mem_of_getElem? (i := 93) (by decide +kernel)) rfl
theorem wd_890 : (Cond.laysFinal "MagnetPoemsModel" "MagnetPoemsModel" "filled" "[Z") ∈ WG := WG_t4 (List.mem_of_getElem? (i := 94) (by decide +kernel)) rfl
theorem wd_891 : (Cond.soleField "MagnetPoemsModel" "filled") ∈ WG := WG_t4 (List.mem_of_getElem? (i := 95) (by decide +kernel)) rfl
theorem wd_892 : (Cond.laysFinal "MagnetPoemsModel" "MagnetPoemsModel" "aside" "[I") ∈ WG := WG_t4 (List.mem_of_getElem? (i := 96) (by decide +kernel)) rfl
theorem wd_893 : (Cond.soleField "MagnetPoemsModel" "aside") ∈ WG := WG_t4 (List.mem_of_getElem? (i := 97) (by decide +kernel)) rfl
theorem wd_894 : (Cond.laysFinal "MagnetPoemsModel" "MagnetPoemsModel" "buffer" "[I") ∈ WG := WG_t4 (List.mem_of_getElem? (i := 98) (by decide +kernel)) rfl
theorem wd_895 : (Cond.soleField "MagnetPoemsModel" "buffer") ∈ WG := WG_t4 (List.mem_of_getElem? (i := 99) (by decide +kernel)) rfl
theorem wd_896 : (Cond.lays "MagnetPoemsModel" "MagnetPoemsModel" "length" "I") ∈ WG := WG_t4 (List.mem_of_getElem? (i := 100) (by decide +kernel)) rfl
theorem wd_897 : (Cond.soleField "MagnetPoemsModel" "length") ∈ WG := WG_t4 (List.mem_of_getElem? (i := 101) (by decide +kernel)) rfl
theorem wd_898 : (Cond.lays "MagnetPoemsModel" "MagnetPoemsModel" "thrown" "I") ∈ WG := WG_t4 (List.mem_of_getElem? (i := 102) (by decide +kernel)) rfl
theorem wd_899 : (Cond.soleField "MagnetPoemsModel" "thrown") ∈ WG := WG_t4 (List.mem_of_getElem? (i := 103) (by decide +kernel)) rfl
theorem wd_900 : (Cond.lays "MagnetPoemsModel" "MagnetPoemsModel" "spot" "I") ∈ WG := WG_t4 (List.mem_of_getElem? (i := 104) (by decide +kernel)) rfl
theorem wd_901 : (Cond.soleField "MagnetPoemsModel" "spot") ∈ WG := WG_t4 (List.mem_of_getElem? (i := 105) (by decide +kernel)) rfl
theorem wd_902 : (Cond.lays "MagnetPoemsModel" "MagnetPoemsModel" "stood" "J") ∈ WG := WG_t4 (List.mem_of_getElem? (i := 106) (by decide +kernel)) rfl
theorem wd_903 : (Cond.soleField "MagnetPoemsModel" "stood") ∈ WG := WG_t4 (List.mem_of_getElem? (i := 107) (by decide +kernel)) rfl
theorem wd_904 : (Cond.lays "MagnetPoemsModel" "MagnetPoemsModel" "poemMany" "I") ∈ WG := WG_t4 (List.mem_of_getElem? (i := 108) (by decide +kernel)) rfl
theorem wd_905 : (Cond.soleField "MagnetPoemsModel" "poemMany") ∈ WG := WG_t4 (List.mem_of_getElem? (i := 109) (by decide +kernel)) rfl
theorem wd_906 : (Cond.laysFinal "MagnetPoemsModel" "MagnetPoemsModel" "poemWord" "[I") ∈ WG := WG_t4 (List.mem_of_getElem? (i := 110) (by decide +kernel)) rfl
theorem wd_907 : (Cond.soleField "MagnetPoemsModel" "poemWord") ∈ WG := WG_t4 (List.mem_of_getElem? (i := 111) (by decide +kernel)) rfl
theorem wd_908 : (Cond.laysFinal "MagnetPoemsModel" "MagnetPoemsModel" "poemLine" "[I") ∈ WG := WG_t4 (List.mem_of_getElem? (i := 112) (by decide +kernel)) rfl
theorem wd_909 : (Cond.soleField "MagnetPoemsModel" "poemLine") ∈ WG := WG_t4 (List.mem_of_getElem? (i := 113) (by decide +kernel)) rfl
theorem wd_910 : (Cond.laysFinal "MagnetPoemsModel" "MagnetPoemsModel" "draft" "[I") ∈ WG := WG_t4 (List.mem_of_getElem? (i := 114) (by decide +kernel)) rfl
theorem wd_911 : (Cond.soleField "MagnetPoemsModel" "draft") ∈ WG := WG_t4 (List.mem_of_getElem? (i := 115) (by decide +kernel)) rfl
theorem wd_912 : (Cond.lays "MagnetPoemsModel" "MagnetPoemsModel" "drafted" "I") ∈ WG := WG_t4 (List.mem_of_getElem? (i := 116) (by decide +kernel)) rfl
theorem wd_913 : (Cond.soleField "MagnetPoemsModel" "drafted") ∈ WG := WG_t4 (List.mem_of_getElem? (i := 117) (by decide +kernel)) rfl
theorem wd_914 : (Cond.lays "MagnetPoemsModel" "MagnetPoemsModel" "hash" "J") ∈ WG := WG_t4 (List.mem_of_getElem? (i := 118) (by decide +kernel)) rfl
theorem wd_915 : (Cond.soleField "MagnetPoemsModel" "hash") ∈ WG := WG_t4 (List.mem_of_getElem? (i := 119) (by decide +kernel)) rfl
theorem wd_916 : (Cond.superclass "MagnetPoemsModel" "java/lang/Object") ∈ WG := WG_t4 (List.mem_of_getElem? (i := 120) (by decide +kernel)) rfl
theorem wd_917 : (Cond.methodLink "MagnetPoemsLaw" 99 yX4_thrown) ∈ WG := WG_t4 (List.mem_of_getElem? (i := 121) (by decide +kernel)) rfl
theorem wd_918 : (Cond.instanceMethod yX4_thrown) ∈ WG := WG_t4 (List.mem_of_getElem? (i := 122) (by decide +kernel)) rfl
theorem wd_919 : (Cond.selects "MagnetPoemsModel" yX4_thrown yX4_thrown) ∈ WG := WG_t4 (List.mem_of_getElem? (i := 123) (by decide +kernel)) rfl
theorem wd_920 : (Cond.code yX4_thrown prog_6_method_2_code 1 (Option.some FieldType.int)) ∈ WG := WG_t4 (List.mem_of_getElem? (i := 124) (rfl)) rfl
theorem wd_921 : (Cond.methodLink "MagnetPoemsLaw" 98 yX4_put) ∈ WG := WG_t4 (List.mem_of_getElem? (i := 125) (by decide +kernel)) rfl
theorem wd_922 : (Cond.instanceMethod yX4_put) ∈ WG := WG_t4 (List.mem_of_getElem? (i := 126) (by decide +kernel)) rfl
theorem wd_923 : (Cond.selects "MagnetPoemsModel" yX4_put yX4_put) ∈ WG := WG_t4 (List.mem_of_getElem? (i := 127) (by decide +kernel)) rfl
theorem wd_924 : (Cond.code yX4_put prog_6_method_40_code 6 (Option.some FieldType.int)) ∈ WG := WG_t4 (List.mem_of_getElem? (i := 128) (rfl)) rfl
theorem wd_925 : (Cond.methodLink "MagnetPoemsModel" 128 yX4_isWord) ∈ WG := WG_t4 (List.mem_of_getElem? (i := 129) (by decide +kernel)) rfl
theorem wd_926 : (Cond.static yX4_isWord) ∈ WG := WG_t4 (List.mem_of_getElem? (i := 130) (by decide +kernel)) rfl
theorem wd_927 : (Cond.code yX4_isWord prog_6_method_5_code 1 (Option.some FieldType.boolean)) ∈ WG := WG_t4 (List.mem_of_getElem? (i := 131) (rfl)) rfl
theorem wd_928 : (Cond.methodLink "MagnetPoemsModel" 42 yX4_in) ∈ WG := WG_t4 (List.mem_of_getElem? (i := 132) (by decide +kernel)) rfl
theorem wd_929 : (Cond.static yX4_in) ∈ WG := WG_t4 (List.mem_of_getElem? (i := 133) (by decide +kernel)) rfl
theorem wd_930 : (Cond.code yX4_in prog_6_method_4_code 3 (Option.some FieldType.boolean)) ∈ WG := WG_t4 (List.mem_of_getElem? (i := 134) (rfl)) rfl
theorem wd_931 : (Cond.methodLink "MagnetPoemsModel" 131 yX4_isLine) ∈ WG := WG_t4 (List.mem_of_getElem? (i := 135) (by decide +kernel)) rfl
theorem wd_932 : (Cond.static yX4_isLine) ∈ WG := WG_t4 (List.mem_of_getElem? (i := 136) (by decide +kernel)) rfl
theorem wd_933 : (Cond.code yX4_isLine prog_6_method_7_code 2 (Option.some FieldType.boolean)) ∈ WG := WG_t4 (List.mem_of_getElem? (i := 137) (rfl)) rfl
theorem wd_934 : (Cond.methodLink "MagnetPoemsModel" 46 yX4_isDoor) ∈ WG := WG_t4 (List.mem_of_getElem? (i := 138) (by decide +kernel)) rfl
theorem wd_935 : (Cond.static yX4_isDoor) ∈ WG := WG_t4 (List.mem_of_getElem? (i := 139) (by decide +kernel)) rfl
theorem wd_936 : (Cond.code yX4_isDoor prog_6_method_6_code 1 (Option.some FieldType.boolean)) ∈ WG := WG_t4 (List.mem_of_getElem? (i := 140) (rfl)) rfl
theorem wd_937 : (Cond.methodLink "MagnetPoemsModel" 134 yX4_fails) ∈ WG := WG_t4 (List.mem_of_getElem? (i := 141) (by decide +kernel)) rfl
theorem wd_939 : (Cond.instanceMethod yX4_fails) ∈ WG := WG_t4 (List.mem_of_getElem? (i := 143) (by decide +kernel)) rfl
theorem wd_940 : (Cond.code yX4_fails prog_6_method_3_code 2 (Option.some FieldType.int)) ∈ WG := WG_t4 (List.mem_of_getElem? (i := 144) (rfl)) rfl
theorem wd_941 : (Cond.methodLink "MagnetPoemsModel" 57 yX4_lineOfWord) ∈ WG := WG_t4 (List.mem_of_getElem? (i := 145) (by decide +kernel)) rfl
theorem wd_943 : (Cond.instanceMethod yX4_lineOfWord) ∈ WG := WG_t4 (List.mem_of_getElem? (i := 147) (by decide +kernel)) rfl
theorem wd_944 : (Cond.code yX4_lineOfWord prog_6_method_16_code 4 (Option.some FieldType.int)) ∈ WG := WG_t4 (List.mem_of_getElem? (i := 148) (rfl)) rfl
theorem wd_945 : (Cond.methodLink "MagnetPoemsModel" 53 yX4_wordAt) ∈ WG := WG_t4 (List.mem_of_getElem? (i := 149) (by decide +kernel)) rfl
theorem wd_947 : (Cond.instanceMethod yX4_wordAt) ∈ WG := WG_t4 (List.mem_of_getElem? (i := 151) (by decide +kernel)) rfl
theorem wd_948 : (Cond.code yX4_wordAt prog_6_method_14_code 3 (Option.some FieldType.int)) ∈ WG := WG_t4 (List.mem_of_getElem? (i := 152) (rfl)) rfl
theorem wd_949 : (Cond.methodLink "MagnetPoemsModel" 137 yX4_save) ∈ WG := WG_t4 (List.mem_of_getElem? (i := 153) (by decide +kernel)) rfl
theorem wd_951 : (Cond.instanceMethod yX4_save) ∈ WG := WG_t4 (List.mem_of_getElem? (i := 155) (by decide +kernel)) rfl
theorem wd_952 : (Cond.code yX4_save prog_6_method_8_code 2 (Option.none : Option FieldType)) ∈ WG := WG_t4 (List.mem_of_getElem? (i := 156) (rfl)) rfl
theorem wd_953 : (Cond.methodLink "MagnetPoemsModel" 140 yX4_reason) ∈ WG := WG_t4 (List.mem_of_getElem? (i := 157) (by decide +kernel)) rfl
theorem wd_955 : (Cond.instanceMethod yX4_reason) ∈ WG := WG_t4 (List.mem_of_getElem? (i := 159) (by decide +kernel)) rfl
theorem wd_956 : (Cond.code yX4_reason prog_6_method_26_code 6 (Option.some FieldType.int)) ∈ WG := WG_t4 (List.mem_of_getElem? (i := 160) (rfl)) rfl
theorem wd_957 : (Cond.methodLink "MagnetPoemsModel" 77 yX4_beatsOn) ∈ WG := WG_t4 (List.mem_of_getElem? (i := 161) (by decide +kernel)) rfl
theorem wd_959 : (Cond.instanceMethod yX4_beatsOn) ∈ WG := WG_t4 (List.mem_of_getElem? (i := 163) (by decide +kernel)) rfl
theorem wd_960 : (Cond.code yX4_beatsOn prog_6_method_23_code 4 (Option.some FieldType.int)) ∈ WG := WG_t4 (List.mem_of_getElem? (i := 164) (rfl)) rfl
theorem wd_961 : (Cond.methodLink "MagnetPoemsModel" 71 yX4_beatsOf) ∈ WG := WG_t4 (List.mem_of_getElem? (i := 165) (by decide +kernel)) rfl
theorem wd_962 : (Cond.static yX4_beatsOf) ∈ WG := WG_t4 (List.mem_of_getElem? (i := 166) (by decide +kernel)) rfl
theorem wd_963 : (Cond.code yX4_beatsOf prog_6_method_13_code 1 (Option.some FieldType.int)) ∈ WG := WG_t4 (List.mem_of_getElem? (i := 167) (rfl)) rfl
theorem wd_964 : (Cond.methodLink "MagnetPoemsModel" 80 yX4_wordWith) ∈ WG := WG_t4 (List.mem_of_getElem? (i := 168) (by decide +kernel)) rfl
theorem wd_966 : (Cond.instanceMethod yX4_wordWith) ∈ WG := WG_t4 (List.mem_of_getElem? (i := 170) (by decide +kernel)) rfl
theorem wd_967 : (Cond.code yX4_wordWith prog_6_method_24_code 5 (Option.some FieldType.int)) ∈ WG := WG_t4 (List.mem_of_getElem? (i := 171) (rfl)) rfl
theorem wd_968 : (Cond.methodLink "MagnetPoemsModel" 84 yX4_clash) ∈ WG := WG_t4 (List.mem_of_getElem? (i := 172) (by decide +kernel)) rfl
theorem wd_969 : (Cond.static yX4_clash) ∈ WG := WG_t4 (List.mem_of_getElem? (i := 173) (by decide +kernel)) rfl
theorem wd_970 : (Cond.code yX4_clash prog_6_method_25_code 2 (Option.some FieldType.boolean)) ∈ WG := WG_t4 (List.mem_of_getElem? (i := 174) (rfl)) rfl
theorem wd_971 : (Cond.methodLink "MagnetPoemsModel" 74 yX4_kindOf) ∈ WG := WG_t4 (List.mem_of_getElem? (i := 175) (by decide +kernel)) rfl
theorem wd_972 : (Cond.static yX4_kindOf) ∈ WG := WG_t4 (List.mem_of_getElem? (i := 176) (by decide +kernel)) rfl
theorem wd_973 : (Cond.code yX4_kindOf prog_6_method_11_code 1 (Option.some FieldType.int)) ∈ WG := WG_t4 (List.mem_of_getElem? (i := 177) (rfl)) rfl
theorem wd_974 : (Cond.methodLink "MagnetPoemsModel" 144 yX4_insert) ∈ WG := WG_t4 (List.mem_of_getElem? (i := 178) (by decide +kernel)) rfl
theorem wd_976 : (Cond.instanceMethod yX4_insert) ∈ WG := WG_t4 (List.mem_of_getElem? (i := 180) (by decide +kernel)) rfl
theorem wd_977 : (Cond.code yX4_insert prog_6_method_20_code 7 (Option.none : Option FieldType)) ∈ WG := WG_t4 (List.mem_of_getElem? (i := 181) (rfl)) rfl
theorem wd_978 : (Cond.methodLink "MagnetPoemsModel" 61 yX4_lastOf) ∈ WG := WG_t4 (List.mem_of_getElem? (i := 182) (by decide +kernel)) rfl
theorem wd_980 : (Cond.instanceMethod yX4_lastOf) ∈ WG := WG_t4 (List.mem_of_getElem? (i := 184) (by decide +kernel)) rfl
theorem wd_981 : (Cond.code yX4_lastOf prog_6_method_15_code 2 (Option.some FieldType.int)) ∈ WG := WG_t4 (List.mem_of_getElem? (i := 185) (rfl)) rfl
theorem wd_982 : (Cond.methodLink "MagnetPoemsModel" 64 yX4_endLoans) ∈ WG := WG_t4 (List.mem_of_getElem? (i := 186) (by decide +kernel)) rfl
theorem wd_984 : (Cond.instanceMethod yX4_endLoans) ∈ WG := WG_t4 (List.mem_of_getElem? (i := 188) (by decide +kernel)) rfl
theorem wd_985 : (Cond.code yX4_endLoans prog_6_method_19_code 4 (Option.none : Option FieldType)) ∈ WG := WG_t4 (List.mem_of_getElem? (i := 189) (rfl)) rfl
theorem wd_986 : (Cond.methodLink "MagnetPoemsLaw" 105 yX4_takeOff) ∈ WG := WG_t4 (List.mem_of_getElem? (i := 190) (by decide +kernel)) rfl
theorem wd_987 : (Cond.instanceMethod yX4_takeOff) ∈ WG := WG_t4 (List.mem_of_getElem? (i := 191) (by decide +kernel)) rfl
theorem wd_988 : (Cond.selects "MagnetPoemsModel" yX4_takeOff yX4_takeOff) ∈ WG := WG_t4 (List.mem_of_getElem? (i := 192) (by decide +kernel)) rfl
theorem wd_989 : (Cond.code yX4_takeOff prog_6_method_41_code 3 (Option.some FieldType.int)) ∈ WG := WG_t4 (List.mem_of_getElem? (i := 193) (rfl)) rfl
theorem wd_990 : (Cond.methodLink "MagnetPoemsModel" 122 yX4_placeOfWord) ∈ WG := WG_t4 (List.mem_of_getElem? (i := 194) (by decide +kernel)) rfl
theorem wd_992 : (Cond.instanceMethod yX4_placeOfWord) ∈ WG := WG_t4 (List.mem_of_getElem? (i := 196) (by decide +kernel)) rfl
theorem wd_993 : (Cond.code yX4_placeOfWord prog_6_method_17_code 4 (Option.some FieldType.int)) ∈ WG := WG_t4 (List.mem_of_getElem? (i := 197) (rfl)) rfl
theorem wd_994 : (Cond.methodLink "MagnetPoemsModel" 68 yX4_removeAt) ∈ WG := WG_t4 (List.mem_of_getElem? (i := 198) (by decide +kernel)) rfl
theorem wd_996 : (Cond.instanceMethod yX4_removeAt) ∈ WG := WG_t4 (List.mem_of_getElem? (i := 200) (by decide +kernel)) rfl
theorem wd_997 : (Cond.code yX4_removeAt prog_6_method_21_code 6 (Option.none : Option FieldType)) ∈ WG := WG_t4 (List.mem_of_getElem? (i := 201) (rfl)) rfl
theorem wd_998 : (Cond.methodLink "MagnetPoemsLaw" 109 yX4_move) ∈ WG := WG_t4 (List.mem_of_getElem? (i := 202) (by decide +kernel)) rfl
theorem wd_999 : (Cond.instanceMethod yX4_move) ∈ WG := WG_t4 (List.mem_of_getElem? (i := 203) (by decide +kernel)) rfl
theorem wd_1000 : (Cond.selects "MagnetPoemsModel" yX4_move yX4_move) ∈ WG := WG_t4 (List.mem_of_getElem? (i := 204) (by decide +kernel)) rfl
theorem wd_1001 : (Cond.code yX4_move prog_6_method_42_code 7 (Option.some FieldType.int)) ∈ WG := WG_t4 (List.mem_of_getElem? (i := 205) (rfl)) rfl
theorem wd_1002 : (Cond.methodLink "MagnetPoemsLaw" 112 yX4_clearDoor) ∈ WG := WG_t4 (List.mem_of_getElem? (i := 206) (by decide +kernel)) rfl
theorem wd_1003 : (Cond.instanceMethod yX4_clearDoor) ∈ WG := WG_t4 (List.mem_of_getElem? (i := 207) (by decide +kernel)) rfl
theorem wd_1004 : (Cond.selects "MagnetPoemsModel" yX4_clearDoor yX4_clearDoor) ∈ WG := WG_t4 (List.mem_of_getElem? (i := 208) (by decide +kernel)) rfl
theorem wd_1005 : (Cond.code yX4_clearDoor prog_6_method_43_code 2 (Option.some FieldType.int)) ∈ WG := WG_t4 (List.mem_of_getElem? (i := 209) (rfl)) rfl
theorem wd_1006 : (Cond.methodLink "MagnetPoemsModel" 148 yX4_emptyDoor) ∈ WG := WG_t4 (List.mem_of_getElem? (i := 210) (by decide +kernel)) rfl
theorem wd_1008 : (Cond.instanceMethod yX4_emptyDoor) ∈ WG := WG_t4 (List.mem_of_getElem? (i := 212) (by decide +kernel)) rfl
theorem wd_1009 : (Cond.code yX4_emptyDoor prog_6_method_22_code 4 (Option.some FieldType.int)) ∈ WG := WG_t4 (List.mem_of_getElem? (i := 213) (rfl)) rfl
theorem wd_1010 : (Cond.methodLink "MagnetPoemsLaw" 115 yX4_borrow) ∈ WG := WG_t4 (List.mem_of_getElem? (i := 214) (by decide +kernel)) rfl
theorem wd_1011 : (Cond.instanceMethod yX4_borrow) ∈ WG := WG_t4 (List.mem_of_getElem? (i := 215) (by decide +kernel)) rfl
theorem wd_1012 : (Cond.selects "MagnetPoemsModel" yX4_borrow yX4_borrow) ∈ WG := WG_t4 (List.mem_of_getElem? (i := 216) (by decide +kernel)) rfl
theorem wd_1013 : (Cond.code yX4_borrow prog_6_method_45_code 7 (Option.some FieldType.int)) ∈ WG := WG_t4 (List.mem_of_getElem? (i := 217) (rfl)) rfl
theorem wd_1014 : (Cond.methodLink "MagnetPoemsModel" 154 yX4_canLend) ∈ WG := WG_t4 (List.mem_of_getElem? (i := 218) (by decide +kernel)) rfl
theorem wd_1016 : (Cond.instanceMethod yX4_canLend) ∈ WG := WG_t4 (List.mem_of_getElem? (i := 220) (by decide +kernel)) rfl
theorem wd_1017 : (Cond.code yX4_canLend prog_6_method_44_code 2 (Option.some FieldType.boolean)) ∈ WG := WG_t4 (List.mem_of_getElem? (i := 221) (rfl)) rfl
theorem wd_1018 : (Cond.methodLink "MagnetPoemsModel" 151 yX4_borrowerOf) ∈ WG := WG_t4 (List.mem_of_getElem? (i := 222) (by decide +kernel)) rfl
theorem wd_1020 : (Cond.instanceMethod yX4_borrowerOf) ∈ WG := WG_t4 (List.mem_of_getElem? (i := 224) (by decide +kernel)) rfl
theorem wd_1021 : (Cond.code yX4_borrowerOf prog_6_method_34_code 3 (Option.some FieldType.int)) ∈ WG := WG_t4 (List.mem_of_getElem? (i := 225) (rfl)) rfl
theorem wd_1022 : (Cond.methodLink "MagnetPoemsModel" 94 yX4_lineEnding) ∈ WG := WG_t4 (List.mem_of_getElem? (i := 226) (by decide +kernel)) rfl
theorem wd_1024 : (Cond.instanceMethod yX4_lineEnding) ∈ WG := WG_t4 (List.mem_of_getElem? (i := 228) (by decide +kernel)) rfl
theorem wd_1025 : (Cond.code yX4_lineEnding prog_6_method_29_code 2 (Option.some FieldType.int)) ∈ WG := WG_t4 (List.mem_of_getElem? (i := 229) (rfl)) rfl
theorem wd_1026 : (Cond.methodLink "MagnetPoemsModel" 91 yX4_endingOf) ∈ WG := WG_t4 (List.mem_of_getElem? (i := 230) (by decide +kernel)) rfl
theorem wd_1027 : (Cond.static yX4_endingOf) ∈ WG := WG_t4 (List.mem_of_getElem? (i := 231) (by decide +kernel)) rfl
theorem wd_1028 : (Cond.code yX4_endingOf prog_6_method_12_code 1 (Option.some FieldType.int)) ∈ WG := WG_t4 (List.mem_of_getElem? (i := 232) (rfl)) rfl
theorem wd_1029 : (Cond.methodLink "MagnetPoemsLaw" 119 yX4_bringBack) ∈ WG := WG_t4 (List.mem_of_getElem? (i := 233) (by decide +kernel)) rfl
theorem wd_1030 : (Cond.instanceMethod yX4_bringBack) ∈ WG := WG_t4 (List.mem_of_getElem? (i := 234) (by decide +kernel)) rfl
theorem wd_1031 : (Cond.selects "MagnetPoemsModel" yX4_bringBack yX4_bringBack) ∈ WG := WG_t4 (List.mem_of_getElem? (i := 235) (by decide +kernel)) rfl
theorem wd_1032 : (Cond.code yX4_bringBack prog_6_method_46_code 3 (Option.some FieldType.int)) ∈ WG := WG_t4 (List.mem_of_getElem? (i := 236) (rfl)) rfl
theorem wd_1033 : (Cond.methodLink "MagnetPoemsLaw" 122 yX4_sleep) ∈ WG := WG_t4 (List.mem_of_getElem? (i := 237) (by decide +kernel)) rfl
theorem wd_1034 : (Cond.instanceMethod yX4_sleep) ∈ WG := WG_t4 (List.mem_of_getElem? (i := 238) (by decide +kernel)) rfl
theorem wd_1035 : (Cond.selects "MagnetPoemsModel" yX4_sleep yX4_sleep) ∈ WG := WG_t4 (List.mem_of_getElem? (i := 239) (by decide +kernel)) rfl
theorem wd_1036 : (Cond.code yX4_sleep prog_6_method_47_code 2 (Option.some FieldType.int)) ∈ WG := WG_t5 (List.mem_of_getElem? (i := 0) (rfl)) rfl
theorem wd_1037 : (Cond.methodLink "MagnetPoemsModel" 157 yX4_nights) ∈ WG := WG_t5 (List.mem_of_getElem? (i := 1) (by decide +kernel)) rfl
theorem wd_1039 : (Cond.instanceMethod yX4_nights) ∈ WG := WG_t5 (List.mem_of_getElem? (i := 3) (by decide +kernel)) rfl
theorem wd_1040 : (Cond.code yX4_nights prog_6_method_39_code 4 (Option.some FieldType.int)) ∈ WG := WG_t5 (List.mem_of_getElem? (i := 4) (rfl)) rfl
theorem wd_1041 : (Cond.methodLink "MagnetPoemsModel" 125 yX4_night) ∈ WG := WG_t5 (List.mem_of_getElem? (i := 5) (by decide +kernel)) rfl
theorem wd_1043 : (Cond.instanceMethod yX4_night) ∈ WG := WG_t5 (List.mem_of_getElem? (i := 7) (by decide +kernel)) rfl
theorem wd_1044 : (Cond.code yX4_night prog_6_method_38_code 3 (Option.some FieldType.int)) ∈ WG := WG_t5 (List.mem_of_getElem? (i := 8) (rfl)) rfl
theorem wd_1045 : (Cond.methodLink "MagnetPoemsModel" 119 yX4_preyNow) ∈ WG := WG_t5 (List.mem_of_getElem? (i := 9) (by decide +kernel)) rfl
theorem wd_1047 : (Cond.instanceMethod yX4_preyNow) ∈ WG := WG_t5 (List.mem_of_getElem? (i := 11) (by decide +kernel)) rfl
theorem wd_1048 : (Cond.code yX4_preyNow prog_6_method_37_code 2 (Option.some FieldType.int)) ∈ WG := WG_t5 (List.mem_of_getElem? (i := 12) (rfl)) rfl
theorem wd_1049 : (Cond.methodLink "MagnetPoemsModel" 112 yX4_target) ∈ WG := WG_t5 (List.mem_of_getElem? (i := 13) (by decide +kernel)) rfl
theorem wd_1051 : (Cond.instanceMethod yX4_target) ∈ WG := WG_t5 (List.mem_of_getElem? (i := 15) (by decide +kernel)) rfl
theorem wd_1052 : (Cond.code yX4_target prog_6_method_35_code 3 (Option.some FieldType.int)) ∈ WG := WG_t5 (List.mem_of_getElem? (i := 16) (rfl)) rfl
theorem wd_1053 : (Cond.methodLink "MagnetPoemsModel" 106 yX4_doorWords) ∈ WG := WG_t5 (List.mem_of_getElem? (i := 17) (by decide +kernel)) rfl
theorem wd_1055 : (Cond.instanceMethod yX4_doorWords) ∈ WG := WG_t5 (List.mem_of_getElem? (i := 19) (by decide +kernel)) rfl
theorem wd_1056 : (Cond.code yX4_doorWords prog_6_method_33_code 4 (Option.some FieldType.int)) ∈ WG := WG_t5 (List.mem_of_getElem? (i := 20) (rfl)) rfl
theorem wd_1057 : (Cond.methodLink "MagnetPoemsModel" 109 yX4_doorWorth) ∈ WG := WG_t5 (List.mem_of_getElem? (i := 21) (by decide +kernel)) rfl
theorem wd_1059 : (Cond.instanceMethod yX4_doorWorth) ∈ WG := WG_t5 (List.mem_of_getElem? (i := 23) (by decide +kernel)) rfl
theorem wd_1060 : (Cond.code yX4_doorWorth prog_6_method_32_code 4 (Option.some FieldType.int)) ∈ WG := WG_t5 (List.mem_of_getElem? (i := 24) (rfl)) rfl
theorem wd_1061 : (Cond.methodLink "MagnetPoemsModel" 100 yX4_pairs) ∈ WG := WG_t5 (List.mem_of_getElem? (i := 25) (by decide +kernel)) rfl
theorem wd_1063 : (Cond.instanceMethod yX4_pairs) ∈ WG := WG_t5 (List.mem_of_getElem? (i := 27) (by decide +kernel)) rfl
theorem wd_1064 : (Cond.code yX4_pairs prog_6_method_31_code 4 (Option.some FieldType.int)) ∈ WG := WG_t5 (List.mem_of_getElem? (i := 28) (rfl)) rfl
theorem wd_1065 : (Cond.methodLink "MagnetPoemsModel" 97 yX4_rhymes) ∈ WG := WG_t5 (List.mem_of_getElem? (i := 29) (by decide +kernel)) rfl
theorem wd_1067 : (Cond.instanceMethod yX4_rhymes) ∈ WG := WG_t5 (List.mem_of_getElem? (i := 31) (by decide +kernel)) rfl
theorem wd_1068 : (Cond.code yX4_rhymes prog_6_method_30_code 4 (Option.some FieldType.int)) ∈ WG := WG_t5 (List.mem_of_getElem? (i := 32) (rfl)) rfl
theorem wd_1069 : (Cond.methodLink "MagnetPoemsModel" 103 yX4_lineWorth) ∈ WG := WG_t5 (List.mem_of_getElem? (i := 33) (by decide +kernel)) rfl
theorem wd_1071 : (Cond.instanceMethod yX4_lineWorth) ∈ WG := WG_t5 (List.mem_of_getElem? (i := 35) (by decide +kernel)) rfl
theorem wd_1072 : (Cond.code yX4_lineWorth prog_6_method_28_code 4 (Option.some FieldType.int)) ∈ WG := WG_t5 (List.mem_of_getElem? (i := 36) (rfl)) rfl
theorem wd_1073 : (Cond.methodLink "MagnetPoemsModel" 88 yX4_hasKind) ∈ WG := WG_t5 (List.mem_of_getElem? (i := 37) (by decide +kernel)) rfl
theorem wd_1075 : (Cond.instanceMethod yX4_hasKind) ∈ WG := WG_t5 (List.mem_of_getElem? (i := 39) (by decide +kernel)) rfl
theorem wd_1076 : (Cond.code yX4_hasKind prog_6_method_27_code 5 (Option.some FieldType.boolean)) ∈ WG := WG_t5 (List.mem_of_getElem? (i := 40) (rfl)) rfl
theorem wd_1077 : (Cond.methodLink "MagnetPoemsModel" 116 yX4_preyOn) ∈ WG := WG_t5 (List.mem_of_getElem? (i := 41) (by decide +kernel)) rfl
theorem wd_1079 : (Cond.instanceMethod yX4_preyOn) ∈ WG := WG_t5 (List.mem_of_getElem? (i := 43) (by decide +kernel)) rfl
theorem wd_1080 : (Cond.code yX4_preyOn prog_6_method_36_code 6 (Option.some FieldType.int)) ∈ WG := WG_t5 (List.mem_of_getElem? (i := 44) (rfl)) rfl
theorem wd_1081 : (Cond.methodLink "MagnetPoemsLaw" 125 yX4_set) ∈ WG := WG_t5 (List.mem_of_getElem? (i := 45) (by decide +kernel)) rfl
theorem wd_1082 : (Cond.instanceMethod yX4_set) ∈ WG := WG_t5 (List.mem_of_getElem? (i := 46) (by decide +kernel)) rfl
theorem wd_1083 : (Cond.selects "MagnetPoemsModel" yX4_set yX4_set) ∈ WG := WG_t5 (List.mem_of_getElem? (i := 47) (by decide +kernel)) rfl
theorem wd_1084 : (Cond.code yX4_set prog_6_method_49_code 4 (Option.some FieldType.int)) ∈ WG := WG_t5 (List.mem_of_getElem? (i := 48) (rfl)) rfl
theorem wd_1085 : (Cond.methodLink "MagnetPoemsModel" 160 yX4_mostOf) ∈ WG := WG_t5 (List.mem_of_getElem? (i := 49) (by decide +kernel)) rfl
theorem wd_1086 : (Cond.static yX4_mostOf) ∈ WG := WG_t5 (List.mem_of_getElem? (i := 50) (by decide +kernel)) rfl
theorem wd_1087 : (Cond.code yX4_mostOf prog_6_method_48_code 1 (Option.some FieldType.int)) ∈ WG := WG_t5 (List.mem_of_getElem? (i := 51) (rfl)) rfl
theorem wd_1088 : (Cond.methodLink "MagnetPoemsLaw" 128 yX4_append) ∈ WG := WG_t5 (List.mem_of_getElem? (i := 52) (by decide +kernel)) rfl
theorem wd_1089 : (Cond.instanceMethod yX4_append) ∈ WG := WG_t5 (List.mem_of_getElem? (i := 53) (by decide +kernel)) rfl
theorem wd_1090 : (Cond.selects "MagnetPoemsModel" yX4_append yX4_append) ∈ WG := WG_t5 (List.mem_of_getElem? (i := 54) (by decide +kernel)) rfl
theorem wd_1091 : (Cond.code yX4_append prog_6_method_50_code 2 (Option.some FieldType.int)) ∈ WG := WG_t5 (List.mem_of_getElem? (i := 55) (rfl)) rfl
theorem wd_1092 : (Cond.methodLink "MagnetPoemsLaw" 132 yX4_clearBuffer) ∈ WG := WG_t5 (List.mem_of_getElem? (i := 56) (by decide +kernel)) rfl
theorem wd_1093 : (Cond.instanceMethod yX4_clearBuffer) ∈ WG := WG_t5 (List.mem_of_getElem? (i := 57) (by decide +kernel)) rfl
theorem wd_1094 : (Cond.selects "MagnetPoemsModel" yX4_clearBuffer yX4_clearBuffer) ∈ WG := WG_t5 (List.mem_of_getElem? (i := 58) (by decide +kernel)) rfl
theorem wd_1095 : (Cond.code yX4_clearBuffer prog_6_method_51_code 2 (Option.some FieldType.int)) ∈ WG := WG_t5 (List.mem_of_getElem? (i := 59) (rfl)) rfl
theorem wd_1096 : (Cond.methodLink "MagnetPoemsLaw" 136 yX4_firstError) ∈ WG := WG_t5 (List.mem_of_getElem? (i := 60) (by decide +kernel)) rfl
theorem wd_1097 : (Cond.instanceMethod yX4_firstError) ∈ WG := WG_t5 (List.mem_of_getElem? (i := 61) (by decide +kernel)) rfl
theorem wd_1098 : (Cond.selects "MagnetPoemsModel" yX4_firstError yX4_firstError) ∈ WG := WG_t5 (List.mem_of_getElem? (i := 62) (by decide +kernel)) rfl
theorem wd_1099 : (Cond.code yX4_firstError prog_6_method_57_code 1 (Option.some FieldType.int)) ∈ WG := WG_t5 (List.mem_of_getElem? (i := 63) (rfl)) rfl
theorem wd_1100 : (Cond.methodLink "MagnetPoemsModel" 188 yX4_readPoem) ∈ WG := WG_t5 (List.mem_of_getElem? (i := 64) (by decide +kernel)) rfl
theorem wd_1102 : (Cond.instanceMethod yX4_readPoem) ∈ WG := WG_t5 (List.mem_of_getElem? (i := 66) (by decide +kernel)) rfl
theorem wd_1103 : (Cond.code yX4_readPoem prog_6_method_56_code 6 (Option.some FieldType.boolean)) ∈ WG := WG_t5 (List.mem_of_getElem? (i := 67) (rfl)) rfl
theorem wd_1104 : (Cond.methodLink "MagnetPoemsModel" 185 yX4_readNumber) ∈ WG := WG_t5 (List.mem_of_getElem? (i := 68) (by decide +kernel)) rfl
theorem wd_1106 : (Cond.instanceMethod yX4_readNumber) ∈ WG := WG_t5 (List.mem_of_getElem? (i := 70) (by decide +kernel)) rfl
theorem wd_1107 : (Cond.code yX4_readNumber prog_6_method_55_code 3 (Option.some FieldType.int)) ∈ WG := WG_t5 (List.mem_of_getElem? (i := 71) (rfl)) rfl
theorem wd_1108 : (Cond.methodLink "MagnetPoemsModel" 176 yX4_digitAt) ∈ WG := WG_t5 (List.mem_of_getElem? (i := 72) (by decide +kernel)) rfl
theorem wd_1110 : (Cond.instanceMethod yX4_digitAt) ∈ WG := WG_t5 (List.mem_of_getElem? (i := 74) (by decide +kernel)) rfl
theorem wd_1111 : (Cond.code yX4_digitAt prog_6_method_53_code 2 (Option.some FieldType.int)) ∈ WG := WG_t5 (List.mem_of_getElem? (i := 75) (rfl)) rfl
theorem wd_1112 : (Cond.methodLink "MagnetPoemsModel" 179 yX4_canBegin) ∈ WG := WG_t5 (List.mem_of_getElem? (i := 76) (by decide +kernel)) rfl
theorem wd_1114 : (Cond.instanceMethod yX4_canBegin) ∈ WG := WG_t5 (List.mem_of_getElem? (i := 78) (by decide +kernel)) rfl
theorem wd_1115 : (Cond.code yX4_canBegin prog_6_method_54_code 4 (Option.some FieldType.boolean)) ∈ WG := WG_t5 (List.mem_of_getElem? (i := 79) (rfl)) rfl
theorem wd_1116 : (Cond.methodLink "MagnetPoemsModel" 170 yX4_hasStood) ∈ WG := WG_t5 (List.mem_of_getElem? (i := 80) (by decide +kernel)) rfl
theorem wd_1118 : (Cond.instanceMethod yX4_hasStood) ∈ WG := WG_t5 (List.mem_of_getElem? (i := 82) (by decide +kernel)) rfl
theorem wd_1119 : (Cond.code yX4_hasStood prog_6_method_52_code 2 (Option.some FieldType.boolean)) ∈ WG := WG_t5 (List.mem_of_getElem? (i := 83) (rfl)) rfl
theorem wd_1120 : (Cond.methodLink "MagnetPoemsLaw" 139 yX4_load) ∈ WG := WG_t5 (List.mem_of_getElem? (i := 84) (by decide +kernel)) rfl
theorem wd_1121 : (Cond.instanceMethod yX4_load) ∈ WG := WG_t5 (List.mem_of_getElem? (i := 85) (by decide +kernel)) rfl
theorem wd_1122 : (Cond.selects "MagnetPoemsModel" yX4_load yX4_load) ∈ WG := WG_t5 (List.mem_of_getElem? (i := 86) (by decide +kernel)) rfl
theorem wd_1123 : (Cond.code yX4_load prog_6_method_58_code 7 (Option.some FieldType.int)) ∈ WG := WG_t5 (List.mem_of_getElem? (i := 87) (rfl)) rfl
theorem wd_1124 : (Cond.methodLink "MagnetPoemsLaw" 142 yX4_write) ∈ WG := WG_t5 (List.mem_of_getElem? (i := 88) (by decide +kernel)) rfl
theorem wd_1125 : (Cond.instanceMethod yX4_write) ∈ WG := WG_t5 (List.mem_of_getElem? (i := 89) (by decide +kernel)) rfl
theorem wd_1126 : (Cond.selects "MagnetPoemsModel" yX4_write yX4_write) ∈ WG := WG_t5 (List.mem_of_getElem? (i := 90) (by decide +kernel)) rfl
theorem wd_1127 : (Cond.code yX4_write prog_6_method_61_code 3 (Option.some FieldType.int)) ∈ WG := WG_t5 (List.mem_of_getElem? (i := 91) (rfl)) rfl
theorem wd_1128 : (Cond.methodLink "MagnetPoemsModel" 195 yX4_draftSign) ∈ WG := WG_t5 (List.mem_of_getElem? (i := 92) (by decide +kernel)) rfl
theorem wd_1130 : (Cond.instanceMethod yX4_draftSign) ∈ WG := WG_t5 (List.mem_of_getElem? (i := 94) (by decide +kernel)) rfl
theorem wd_1131 : (Cond.code yX4_draftSign prog_6_method_59_code 2 (Option.none : Option FieldType)) ∈ WG := WG_t5 (List.mem_of_getElem? (i := 95) (rfl)) rfl
theorem wd_1132 : (Cond.methodLink "MagnetPoemsModel" 199 yX4_draftLine) ∈ WG := WG_t5 (List.mem_of_getElem? (i := 96) (by decide +kernel)) rfl
theorem wd_1134 : (Cond.instanceMethod yX4_draftLine) ∈ WG := WG_t5 (List.mem_of_getElem? (i := 98) (by decide +kernel)) rfl
theorem wd_1135 : (Cond.code yX4_draftLine prog_6_method_60_code 4 (Option.none : Option FieldType)) ∈ WG := WG_t5 (List.mem_of_getElem? (i := 99) (rfl)) rfl
theorem wd_1136 : (Cond.methodLink "MagnetPoemsLaw" 145 yX4_keep) ∈ WG := WG_t5 (List.mem_of_getElem? (i := 100) (by decide +kernel)) rfl
theorem wd_1137 : (Cond.instanceMethod yX4_keep) ∈ WG := WG_t5 (List.mem_of_getElem? (i := 101) (by decide +kernel)) rfl
theorem wd_1138 : (Cond.selects "MagnetPoemsModel" yX4_keep yX4_keep) ∈ WG := WG_t5 (List.mem_of_getElem? (i := 102) (by decide +kernel)) rfl
theorem wd_1139 : (Cond.code yX4_keep prog_6_method_62_code 3 (Option.some FieldType.int)) ∈ WG := WG_t5 (List.mem_of_getElem? (i := 103) (rfl)) rfl
theorem wd_1140 : (Cond.methodLink "MagnetPoemsModel" 202 yX4_inBag) ∈ WG := WG_t5 (List.mem_of_getElem? (i := 104) (by decide +kernel)) rfl
theorem wd_1142 : (Cond.instanceMethod yX4_inBag) ∈ WG := WG_t5 (List.mem_of_getElem? (i := 106) (by decide +kernel)) rfl
theorem wd_1143 : (Cond.code yX4_inBag prog_6_method_18_code 3 (Option.some FieldType.int)) ∈ WG := WG_t5 (List.mem_of_getElem? (i := 107) (rfl)) rfl
theorem wd_1144 : (Cond.methodLink "MagnetPoemsLaw" 148 yX4_goBack) ∈ WG := WG_t5 (List.mem_of_getElem? (i := 108) (by decide +kernel)) rfl
theorem wd_1145 : (Cond.instanceMethod yX4_goBack) ∈ WG := WG_t5 (List.mem_of_getElem? (i := 109) (by decide +kernel)) rfl
theorem wd_1146 : (Cond.selects "MagnetPoemsModel" yX4_goBack yX4_goBack) ∈ WG := WG_t5 (List.mem_of_getElem? (i := 110) (by decide +kernel)) rfl
theorem wd_1147 : (Cond.code yX4_goBack prog_6_method_63_code 3 (Option.some FieldType.int)) ∈ WG := WG_t5 (List.mem_of_getElem? (i := 111) (rfl)) rfl
theorem wd_1148 : (Cond.methodLink "MagnetPoemsLaw" 152 yX4_undo) ∈ WG := WG_t5 (List.mem_of_getElem? (i := 112) (by decide +kernel)) rfl
theorem wd_1149 : (Cond.instanceMethod yX4_undo) ∈ WG := WG_t5 (List.mem_of_getElem? (i := 113) (by decide +kernel)) rfl
theorem wd_1150 : (Cond.selects "MagnetPoemsModel" yX4_undo yX4_undo) ∈ WG := WG_t5 (List.mem_of_getElem? (i := 114) (by decide +kernel)) rfl
theorem wd_1151 : (Cond.code yX4_undo prog_6_method_64_code 2 (Option.some FieldType.int)) ∈ WG := WG_t5 (List.mem_of_getElem? (i := 115) (rfl)) rfl
theorem wd_1152 : (Cond.methodLink "MagnetPoemsLaw" 155 yX4_wordOf) ∈ WG := WG_t5 (List.mem_of_getElem? (i := 116) (by decide +kernel)) rfl
theorem wd_1153 : (Cond.instanceMethod yX4_wordOf) ∈ WG := WG_t5 (List.mem_of_getElem? (i := 117) (by decide +kernel)) rfl
theorem wd_1154 : (Cond.selects "MagnetPoemsModel" yX4_wordOf yX4_wordOf) ∈ WG := WG_t5 (List.mem_of_getElem? (i := 118) (by decide +kernel)) rfl
theorem wd_1155 : (Cond.code yX4_wordOf prog_6_method_66_code 3 (Option.some FieldType.int)) ∈ WG := WG_t5 (List.mem_of_getElem? (i := 119) (rfl)) rfl
theorem wd_1156 : (Cond.methodLink "MagnetPoemsModel" 205 yX4_wordProperty) ∈ WG := WG_t5 (List.mem_of_getElem? (i := 120) (by decide +kernel)) rfl
theorem wd_1158 : (Cond.instanceMethod yX4_wordProperty) ∈ WG := WG_t5 (List.mem_of_getElem? (i := 122) (by decide +kernel)) rfl
theorem wd_1159 : (Cond.code yX4_wordProperty prog_6_method_65_code 4 (Option.some FieldType.int)) ∈ WG := WG_t5 (List.mem_of_getElem? (i := 123) (rfl)) rfl
theorem wd_1160 : (Cond.methodLink "MagnetPoemsLaw" 158 yX4_at) ∈ WG := WG_t5 (List.mem_of_getElem? (i := 124) (by decide +kernel)) rfl
theorem wd_1161 : (Cond.instanceMethod yX4_at) ∈ WG := WG_t5 (List.mem_of_getElem? (i := 125) (by decide +kernel)) rfl
theorem wd_1162 : (Cond.selects "MagnetPoemsModel" yX4_at yX4_at) ∈ WG := WG_t5 (List.mem_of_getElem? (i := 126) (by decide +kernel)) rfl
theorem wd_1163 : (Cond.code yX4_at prog_6_method_68_code 4 (Option.some FieldType.int)) ∈ WG := WG_t5 (List.mem_of_getElem? (i := 127) (rfl)) rfl
theorem wd_1164 : (Cond.methodLink "MagnetPoemsModel" 208 yX4_wordOrNone) ∈ WG := WG_t5 (List.mem_of_getElem? (i := 128) (by decide +kernel)) rfl
theorem wd_1166 : (Cond.instanceMethod yX4_wordOrNone) ∈ WG := WG_t5 (List.mem_of_getElem? (i := 130) (by decide +kernel)) rfl
theorem wd_1167 : (Cond.code yX4_wordOrNone prog_6_method_67_code 3 (Option.some FieldType.int)) ∈ WG := WG_t5 (List.mem_of_getElem? (i := 131) (rfl)) rfl
theorem wd_1168 : (Cond.methodLink "MagnetPoemsLaw" 161 yX4_lineOf) ∈ WG := WG_t5 (List.mem_of_getElem? (i := 132) (by decide +kernel)) rfl
theorem wd_1169 : (Cond.instanceMethod yX4_lineOf) ∈ WG := WG_t5 (List.mem_of_getElem? (i := 133) (by decide +kernel)) rfl
theorem wd_1170 : (Cond.selects "MagnetPoemsModel" yX4_lineOf yX4_lineOf) ∈ WG := WG_t5 (List.mem_of_getElem? (i := 134) (by decide +kernel)) rfl
theorem wd_1171 : (Cond.code yX4_lineOf prog_6_method_72_code 4 (Option.some FieldType.int)) ∈ WG := WG_t5 (List.mem_of_getElem? (i := 135) (rfl)) rfl
theorem wd_1172 : (Cond.methodLink "MagnetPoemsModel" 217 yX4_lineProperty) ∈ WG := WG_t5 (List.mem_of_getElem? (i := 136) (by decide +kernel)) rfl
theorem wd_1174 : (Cond.instanceMethod yX4_lineProperty) ∈ WG := WG_t5 (List.mem_of_getElem? (i := 138) (by decide +kernel)) rfl
theorem wd_1175 : (Cond.code yX4_lineProperty prog_6_method_71_code 3 (Option.some FieldType.int)) ∈ WG := WG_t5 (List.mem_of_getElem? (i := 139) (rfl)) rfl
theorem wd_1176 : (Cond.methodLink "MagnetPoemsModel" 211 yX4_told) ∈ WG := WG_t5 (List.mem_of_getElem? (i := 140) (by decide +kernel)) rfl
theorem wd_1177 : (Cond.static yX4_told) ∈ WG := WG_t5 (List.mem_of_getElem? (i := 141) (by decide +kernel)) rfl
theorem wd_1178 : (Cond.code yX4_told prog_6_method_69_code 1 (Option.some FieldType.int)) ∈ WG := WG_t5 (List.mem_of_getElem? (i := 142) (rfl)) rfl
theorem wd_1179 : (Cond.methodLink "MagnetPoemsModel" 214 yX4_isMixed) ∈ WG := WG_t5 (List.mem_of_getElem? (i := 143) (by decide +kernel)) rfl
theorem wd_1181 : (Cond.instanceMethod yX4_isMixed) ∈ WG := WG_t5 (List.mem_of_getElem? (i := 145) (by decide +kernel)) rfl
theorem wd_1182 : (Cond.code yX4_isMixed prog_6_method_70_code 4 (Option.some FieldType.boolean)) ∈ WG := WG_t5 (List.mem_of_getElem? (i := 146) (rfl)) rfl
theorem wd_1183 : (Cond.methodLink "MagnetPoemsLaw" 164 yX4_doorOf) ∈ WG := WG_t5 (List.mem_of_getElem? (i := 147) (by decide +kernel)) rfl
theorem wd_1184 : (Cond.instanceMethod yX4_doorOf) ∈ WG := WG_t5 (List.mem_of_getElem? (i := 148) (by decide +kernel)) rfl
theorem wd_1185 : (Cond.selects "MagnetPoemsModel" yX4_doorOf yX4_doorOf) ∈ WG := WG_t5 (List.mem_of_getElem? (i := 149) (by decide +kernel)) rfl
theorem wd_1186 : (Cond.code yX4_doorOf prog_6_method_74_code 3 (Option.some FieldType.int)) ∈ WG := WG_t5 (List.mem_of_getElem? (i := 150) (rfl)) rfl
theorem wd_1187 : (Cond.methodLink "MagnetPoemsModel" 220 yX4_doorProperty) ∈ WG := WG_t5 (List.mem_of_getElem? (i := 151) (by decide +kernel)) rfl
theorem wd_1189 : (Cond.instanceMethod yX4_doorProperty) ∈ WG := WG_t5 (List.mem_of_getElem? (i := 153) (by decide +kernel)) rfl
theorem wd_1190 : (Cond.code yX4_doorProperty prog_6_method_73_code 3 (Option.some FieldType.int)) ∈ WG := WG_t5 (List.mem_of_getElem? (i := 154) (rfl)) rfl
theorem wd_1191 : (Cond.methodLink "MagnetPoemsLaw" 167 yX4_count) ∈ WG := WG_t5 (List.mem_of_getElem? (i := 155) (by decide +kernel)) rfl
theorem wd_1192 : (Cond.instanceMethod yX4_count) ∈ WG := WG_t5 (List.mem_of_getElem? (i := 156) (by decide +kernel)) rfl
theorem wd_1193 : (Cond.selects "MagnetPoemsModel" yX4_count yX4_count) ∈ WG := WG_t5 (List.mem_of_getElem? (i := 157) (by decide +kernel)) rfl
theorem wd_1194 : (Cond.code yX4_count prog_6_method_79_code 2 (Option.some FieldType.int)) ∈ WG := WG_t5 (List.mem_of_getElem? (i := 158) (rfl)) rfl
theorem wd_1195 : (Cond.methodLink "MagnetPoemsModel" 232 yX4_number) ∈ WG := WG_t5 (List.mem_of_getElem? (i := 159) (by decide +kernel)) rfl
theorem wd_1197 : (Cond.instanceMethod yX4_number) ∈ WG := WG_t5 (List.mem_of_getElem? (i := 161) (by decide +kernel)) rfl
theorem wd_1198 : (Cond.code yX4_number prog_6_method_78_code 2 (Option.some FieldType.int)) ∈ WG := WG_t5 (List.mem_of_getElem? (i := 162) (rfl)) rfl
theorem wd_1199 : (Cond.methodLink "MagnetPoemsModel" 223 yX4_stolenInAll) ∈ WG := WG_t5 (List.mem_of_getElem? (i := 163) (by decide +kernel)) rfl
theorem wd_1201 : (Cond.instanceMethod yX4_stolenInAll) ∈ WG := WG_t5 (List.mem_of_getElem? (i := 165) (by decide +kernel)) rfl
theorem wd_1202 : (Cond.code yX4_stolenInAll prog_6_method_75_code 3 (Option.some FieldType.int)) ∈ WG := WG_t5 (List.mem_of_getElem? (i := 166) (rfl)) rfl
theorem wd_1203 : (Cond.methodLink "MagnetPoemsModel" 226 yX4_lentNow) ∈ WG := WG_t5 (List.mem_of_getElem? (i := 167) (by decide +kernel)) rfl
theorem wd_1205 : (Cond.instanceMethod yX4_lentNow) ∈ WG := WG_t5 (List.mem_of_getElem? (i := 169) (by decide +kernel)) rfl
theorem wd_1206 : (Cond.code yX4_lentNow prog_6_method_76_code 3 (Option.some FieldType.int)) ∈ WG := WG_t5 (List.mem_of_getElem? (i := 170) (rfl)) rfl
theorem wd_1207 : (Cond.methodLink "MagnetPoemsModel" 229 yX4_allWorth) ∈ WG := WG_t5 (List.mem_of_getElem? (i := 171) (by decide +kernel)) rfl
theorem wd_1209 : (Cond.instanceMethod yX4_allWorth) ∈ WG := WG_t5 (List.mem_of_getElem? (i := 173) (by decide +kernel)) rfl
theorem wd_1210 : (Cond.code yX4_allWorth prog_6_method_77_code 3 (Option.some FieldType.int)) ∈ WG := WG_t5 (List.mem_of_getElem? (i := 174) (rfl)) rfl
theorem wd_1211 : (Cond.methodLink "MagnetPoemsLaw" 170 yX4_setting) ∈ WG := WG_t5 (List.mem_of_getElem? (i := 175) (by decide +kernel)) rfl
theorem wd_1212 : (Cond.instanceMethod yX4_setting) ∈ WG := WG_t5 (List.mem_of_getElem? (i := 176) (by decide +kernel)) rfl
theorem wd_1213 : (Cond.selects "MagnetPoemsModel" yX4_setting yX4_setting) ∈ WG := WG_t5 (List.mem_of_getElem? (i := 177) (by decide +kernel)) rfl
theorem wd_1214 : (Cond.code yX4_setting prog_6_method_80_code 2 (Option.some FieldType.int)) ∈ WG := WG_t5 (List.mem_of_getElem? (i := 178) (rfl)) rfl
theorem wd_1215 : (Cond.methodLink "MagnetPoemsLaw" 173 yX4_whyNot) ∈ WG := WG_t5 (List.mem_of_getElem? (i := 179) (by decide +kernel)) rfl
theorem wd_1216 : (Cond.instanceMethod yX4_whyNot) ∈ WG := WG_t5 (List.mem_of_getElem? (i := 180) (by decide +kernel)) rfl
theorem wd_1217 : (Cond.selects "MagnetPoemsModel" yX4_whyNot yX4_whyNot) ∈ WG := WG_t5 (List.mem_of_getElem? (i := 181) (by decide +kernel)) rfl
theorem wd_1218 : (Cond.code yX4_whyNot prog_6_method_81_code 5 (Option.some FieldType.int)) ∈ WG := WG_t5 (List.mem_of_getElem? (i := 182) (rfl)) rfl
theorem wd_1219 : (Cond.methodLink "MagnetPoemsLaw" 176 yX4_bestWord) ∈ WG := WG_t5 (List.mem_of_getElem? (i := 183) (by decide +kernel)) rfl
theorem wd_1220 : (Cond.instanceMethod yX4_bestWord) ∈ WG := WG_t5 (List.mem_of_getElem? (i := 184) (by decide +kernel)) rfl
theorem wd_1221 : (Cond.selects "MagnetPoemsModel" yX4_bestWord yX4_bestWord) ∈ WG := WG_t5 (List.mem_of_getElem? (i := 185) (by decide +kernel)) rfl
theorem wd_1222 : (Cond.code yX4_bestWord prog_6_method_84_code 3 (Option.some FieldType.int)) ∈ WG := WG_t5 (List.mem_of_getElem? (i := 186) (rfl)) rfl
theorem wd_1223 : (Cond.methodLink "MagnetPoemsModel" 244 yX4_bestFor) ∈ WG := WG_t5 (List.mem_of_getElem? (i := 187) (by decide +kernel)) rfl
theorem wd_1225 : (Cond.instanceMethod yX4_bestFor) ∈ WG := WG_t5 (List.mem_of_getElem? (i := 189) (by decide +kernel)) rfl
theorem wd_1226 : (Cond.code yX4_bestFor prog_6_method_83_code 6 (Option.some FieldType.int)) ∈ WG := WG_t5 (List.mem_of_getElem? (i := 190) (rfl)) rfl
theorem wd_1227 : (Cond.methodLink "MagnetPoemsModel" 241 yX4_worthWith) ∈ WG := WG_t5 (List.mem_of_getElem? (i := 191) (by decide +kernel)) rfl
theorem wd_1229 : (Cond.instanceMethod yX4_worthWith) ∈ WG := WG_t5 (List.mem_of_getElem? (i := 193) (by decide +kernel)) rfl
theorem wd_1230 : (Cond.code yX4_worthWith prog_6_method_82_code 4 (Option.some FieldType.int)) ∈ WG := WG_t5 (List.mem_of_getElem? (i := 194) (rfl)) rfl
theorem wd_1231 : (Cond.methodLink "MagnetPoemsModel" 235 yX4_putAside) ∈ WG := WG_t5 (List.mem_of_getElem? (i := 195) (by decide +kernel)) rfl
theorem wd_1233 : (Cond.instanceMethod yX4_putAside) ∈ WG := WG_t5 (List.mem_of_getElem? (i := 197) (by decide +kernel)) rfl
theorem wd_1234 : (Cond.code yX4_putAside prog_6_method_9_code 2 (Option.none : Option FieldType)) ∈ WG := WG_t5 (List.mem_of_getElem? (i := 198) (rfl)) rfl
theorem wd_1235 : (Cond.methodLink "MagnetPoemsModel" 238 yX4_putBack) ∈ WG := WG_t5 (List.mem_of_getElem? (i := 199) (by decide +kernel)) rfl
theorem wd_1237 : (Cond.instanceMethod yX4_putBack) ∈ WG := WG_t5 (List.mem_of_getElem? (i := 201) (by decide +kernel)) rfl
theorem wd_1238 : (Cond.code yX4_putBack prog_6_method_10_code 2 (Option.none : Option FieldType)) ∈ WG := WG_t5 (List.mem_of_getElem? (i := 202) (rfl)) rfl
theorem wd_1239 : (Cond.methodLink "MagnetPoemsLaw" 180 yX4_prey) ∈ WG := WG_t5 (List.mem_of_getElem? (i := 203) (by decide +kernel)) rfl
theorem wd_1240 : (Cond.instanceMethod yX4_prey) ∈ WG := WG_t5 (List.mem_of_getElem? (i := 204) (by decide +kernel)) rfl
theorem wd_1241 : (Cond.selects "MagnetPoemsModel" yX4_prey yX4_prey) ∈ WG := WG_t5 (List.mem_of_getElem? (i := 205) (by decide +kernel)) rfl
theorem wd_1242 : (Cond.code yX4_prey prog_6_method_85_code 1 (Option.some FieldType.int)) ∈ WG := WG_t5 (List.mem_of_getElem? (i := 206) (rfl)) rfl
theorem wd_1243 : (Cond.methodLink "MagnetPoemsLaw" 183 yX4_ifSlept) ∈ WG := WG_t5 (List.mem_of_getElem? (i := 207) (by decide +kernel)) rfl
theorem wd_1244 : (Cond.instanceMethod yX4_ifSlept) ∈ WG := WG_t5 (List.mem_of_getElem? (i := 208) (by decide +kernel)) rfl
theorem wd_1245 : (Cond.selects "MagnetPoemsModel" yX4_ifSlept yX4_ifSlept) ∈ WG := WG_t5 (List.mem_of_getElem? (i := 209) (by decide +kernel)) rfl
theorem wd_1246 : (Cond.code yX4_ifSlept prog_6_method_87_code 3 (Option.some FieldType.int)) ∈ WG := WG_t5 (List.mem_of_getElem? (i := 210) (rfl)) rfl
theorem wd_1247 : (Cond.methodLink "MagnetPoemsModel" 247 yX4_worthBehind) ∈ WG := WG_t5 (List.mem_of_getElem? (i := 211) (by decide +kernel)) rfl
theorem wd_1249 : (Cond.instanceMethod yX4_worthBehind) ∈ WG := WG_t5 (List.mem_of_getElem? (i := 213) (by decide +kernel)) rfl
theorem wd_1250 : (Cond.code yX4_worthBehind prog_6_method_86_code 5 (Option.some FieldType.int)) ∈ WG := WG_t5 (List.mem_of_getElem? (i := 214) (rfl)) rfl
theorem wd_1251 : (Cond.methodLink "MagnetPoemsLaw" 188 yX4_shownShare) ∈ WG := WG_t5 (List.mem_of_getElem? (i := 215) (by decide +kernel)) rfl
theorem wd_1252 : (Cond.instanceMethod yX4_shownShare) ∈ WG := WG_t5 (List.mem_of_getElem? (i := 216) (by decide +kernel)) rfl
theorem wd_1253 : (Cond.selects "MagnetPoemsModel" yX4_shownShare yX4_shownShare) ∈ WG := WG_t5 (List.mem_of_getElem? (i := 217) (by decide +kernel)) rfl
theorem wd_1254 : (Cond.code yX4_shownShare prog_6_method_89_code 1 (Option.some FieldType.double)) ∈ WG := WG_t5 (List.mem_of_getElem? (i := 218) (rfl)) rfl
theorem wd_1255 : (Cond.methodLink "MagnetPoemsModel" 252 yX4_share) ∈ WG := WG_t5 (List.mem_of_getElem? (i := 219) (by decide +kernel)) rfl
theorem wd_1257 : (Cond.instanceMethod yX4_share) ∈ WG := WG_t5 (List.mem_of_getElem? (i := 221) (by decide +kernel)) rfl
theorem wd_1258 : (Cond.code yX4_share prog_6_method_88_code 1 (Option.some FieldType.double)) ∈ WG := WG_t5 (List.mem_of_getElem? (i := 222) (rfl)) rfl
theorem wd_1259 : (Cond.constantDouble "MagnetPoemsModel" 250 4630826316843712512) ∈ WG := WG_t5 (List.mem_of_getElem? (i := 223) (by decide +kernel)) rfl
theorem wd_1260 : (Cond.methodLink "MagnetPoemsLaw" 193 yX4_digest) ∈ WG := WG_t5 (List.mem_of_getElem? (i := 224) (by decide +kernel)) rfl
theorem wd_1261 : (Cond.instanceMethod yX4_digest) ∈ WG := WG_t5 (List.mem_of_getElem? (i := 225) (by decide +kernel)) rfl
theorem wd_1262 : (Cond.selects "MagnetPoemsModel" yX4_digest yX4_digest) ∈ WG := WG_t5 (List.mem_of_getElem? (i := 226) (by decide +kernel)) rfl
theorem wd_1263 : (Cond.code yX4_digest prog_6_method_93_code 3 (Option.some FieldType.long)) ∈ WG := WG_t5 (List.mem_of_getElem? (i := 227) (rfl)) rfl
theorem wd_1264 : (Cond.constantLong "MagnetPoemsModel" 268 3391) ∈ WG := WG_t5 (List.mem_of_getElem? (i := 228) (by decide +kernel)) rfl
theorem wd_1265 : (Cond.methodLink "MagnetPoemsModel" 261 yX4_mix) ∈ WG := WG_t5 (List.mem_of_getElem? (i := 229) (by decide +kernel)) rfl
theorem wd_1267 : (Cond.instanceMethod yX4_mix) ∈ WG := WG_t5 (List.mem_of_getElem? (i := 231) (by decide +kernel)) rfl
theorem wd_1268 : (Cond.code yX4_mix prog_6_method_90_code 3 (Option.none : Option FieldType)) ∈ WG := WG_t5 (List.mem_of_getElem? (i := 232) (rfl)) rfl
theorem wd_1269 : (Cond.constantLong "MagnetPoemsModel" 256 31) ∈ WG := WG_t5 (List.mem_of_getElem? (i := 233) (by decide +kernel)) rfl
theorem wd_1270 : (Cond.methodLink "MagnetPoemsModel" 270 yX4_mixDoor) ∈ WG := WG_t5 (List.mem_of_getElem? (i := 234) (by decide +kernel)) rfl
theorem wd_1272 : (Cond.instanceMethod yX4_mixDoor) ∈ WG := WG_t5 (List.mem_of_getElem? (i := 236) (by decide +kernel)) rfl
theorem wd_1273 : (Cond.code yX4_mixDoor prog_6_method_92_code 3 (Option.none : Option FieldType)) ∈ WG := WG_t5 (List.mem_of_getElem? (i := 237) (rfl)) rfl
theorem wd_1274 : (Cond.methodLink "MagnetPoemsModel" 265 yX4_mixLine) ∈ WG := WG_t5 (List.mem_of_getElem? (i := 238) (by decide +kernel)) rfl
theorem wd_1276 : (Cond.instanceMethod yX4_mixLine) ∈ WG := WG_t6 (List.mem_of_getElem? (i := 0) (by decide +kernel)) rfl
theorem wd_1277 : (Cond.code yX4_mixLine prog_6_method_91_code 3 (Option.none : Option FieldType)) ∈ WG := WG_t6 (List.mem_of_getElem? (i := 1) (rfl)) rfl
theorem wd_1278 : (Cond.methodLink "MagnetPoemsModel" 273 yJxe99ae_doubleToLongBits_ccdee) ∈ WG := WG_t6 (List.mem_of_getElem? (i := 2) (by decide +kernel)) rfl
theorem wd_1279 : (Cond.static yJxe99ae_doubleToLongBits_ccdee) ∈ WG := WG_t6 (List.mem_of_getElem? (i := 3) (by decide +kernel)) rfl
theorem wd_1280 : (Cond.code yJxe99ae_doubleToLongBits_ccdee prog_7_method_23_code 2 (Option.some FieldType.long)) ∈ WG := WG_t6 (List.mem_of_getElem? (i := 4) (rfl)) rfl
theorem wd_1281 : (Cond.methodLink "java/lang/Double" 122 yJxe99ae_isNaN_b9ae7) ∈ WG := WG_t6 (List.mem_of_getElem? (i := 5) (by decide +kernel)) rfl
theorem wd_1282 : (Cond.static yJxe99ae_isNaN_b9ae7) ∈ WG := WG_t6 (List.mem_of_getElem? (i := 6) (by decide +kernel)) rfl
theorem wd_1283 : (Cond.code yJxe99ae_isNaN_b9ae7 prog_7_method_6_code 2 (Option.some FieldType.boolean)) ∈ WG := WG_t6 (List.mem_of_getElem? (i := 7) (rfl)) rfl
theorem wd_1284 : (Cond.methodLink "java/lang/Double" 134 ⟨"java/lang/Double", "doubleToRawLongBits", "(D)J"⟩) ∈ WG := WG_t6 (List.mem_of_getElem? (i := 8) (by decide +kernel)) rfl
theorem wd_1285 : (Cond.static ⟨"java/lang/Double", "doubleToRawLongBits", "(D)J"⟩) ∈ WG := WG_t6 (List.mem_of_getElem? (i := 9) (by decide +kernel)) rfl
theorem wd_1286 : (Cond.native ⟨"java/lang/Double", "doubleToRawLongBits", "(D)J"⟩) ∈ WG := WG_t6 (List.mem_of_getElem? (i := 10) (by decide +kernel)) rfl
theorem wd_1287 : (Cond.constantLong "java/lang/Double" 137 9221120237041090560) ∈ WG := WG_t6 (List.mem_of_getElem? (i := 11) (by decide +kernel)) rfl
theorem wd_1288 : (Cond.arrayClass FieldType.long) ∈ WG := WG_t6 (List.mem_of_getElem? (i := 12) (by decide +kernel)) rfl
theorem wd_1289 : (Cond.sameMethod "java/lang/Throwable" "java/lang/Throwable" "fillInStackTrace" "(I)Ljava/lang/Throwable;") ∈ WG := WG_t6 (List.mem_of_getElem? (i := 13) (by decide +kernel)) rfl

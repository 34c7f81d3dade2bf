theorem dX0_init_0 : decode cX0_init 0 = .ok (.aload_n 0, 1) := by decide +kernel
theorem dX0_init_1 : decode cX0_init 1 = .ok (.invokespecial 3, 3) := by decide +kernel
theorem dX0_init_4 : decode cX0_init 4 = .ok (.aload_n 0, 1) := by decide +kernel
theorem dX0_init_5 : decode cX0_init 5 = .ok (.bipush 40, 2) := by decide +kernel
theorem dX0_init_7 : decode cX0_init 7 = .ok (.newarray .int, 2) := by decide +kernel
theorem dX0_init_9 : decode cX0_init 9 = .ok (.putfield 9, 3) := by decide +kernel
theorem dX0_init_12 : decode cX0_init 12 = .ok (.aload_n 0, 1) := by decide +kernel
theorem dX0_init_13 : decode cX0_init 13 = .ok (.bipush 96, 2) := by decide +kernel
theorem dX0_init_15 : decode cX0_init 15 = .ok (.newarray .int, 2) := by decide +kernel
theorem dX0_init_17 : decode cX0_init 17 = .ok (.putfield 15, 3) := by decide +kernel
theorem dX0_init_20 : decode cX0_init 20 = .ok (.aload_n 0, 1) := by decide +kernel
theorem dX0_init_21 : decode cX0_init 21 = .ok (.bipush 16, 2) := by decide +kernel
theorem dX0_init_23 : decode cX0_init 23 = .ok (.newarray .int, 2) := by decide +kernel
theorem dX0_init_25 : decode cX0_init 25 = .ok (.putfield 18, 3) := by decide +kernel
theorem dX0_init_28 : decode cX0_init 28 = .ok (.aload_n 0, 1) := by decide +kernel
theorem dX0_init_29 : decode cX0_init 29 = .ok (.bipush 16, 2) := by decide +kernel
theorem dX0_init_31 : decode cX0_init 31 = .ok (.newarray .int, 2) := by decide +kernel
theorem dX0_init_33 : decode cX0_init 33 = .ok (.putfield 21, 3) := by decide +kernel
theorem dX0_init_36 : decode cX0_init 36 = .ok (.aload_n 0, 1) := by decide +kernel
theorem dX0_init_37 : decode cX0_init 37 = .ok (.bipush 16, 2) := by decide +kernel
theorem dX0_init_39 : decode cX0_init 39 = .ok (.newarray .int, 2) := by decide +kernel
theorem dX0_init_41 : decode cX0_init 41 = .ok (.putfield 24, 3) := by decide +kernel
theorem dX0_init_44 : decode cX0_init 44 = .ok (.aload_n 0, 1) := by decide +kernel
theorem dX0_init_45 : decode cX0_init 45 = .ok (.bipush 40, 2) := by decide +kernel
theorem dX0_init_47 : decode cX0_init 47 = .ok (.newarray .int, 2) := by decide +kernel
theorem dX0_init_49 : decode cX0_init 49 = .ok (.putfield 27, 3) := by decide +kernel
theorem dX0_init_52 : decode cX0_init 52 = .ok (.aload_n 0, 1) := by decide +kernel
theorem dX0_init_53 : decode cX0_init 53 = .ok (.iconst 4, 1) := by decide +kernel
theorem dX0_init_54 : decode cX0_init 54 = .ok (.newarray .int, 2) := by decide +kernel
theorem dX0_init_56 : decode cX0_init 56 = .ok (.putfield 30, 3) := by decide +kernel
theorem dX0_init_59 : decode cX0_init 59 = .ok (.aload_n 0, 1) := by decide +kernel
theorem dX0_init_60 : decode cX0_init 60 = .ok (.iconst 4, 1) := by decide +kernel
theorem dX0_init_61 : decode cX0_init 61 = .ok (.newarray .int, 2) := by decide +kernel
theorem dX0_init_63 : decode cX0_init 63 = .ok (.putfield 33, 3) := by decide +kernel
theorem dX0_init_66 : decode cX0_init 66 = .ok (.aload_n 0, 1) := by decide +kernel
theorem dX0_init_67 : decode cX0_init 67 = .ok (.iconst 3, 1) := by decide +kernel
theorem dX0_init_68 : decode cX0_init 68 = .ok (.newarray .int, 2) := by decide +kernel
theorem dX0_init_70 : decode cX0_init 70 = .ok (.putfield 36, 3) := by decide +kernel
theorem dX0_init_73 : decode cX0_init 73 = .ok (.aload_n 0, 1) := by decide +kernel
theorem dX0_init_74 : decode cX0_init 74 = .ok (.getfield 9, 3) := by decide +kernel
theorem dX0_init_77 : decode cX0_init 77 = .ok (.iconst (-1), 1) := by decide +kernel
theorem dX0_init_78 : decode cX0_init 78 = .ok (.invokestatic 39, 3) := by decide +kernel
theorem dX0_init_81 : decode cX0_init 81 = .ok (.aload_n 0, 1) := by decide +kernel
theorem dX0_init_82 : decode cX0_init 82 = .ok (.getfield 15, 3) := by decide +kernel
theorem dX0_init_85 : decode cX0_init 85 = .ok (.iconst (-1), 1) := by decide +kernel
theorem dX0_init_86 : decode cX0_init 86 = .ok (.invokestatic 39, 3) := by decide +kernel
theorem dX0_init_89 : decode cX0_init 89 = .ok (.aload_n 0, 1) := by decide +kernel
theorem dX0_init_90 : decode cX0_init 90 = .ok (.getfield 21, 3) := by decide +kernel
theorem dX0_init_93 : decode cX0_init 93 = .ok (.iconst (-1), 1) := by decide +kernel
theorem dX0_init_94 : decode cX0_init 94 = .ok (.invokestatic 39, 3) := by decide +kernel
theorem dX0_init_97 : decode cX0_init 97 = .ok (.aload_n 0, 1) := by decide +kernel
theorem dX0_init_98 : decode cX0_init 98 = .ok (.getfield 24, 3) := by decide +kernel
theorem dX0_init_101 : decode cX0_init 101 = .ok (.iconst (-1), 1) := by decide +kernel
theorem dX0_init_102 : decode cX0_init 102 = .ok (.invokestatic 39, 3) := by decide +kernel
theorem dX0_init_105 : decode cX0_init 105 = .ok (.aload_n 0, 1) := by decide +kernel
theorem dX0_init_106 : decode cX0_init 106 = .ok (.getfield 36, 3) := by decide +kernel
theorem dX0_init_109 : decode cX0_init 109 = .ok (.iconst 1, 1) := by decide +kernel
theorem dX0_init_110 : decode cX0_init 110 = .ok (.bipush 20, 2) := by decide +kernel
theorem dX0_init_112 : decode cX0_init 112 = .ok (.invokestatic 43, 3) := by decide +kernel
theorem dX0_init_115 : decode cX0_init 115 = .ok (.aload_n 0, 1) := by decide +kernel
theorem dX0_init_116 : decode cX0_init 116 = .ok (.getfield 36, 3) := by decide +kernel
theorem dX0_init_119 : decode cX0_init 119 = .ok (.iconst 2, 1) := by decide +kernel
theorem dX0_init_120 : decode cX0_init 120 = .ok (.iconst 1, 1) := by decide +kernel
theorem dX0_init_121 : decode cX0_init 121 = .ok (.invokestatic 43, 3) := by decide +kernel
theorem dX0_init_124 : decode cX0_init 124 = .ok (.return_, 1) := by decide +kernel
theorem dX0_copyFrom_0 : decode cX0_copyFrom 0 = .ok (.aload_n 1, 1) := by decide +kernel
theorem dX0_copyFrom_1 : decode cX0_copyFrom 1 = .ok (.getfield 9, 3) := by decide +kernel
theorem dX0_copyFrom_4 : decode cX0_copyFrom 4 = .ok (.aload_n 0, 1) := by decide +kernel
theorem dX0_copyFrom_5 : decode cX0_copyFrom 5 = .ok (.getfield 9, 3) := by decide +kernel
theorem dX0_copyFrom_8 : decode cX0_copyFrom 8 = .ok (.invokestatic 47, 3) := by decide +kernel
theorem dX0_copyFrom_11 : decode cX0_copyFrom 11 = .ok (.aload_n 1, 1) := by decide +kernel
theorem dX0_copyFrom_12 : decode cX0_copyFrom 12 = .ok (.getfield 15, 3) := by decide +kernel
theorem dX0_copyFrom_15 : decode cX0_copyFrom 15 = .ok (.aload_n 0, 1) := by decide +kernel
theorem dX0_copyFrom_16 : decode cX0_copyFrom 16 = .ok (.getfield 15, 3) := by decide +kernel
theorem dX0_copyFrom_19 : decode cX0_copyFrom 19 = .ok (.invokestatic 47, 3) := by decide +kernel
theorem dX0_copyFrom_22 : decode cX0_copyFrom 22 = .ok (.aload_n 1, 1) := by decide +kernel
theorem dX0_copyFrom_23 : decode cX0_copyFrom 23 = .ok (.getfield 18, 3) := by decide +kernel
theorem dX0_copyFrom_26 : decode cX0_copyFrom 26 = .ok (.aload_n 0, 1) := by decide +kernel
theorem dX0_copyFrom_27 : decode cX0_copyFrom 27 = .ok (.getfield 18, 3) := by decide +kernel
theorem dX0_copyFrom_30 : decode cX0_copyFrom 30 = .ok (.invokestatic 47, 3) := by decide +kernel
theorem dX0_copyFrom_33 : decode cX0_copyFrom 33 = .ok (.aload_n 1, 1) := by decide +kernel
theorem dX0_copyFrom_34 : decode cX0_copyFrom 34 = .ok (.getfield 21, 3) := by decide +kernel
theorem dX0_copyFrom_37 : decode cX0_copyFrom 37 = .ok (.aload_n 0, 1) := by decide +kernel
theorem dX0_copyFrom_38 : decode cX0_copyFrom 38 = .ok (.getfield 21, 3) := by decide +kernel
theorem dX0_copyFrom_41 : decode cX0_copyFrom 41 = .ok (.invokestatic 47, 3) := by decide +kernel
theorem dX0_copyFrom_44 : decode cX0_copyFrom 44 = .ok (.aload_n 1, 1) := by decide +kernel
theorem dX0_copyFrom_45 : decode cX0_copyFrom 45 = .ok (.getfield 24, 3) := by decide +kernel
theorem dX0_copyFrom_48 : decode cX0_copyFrom 48 = .ok (.aload_n 0, 1) := by decide +kernel
theorem dX0_copyFrom_49 : decode cX0_copyFrom 49 = .ok (.getfield 24, 3) := by decide +kernel
theorem dX0_copyFrom_52 : decode cX0_copyFrom 52 = .ok (.invokestatic 47, 3) := by decide +kernel
theorem dX0_copyFrom_55 : decode cX0_copyFrom 55 = .ok (.aload_n 1, 1) := by decide +kernel
theorem dX0_copyFrom_56 : decode cX0_copyFrom 56 = .ok (.getfield 27, 3) := by decide +kernel
theorem dX0_copyFrom_59 : decode cX0_copyFrom 59 = .ok (.aload_n 0, 1) := by decide +kernel
theorem dX0_copyFrom_60 : decode cX0_copyFrom 60 = .ok (.getfield 27, 3) := by decide +kernel
theorem dX0_copyFrom_63 : decode cX0_copyFrom 63 = .ok (.invokestatic 47, 3) := by decide +kernel
theorem dX0_copyFrom_66 : decode cX0_copyFrom 66 = .ok (.aload_n 1, 1) := by decide +kernel
theorem dX0_copyFrom_67 : decode cX0_copyFrom 67 = .ok (.getfield 30, 3) := by decide +kernel
theorem dX0_copyFrom_70 : decode cX0_copyFrom 70 = .ok (.aload_n 0, 1) := by decide +kernel
theorem dX0_copyFrom_71 : decode cX0_copyFrom 71 = .ok (.getfield 30, 3) := by decide +kernel
theorem dX0_copyFrom_74 : decode cX0_copyFrom 74 = .ok (.invokestatic 47, 3) := by decide +kernel
theorem dX0_copyFrom_77 : decode cX0_copyFrom 77 = .ok (.aload_n 1, 1) := by decide +kernel
theorem dX0_copyFrom_78 : decode cX0_copyFrom 78 = .ok (.getfield 33, 3) := by decide +kernel
theorem dX0_copyFrom_81 : decode cX0_copyFrom 81 = .ok (.aload_n 0, 1) := by decide +kernel
theorem dX0_copyFrom_82 : decode cX0_copyFrom 82 = .ok (.getfield 33, 3) := by decide +kernel
theorem dX0_copyFrom_85 : decode cX0_copyFrom 85 = .ok (.invokestatic 47, 3) := by decide +kernel
theorem dX0_copyFrom_88 : decode cX0_copyFrom 88 = .ok (.aload_n 1, 1) := by decide +kernel
theorem dX0_copyFrom_89 : decode cX0_copyFrom 89 = .ok (.getfield 36, 3) := by decide +kernel
theorem dX0_copyFrom_92 : decode cX0_copyFrom 92 = .ok (.aload_n 0, 1) := by decide +kernel
theorem dX0_copyFrom_93 : decode cX0_copyFrom 93 = .ok (.getfield 36, 3) := by decide +kernel
theorem dX0_copyFrom_96 : decode cX0_copyFrom 96 = .ok (.invokestatic 47, 3) := by decide +kernel
theorem dX0_copyFrom_99 : decode cX0_copyFrom 99 = .ok (.aload_n 0, 1) := by decide +kernel
theorem dX0_copyFrom_100 : decode cX0_copyFrom 100 = .ok (.aload_n 1, 1) := by decide +kernel
theorem dX0_copyFrom_101 : decode cX0_copyFrom 101 = .ok (.getfield 51, 3) := by decide +kernel
theorem dX0_copyFrom_104 : decode cX0_copyFrom 104 = .ok (.putfield 51, 3) := by decide +kernel
theorem dX0_copyFrom_107 : decode cX0_copyFrom 107 = .ok (.aload_n 0, 1) := by decide +kernel
theorem dX0_copyFrom_108 : decode cX0_copyFrom 108 = .ok (.aload_n 1, 1) := by decide +kernel
theorem dX0_copyFrom_109 : decode cX0_copyFrom 109 = .ok (.getfield 55, 3) := by decide +kernel
theorem dX0_copyFrom_112 : decode cX0_copyFrom 112 = .ok (.putfield 55, 3) := by decide +kernel
theorem dX0_copyFrom_115 : decode cX0_copyFrom 115 = .ok (.aload_n 0, 1) := by decide +kernel
theorem dX0_copyFrom_116 : decode cX0_copyFrom 116 = .ok (.aload_n 1, 1) := by decide +kernel
theorem dX0_copyFrom_117 : decode cX0_copyFrom 117 = .ok (.getfield 58, 3) := by decide +kernel
theorem dX0_copyFrom_120 : decode cX0_copyFrom 120 = .ok (.putfield 58, 3) := by decide +kernel
theorem dX0_copyFrom_123 : decode cX0_copyFrom 123 = .ok (.aload_n 0, 1) := by decide +kernel
theorem dX0_copyFrom_124 : decode cX0_copyFrom 124 = .ok (.aload_n 1, 1) := by decide +kernel
theorem dX0_copyFrom_125 : decode cX0_copyFrom 125 = .ok (.getfield 61, 3) := by decide +kernel
theorem dX0_copyFrom_128 : decode cX0_copyFrom 128 = .ok (.putfield 61, 3) := by decide +kernel
theorem dX0_copyFrom_131 : decode cX0_copyFrom 131 = .ok (.return_, 1) := by decide +kernel
theorem dX0_homeOf_0 : decode cX0_homeOf 0 = .ok (.aload_n 0, 1) := by decide +kernel
theorem dX0_homeOf_1 : decode cX0_homeOf 1 = .ok (.getfield 9, 3) := by decide +kernel
theorem dX0_homeOf_4 : decode cX0_homeOf 4 = .ok (.iload_n 1, 1) := by decide +kernel
theorem dX0_homeOf_5 : decode cX0_homeOf 5 = .ok (.invokestatic 64, 3) := by decide +kernel
theorem dX0_homeOf_8 : decode cX0_homeOf 8 = .ok (.ireturn, 1) := by decide +kernel
theorem dX0_isInBag_0 : decode cX0_isInBag 0 = .ok (.aload_n 0, 1) := by decide +kernel
theorem dX0_isInBag_1 : decode cX0_isInBag 1 = .ok (.getfield 9, 3) := by decide +kernel
theorem dX0_isInBag_4 : decode cX0_isInBag 4 = .ok (.iload_n 1, 1) := by decide +kernel
theorem dX0_isInBag_5 : decode cX0_isInBag 5 = .ok (.invokestatic 64, 3) := by decide +kernel
theorem dX0_isInBag_8 : decode cX0_isInBag 8 = .ok (.iconst (-1), 1) := by decide +kernel
theorem dX0_isInBag_9 : decode cX0_isInBag 9 = .ok (.if_icmp .ne 7, 3) := by decide +kernel
theorem dX0_isInBag_12 : decode cX0_isInBag 12 = .ok (.iconst 1, 1) := by decide +kernel
theorem dX0_isInBag_13 : decode cX0_isInBag 13 = .ok (.goto 4, 3) := by decide +kernel
theorem dX0_isInBag_16 : decode cX0_isInBag 16 = .ok (.iconst 0, 1) := by decide +kernel
theorem dX0_isInBag_17 : decode cX0_isInBag 17 = .ok (.ireturn, 1) := by decide +kernel
theorem dX0_sizeOf_0 : decode cX0_sizeOf 0 = .ok (.aload_n 0, 1) := by decide +kernel
theorem dX0_sizeOf_1 : decode cX0_sizeOf 1 = .ok (.getfield 18, 3) := by decide +kernel
theorem dX0_sizeOf_4 : decode cX0_sizeOf 4 = .ok (.iload_n 1, 1) := by decide +kernel
theorem dX0_sizeOf_5 : decode cX0_sizeOf 5 = .ok (.invokestatic 64, 3) := by decide +kernel
theorem dX0_sizeOf_8 : decode cX0_sizeOf 8 = .ok (.ireturn, 1) := by decide +kernel
theorem dX0_wordAt_0 : decode cX0_wordAt 0 = .ok (.iload_n 1, 1) := by decide +kernel
theorem dX0_wordAt_1 : decode cX0_wordAt 1 = .ok (.bipush 6, 2) := by decide +kernel
theorem dX0_wordAt_3 : decode cX0_wordAt 3 = .ok (.imul, 1) := by decide +kernel
theorem dX0_wordAt_4 : decode cX0_wordAt 4 = .ok (.iload_n 2, 1) := by decide +kernel
theorem dX0_wordAt_5 : decode cX0_wordAt 5 = .ok (.iadd, 1) := by decide +kernel
theorem dX0_wordAt_6 : decode cX0_wordAt 6 = .ok (.istore_n 3, 1) := by decide +kernel
theorem dX0_wordAt_7 : decode cX0_wordAt 7 = .ok (.iload_n 2, 1) := by decide +kernel
theorem dX0_wordAt_8 : decode cX0_wordAt 8 = .ok (.ifCond .lt 26, 3) := by decide +kernel
theorem dX0_wordAt_11 : decode cX0_wordAt 11 = .ok (.iload_n 2, 1) := by decide +kernel
theorem dX0_wordAt_12 : decode cX0_wordAt 12 = .ok (.bipush 6, 2) := by decide +kernel
theorem dX0_wordAt_14 : decode cX0_wordAt 14 = .ok (.if_icmp .ge 20, 3) := by decide +kernel
theorem dX0_wordAt_17 : decode cX0_wordAt 17 = .ok (.iload_n 3, 1) := by decide +kernel
theorem dX0_wordAt_18 : decode cX0_wordAt 18 = .ok (.ifCond .lt 16, 3) := by decide +kernel
theorem dX0_wordAt_21 : decode cX0_wordAt 21 = .ok (.iload_n 3, 1) := by decide +kernel
theorem dX0_wordAt_22 : decode cX0_wordAt 22 = .ok (.aload_n 0, 1) := by decide +kernel
theorem dX0_wordAt_23 : decode cX0_wordAt 23 = .ok (.getfield 15, 3) := by decide +kernel
theorem dX0_wordAt_26 : decode cX0_wordAt 26 = .ok (.arraylength, 1) := by decide +kernel
theorem dX0_wordAt_27 : decode cX0_wordAt 27 = .ok (.if_icmp .ge 7, 3) := by decide +kernel
theorem dX0_wordAt_30 : decode cX0_wordAt 30 = .ok (.iconst 1, 1) := by decide +kernel
theorem dX0_wordAt_31 : decode cX0_wordAt 31 = .ok (.goto 4, 3) := by decide +kernel
theorem dX0_wordAt_34 : decode cX0_wordAt 34 = .ok (.iconst 0, 1) := by decide +kernel
theorem dX0_wordAt_35 : decode cX0_wordAt 35 = .ok (.istore 4, 2) := by decide +kernel
theorem dX0_wordAt_37 : decode cX0_wordAt 37 = .ok (.iload 4, 2) := by decide +kernel
theorem dX0_wordAt_39 : decode cX0_wordAt 39 = .ok (.ifCond .eq 12, 3) := by decide +kernel
theorem dX0_wordAt_42 : decode cX0_wordAt 42 = .ok (.aload_n 0, 1) := by decide +kernel
theorem dX0_wordAt_43 : decode cX0_wordAt 43 = .ok (.getfield 15, 3) := by decide +kernel
theorem dX0_wordAt_46 : decode cX0_wordAt 46 = .ok (.iload_n 3, 1) := by decide +kernel
theorem dX0_wordAt_47 : decode cX0_wordAt 47 = .ok (.iaload, 1) := by decide +kernel
theorem dX0_wordAt_48 : decode cX0_wordAt 48 = .ok (.goto 4, 3) := by decide +kernel
theorem dX0_wordAt_51 : decode cX0_wordAt 51 = .ok (.iconst (-1), 1) := by decide +kernel
theorem dX0_wordAt_52 : decode cX0_wordAt 52 = .ok (.ireturn, 1) := by decide +kernel
theorem dX0_setWordAt_0 : decode cX0_setWordAt 0 = .ok (.iload_n 2, 1) := by decide +kernel
theorem dX0_setWordAt_1 : decode cX0_setWordAt 1 = .ok (.ifCond .lt 23, 3) := by decide +kernel
theorem dX0_setWordAt_4 : decode cX0_setWordAt 4 = .ok (.iload_n 2, 1) := by decide +kernel
theorem dX0_setWordAt_5 : decode cX0_setWordAt 5 = .ok (.bipush 6, 2) := by decide +kernel
theorem dX0_setWordAt_7 : decode cX0_setWordAt 7 = .ok (.if_icmp .ge 17, 3) := by decide +kernel
theorem dX0_setWordAt_10 : decode cX0_setWordAt 10 = .ok (.aload_n 0, 1) := by decide +kernel
theorem dX0_setWordAt_11 : decode cX0_setWordAt 11 = .ok (.getfield 15, 3) := by decide +kernel
theorem dX0_setWordAt_14 : decode cX0_setWordAt 14 = .ok (.iload_n 1, 1) := by decide +kernel
theorem dX0_setWordAt_15 : decode cX0_setWordAt 15 = .ok (.bipush 6, 2) := by decide +kernel
theorem dX0_setWordAt_17 : decode cX0_setWordAt 17 = .ok (.imul, 1) := by decide +kernel
theorem dX0_setWordAt_18 : decode cX0_setWordAt 18 = .ok (.iload_n 2, 1) := by decide +kernel
theorem dX0_setWordAt_19 : decode cX0_setWordAt 19 = .ok (.iadd, 1) := by decide +kernel
theorem dX0_setWordAt_20 : decode cX0_setWordAt 20 = .ok (.iload_n 3, 1) := by decide +kernel
theorem dX0_setWordAt_21 : decode cX0_setWordAt 21 = .ok (.invokestatic 43, 3) := by decide +kernel
theorem dX0_setWordAt_24 : decode cX0_setWordAt 24 = .ok (.return_, 1) := by decide +kernel
theorem dX0_placeOf_0 : decode cX0_placeOf 0 = .ok (.aload_n 0, 1) := by decide +kernel
theorem dX0_placeOf_1 : decode cX0_placeOf 1 = .ok (.getfield 9, 3) := by decide +kernel
theorem dX0_placeOf_4 : decode cX0_placeOf 4 = .ok (.iload_n 1, 1) := by decide +kernel
theorem dX0_placeOf_5 : decode cX0_placeOf 5 = .ok (.invokestatic 64, 3) := by decide +kernel
theorem dX0_placeOf_8 : decode cX0_placeOf 8 = .ok (.istore_n 2, 1) := by decide +kernel
theorem dX0_placeOf_9 : decode cX0_placeOf 9 = .ok (.iconst 0, 1) := by decide +kernel
theorem dX0_placeOf_10 : decode cX0_placeOf 10 = .ok (.istore_n 3, 1) := by decide +kernel
theorem dX0_placeOf_11 : decode cX0_placeOf 11 = .ok (.iload_n 3, 1) := by decide +kernel
theorem dX0_placeOf_12 : decode cX0_placeOf 12 = .ok (.aload_n 0, 1) := by decide +kernel
theorem dX0_placeOf_13 : decode cX0_placeOf 13 = .ok (.getfield 18, 3) := by decide +kernel
theorem dX0_placeOf_16 : decode cX0_placeOf 16 = .ok (.iload_n 2, 1) := by decide +kernel
theorem dX0_placeOf_17 : decode cX0_placeOf 17 = .ok (.invokestatic 64, 3) := by decide +kernel
theorem dX0_placeOf_20 : decode cX0_placeOf 20 = .ok (.if_icmp .ge 21, 3) := by decide +kernel
theorem dX0_placeOf_23 : decode cX0_placeOf 23 = .ok (.aload_n 0, 1) := by decide +kernel
theorem dX0_placeOf_24 : decode cX0_placeOf 24 = .ok (.iload_n 2, 1) := by decide +kernel
theorem dX0_placeOf_25 : decode cX0_placeOf 25 = .ok (.iload_n 3, 1) := by decide +kernel
theorem dX0_placeOf_26 : decode cX0_placeOf 26 = .ok (.invokevirtual 68, 3) := by decide +kernel
theorem dX0_placeOf_29 : decode cX0_placeOf 29 = .ok (.iload_n 1, 1) := by decide +kernel
theorem dX0_placeOf_30 : decode cX0_placeOf 30 = .ok (.if_icmp .ne 5, 3) := by decide +kernel
theorem dX0_placeOf_33 : decode cX0_placeOf 33 = .ok (.iload_n 3, 1) := by decide +kernel
theorem dX0_placeOf_34 : decode cX0_placeOf 34 = .ok (.ireturn, 1) := by decide +kernel
theorem dX0_placeOf_35 : decode cX0_placeOf 35 = .ok (.iinc 3 1, 3) := by decide +kernel
theorem dX0_placeOf_38 : decode cX0_placeOf 38 = .ok (.goto (-27), 3) := by decide +kernel
theorem dX0_placeOf_41 : decode cX0_placeOf 41 = .ok (.iconst (-1), 1) := by decide +kernel
theorem dX0_placeOf_42 : decode cX0_placeOf 42 = .ok (.ireturn, 1) := by decide +kernel
theorem dX0_bagToldByWords_0 : decode cX0_bagToldByWords 0 = .ok (.iconst 0, 1) := by decide +kernel
theorem dX0_bagToldByWords_1 : decode cX0_bagToldByWords 1 = .ok (.istore_n 1, 1) := by decide +kernel
theorem dX0_bagToldByWords_2 : decode cX0_bagToldByWords 2 = .ok (.iconst 0, 1) := by decide +kernel
theorem dX0_bagToldByWords_3 : decode cX0_bagToldByWords 3 = .ok (.istore_n 2, 1) := by decide +kernel
theorem dX0_bagToldByWords_4 : decode cX0_bagToldByWords 4 = .ok (.iload_n 2, 1) := by decide +kernel
theorem dX0_bagToldByWords_5 : decode cX0_bagToldByWords 5 = .ok (.aload_n 0, 1) := by decide +kernel
theorem dX0_bagToldByWords_6 : decode cX0_bagToldByWords 6 = .ok (.getfield 9, 3) := by decide +kernel
theorem dX0_bagToldByWords_9 : decode cX0_bagToldByWords 9 = .ok (.arraylength, 1) := by decide +kernel
theorem dX0_bagToldByWords_10 : decode cX0_bagToldByWords 10 = .ok (.if_icmp .ge 22, 3) := by decide +kernel
theorem dX0_bagToldByWords_13 : decode cX0_bagToldByWords 13 = .ok (.aload_n 0, 1) := by decide +kernel
theorem dX0_bagToldByWords_14 : decode cX0_bagToldByWords 14 = .ok (.getfield 9, 3) := by decide +kernel
theorem dX0_bagToldByWords_17 : decode cX0_bagToldByWords 17 = .ok (.iload_n 2, 1) := by decide +kernel
theorem dX0_bagToldByWords_18 : decode cX0_bagToldByWords 18 = .ok (.iaload, 1) := by decide +kernel
theorem dX0_bagToldByWords_19 : decode cX0_bagToldByWords 19 = .ok (.iconst (-1), 1) := by decide +kernel
theorem dX0_bagToldByWords_20 : decode cX0_bagToldByWords 20 = .ok (.if_icmp .ne 6, 3) := by decide +kernel
theorem dX0_bagToldByWords_23 : decode cX0_bagToldByWords 23 = .ok (.iinc 1 1, 3) := by decide +kernel
theorem dX0_bagToldByWords_26 : decode cX0_bagToldByWords 26 = .ok (.iinc 2 1, 3) := by decide +kernel
theorem dX0_bagToldByWords_29 : decode cX0_bagToldByWords 29 = .ok (.goto (-25), 3) := by decide +kernel
theorem dX0_bagToldByWords_32 : decode cX0_bagToldByWords 32 = .ok (.iload_n 1, 1) := by decide +kernel
theorem dX0_bagToldByWords_33 : decode cX0_bagToldByWords 33 = .ok (.ireturn, 1) := by decide +kernel
theorem dX0_bagToldByLines_0 : decode cX0_bagToldByLines 0 = .ok (.bipush 40, 2) := by decide +kernel
theorem dX0_bagToldByLines_2 : decode cX0_bagToldByLines 2 = .ok (.istore_n 1, 1) := by decide +kernel
theorem dX0_bagToldByLines_3 : decode cX0_bagToldByLines 3 = .ok (.iconst 0, 1) := by decide +kernel
theorem dX0_bagToldByLines_4 : decode cX0_bagToldByLines 4 = .ok (.istore_n 2, 1) := by decide +kernel
theorem dX0_bagToldByLines_5 : decode cX0_bagToldByLines 5 = .ok (.iload_n 2, 1) := by decide +kernel
theorem dX0_bagToldByLines_6 : decode cX0_bagToldByLines 6 = .ok (.aload_n 0, 1) := by decide +kernel
theorem dX0_bagToldByLines_7 : decode cX0_bagToldByLines 7 = .ok (.getfield 18, 3) := by decide +kernel
theorem dX0_bagToldByLines_10 : decode cX0_bagToldByLines 10 = .ok (.arraylength, 1) := by decide +kernel
theorem dX0_bagToldByLines_11 : decode cX0_bagToldByLines 11 = .ok (.if_icmp .ge 18, 3) := by decide +kernel
theorem dX0_bagToldByLines_14 : decode cX0_bagToldByLines 14 = .ok (.iload_n 1, 1) := by decide +kernel
theorem dX0_bagToldByLines_15 : decode cX0_bagToldByLines 15 = .ok (.aload_n 0, 1) := by decide +kernel
theorem dX0_bagToldByLines_16 : decode cX0_bagToldByLines 16 = .ok (.getfield 18, 3) := by decide +kernel
theorem dX0_bagToldByLines_19 : decode cX0_bagToldByLines 19 = .ok (.iload_n 2, 1) := by decide +kernel
theorem dX0_bagToldByLines_20 : decode cX0_bagToldByLines 20 = .ok (.iaload, 1) := by decide +kernel
theorem dX0_bagToldByLines_21 : decode cX0_bagToldByLines 21 = .ok (.isub, 1) := by decide +kernel
theorem dX0_bagToldByLines_22 : decode cX0_bagToldByLines 22 = .ok (.istore_n 1, 1) := by decide +kernel
theorem dX0_bagToldByLines_23 : decode cX0_bagToldByLines 23 = .ok (.iinc 2 1, 3) := by decide +kernel
theorem dX0_bagToldByLines_26 : decode cX0_bagToldByLines 26 = .ok (.goto (-21), 3) := by decide +kernel
theorem dX0_bagToldByLines_29 : decode cX0_bagToldByLines 29 = .ok (.iload_n 1, 1) := by decide +kernel
theorem dX0_bagToldByLines_30 : decode cX0_bagToldByLines 30 = .ok (.ireturn, 1) := by decide +kernel
theorem dX0_wordsOfDoor_0 : decode cX0_wordsOfDoor 0 = .ok (.iconst 0, 1) := by decide +kernel
theorem dX0_wordsOfDoor_1 : decode cX0_wordsOfDoor 1 = .ok (.istore_n 2, 1) := by decide +kernel
theorem dX0_wordsOfDoor_2 : decode cX0_wordsOfDoor 2 = .ok (.iconst 0, 1) := by decide +kernel
theorem dX0_wordsOfDoor_3 : decode cX0_wordsOfDoor 3 = .ok (.istore_n 3, 1) := by decide +kernel
theorem dX0_wordsOfDoor_4 : decode cX0_wordsOfDoor 4 = .ok (.iload_n 3, 1) := by decide +kernel
theorem dX0_wordsOfDoor_5 : decode cX0_wordsOfDoor 5 = .ok (.iconst 4, 1) := by decide +kernel
theorem dX0_wordsOfDoor_6 : decode cX0_wordsOfDoor 6 = .ok (.if_icmp .ge 24, 3) := by decide +kernel
theorem dX0_wordsOfDoor_9 : decode cX0_wordsOfDoor 9 = .ok (.iload_n 2, 1) := by decide +kernel
theorem dX0_wordsOfDoor_10 : decode cX0_wordsOfDoor 10 = .ok (.aload_n 0, 1) := by decide +kernel
theorem dX0_wordsOfDoor_11 : decode cX0_wordsOfDoor 11 = .ok (.getfield 18, 3) := by decide +kernel
theorem dX0_wordsOfDoor_14 : decode cX0_wordsOfDoor 14 = .ok (.iload_n 1, 1) := by decide +kernel
theorem dX0_wordsOfDoor_15 : decode cX0_wordsOfDoor 15 = .ok (.iload_n 3, 1) := by decide +kernel
theorem dX0_wordsOfDoor_16 : decode cX0_wordsOfDoor 16 = .ok (.invokestatic 72, 3) := by decide +kernel
theorem dX0_wordsOfDoor_19 : decode cX0_wordsOfDoor 19 = .ok (.invokestatic 64, 3) := by decide +kernel
theorem dX0_wordsOfDoor_22 : decode cX0_wordsOfDoor 22 = .ok (.iadd, 1) := by decide +kernel
theorem dX0_wordsOfDoor_23 : decode cX0_wordsOfDoor 23 = .ok (.istore_n 2, 1) := by decide +kernel
theorem dX0_wordsOfDoor_24 : decode cX0_wordsOfDoor 24 = .ok (.iinc 3 1, 3) := by decide +kernel
theorem dX0_wordsOfDoor_27 : decode cX0_wordsOfDoor 27 = .ok (.goto (-23), 3) := by decide +kernel
theorem dX0_wordsOfDoor_30 : decode cX0_wordsOfDoor 30 = .ok (.iload_n 2, 1) := by decide +kernel
theorem dX0_wordsOfDoor_31 : decode cX0_wordsOfDoor 31 = .ok (.ireturn, 1) := by decide +kernel
theorem dX0_insertWord_0 : decode cX0_insertWord 0 = .ok (.aload_n 0, 1) := by decide +kernel
theorem dX0_insertWord_1 : decode cX0_insertWord 1 = .ok (.getfield 18, 3) := by decide +kernel
theorem dX0_insertWord_4 : decode cX0_insertWord 4 = .ok (.iload_n 2, 1) := by decide +kernel
theorem dX0_insertWord_5 : decode cX0_insertWord 5 = .ok (.invokestatic 64, 3) := by decide +kernel
theorem dX0_insertWord_8 : decode cX0_insertWord 8 = .ok (.istore 4, 2) := by decide +kernel
theorem dX0_insertWord_10 : decode cX0_insertWord 10 = .ok (.iload 4, 2) := by decide +kernel
theorem dX0_insertWord_12 : decode cX0_insertWord 12 = .ok (.istore 5, 2) := by decide +kernel
theorem dX0_insertWord_14 : decode cX0_insertWord 14 = .ok (.iload 5, 2) := by decide +kernel
theorem dX0_insertWord_16 : decode cX0_insertWord 16 = .ok (.iload_n 3, 1) := by decide +kernel
theorem dX0_insertWord_17 : decode cX0_insertWord 17 = .ok (.if_icmp .le 25, 3) := by decide +kernel
theorem dX0_insertWord_20 : decode cX0_insertWord 20 = .ok (.aload_n 0, 1) := by decide +kernel
theorem dX0_insertWord_21 : decode cX0_insertWord 21 = .ok (.iload_n 2, 1) := by decide +kernel
theorem dX0_insertWord_22 : decode cX0_insertWord 22 = .ok (.iload 5, 2) := by decide +kernel
theorem dX0_insertWord_24 : decode cX0_insertWord 24 = .ok (.aload_n 0, 1) := by decide +kernel
theorem dX0_insertWord_25 : decode cX0_insertWord 25 = .ok (.iload_n 2, 1) := by decide +kernel
theorem dX0_insertWord_26 : decode cX0_insertWord 26 = .ok (.iload 5, 2) := by decide +kernel
theorem dX0_insertWord_28 : decode cX0_insertWord 28 = .ok (.iconst 1, 1) := by decide +kernel
theorem dX0_insertWord_29 : decode cX0_insertWord 29 = .ok (.isub, 1) := by decide +kernel
theorem dX0_insertWord_30 : decode cX0_insertWord 30 = .ok (.invokevirtual 68, 3) := by decide +kernel
theorem dX0_insertWord_33 : decode cX0_insertWord 33 = .ok (.invokevirtual 75, 3) := by decide +kernel
theorem dX0_insertWord_36 : decode cX0_insertWord 36 = .ok (.iinc 5 (-1), 3) := by decide +kernel
theorem dX0_insertWord_39 : decode cX0_insertWord 39 = .ok (.goto (-25), 3) := by decide +kernel
theorem dX0_insertWord_42 : decode cX0_insertWord 42 = .ok (.aload_n 0, 1) := by decide +kernel
theorem dX0_insertWord_43 : decode cX0_insertWord 43 = .ok (.iload_n 2, 1) := by decide +kernel
theorem dX0_insertWord_44 : decode cX0_insertWord 44 = .ok (.iload_n 3, 1) := by decide +kernel
theorem dX0_insertWord_45 : decode cX0_insertWord 45 = .ok (.iload_n 1, 1) := by decide +kernel
theorem dX0_insertWord_46 : decode cX0_insertWord 46 = .ok (.invokevirtual 75, 3) := by decide +kernel
theorem dX0_insertWord_49 : decode cX0_insertWord 49 = .ok (.aload_n 0, 1) := by decide +kernel
theorem dX0_insertWord_50 : decode cX0_insertWord 50 = .ok (.getfield 18, 3) := by decide +kernel
theorem dX0_insertWord_53 : decode cX0_insertWord 53 = .ok (.iload_n 2, 1) := by decide +kernel
theorem dX0_insertWord_54 : decode cX0_insertWord 54 = .ok (.iload 4, 2) := by decide +kernel
theorem dX0_insertWord_56 : decode cX0_insertWord 56 = .ok (.iconst 1, 1) := by decide +kernel
theorem dX0_insertWord_57 : decode cX0_insertWord 57 = .ok (.iadd, 1) := by decide +kernel
theorem dX0_insertWord_58 : decode cX0_insertWord 58 = .ok (.invokestatic 43, 3) := by decide +kernel
theorem dX0_insertWord_61 : decode cX0_insertWord 61 = .ok (.aload_n 0, 1) := by decide +kernel
theorem dX0_insertWord_62 : decode cX0_insertWord 62 = .ok (.getfield 9, 3) := by decide +kernel
theorem dX0_insertWord_65 : decode cX0_insertWord 65 = .ok (.iload_n 1, 1) := by decide +kernel
theorem dX0_insertWord_66 : decode cX0_insertWord 66 = .ok (.iload_n 2, 1) := by decide +kernel
theorem dX0_insertWord_67 : decode cX0_insertWord 67 = .ok (.invokestatic 43, 3) := by decide +kernel
theorem dX0_insertWord_70 : decode cX0_insertWord 70 = .ok (.aload_n 0, 1) := by decide +kernel
theorem dX0_insertWord_71 : decode cX0_insertWord 71 = .ok (.iload_n 2, 1) := by decide +kernel
theorem dX0_insertWord_72 : decode cX0_insertWord 72 = .ok (.iload_n 3, 1) := by decide +kernel
theorem dX0_insertWord_73 : decode cX0_insertWord 73 = .ok (.iload 4, 2) := by decide +kernel
theorem dX0_insertWord_75 : decode cX0_insertWord 75 = .ok (.if_icmp .ne 7, 3) := by decide +kernel
theorem dX0_insertWord_78 : decode cX0_insertWord 78 = .ok (.iconst 1, 1) := by decide +kernel
theorem dX0_insertWord_79 : decode cX0_insertWord 79 = .ok (.goto 4, 3) := by decide +kernel
theorem dX0_insertWord_82 : decode cX0_insertWord 82 = .ok (.iconst 0, 1) := by decide +kernel
theorem dX0_insertWord_83 : decode cX0_insertWord 83 = .ok (.invokevirtual 79, 3) := by decide +kernel
theorem dX0_insertWord_86 : decode cX0_insertWord 86 = .ok (.return_, 1) := by decide +kernel
theorem dX0_removeWord_0 : decode cX0_removeWord 0 = .ok (.aload_n 0, 1) := by decide +kernel
theorem dX0_removeWord_1 : decode cX0_removeWord 1 = .ok (.getfield 9, 3) := by decide +kernel
theorem dX0_removeWord_4 : decode cX0_removeWord 4 = .ok (.iload_n 1, 1) := by decide +kernel
theorem dX0_removeWord_5 : decode cX0_removeWord 5 = .ok (.invokestatic 64, 3) := by decide +kernel
theorem dX0_removeWord_8 : decode cX0_removeWord 8 = .ok (.istore_n 2, 1) := by decide +kernel
theorem dX0_removeWord_9 : decode cX0_removeWord 9 = .ok (.aload_n 0, 1) := by decide +kernel
theorem dX0_removeWord_10 : decode cX0_removeWord 10 = .ok (.iload_n 1, 1) := by decide +kernel
theorem dX0_removeWord_11 : decode cX0_removeWord 11 = .ok (.invokevirtual 83, 3) := by decide +kernel
theorem dX0_removeWord_14 : decode cX0_removeWord 14 = .ok (.istore_n 3, 1) := by decide +kernel
theorem dX0_removeWord_15 : decode cX0_removeWord 15 = .ok (.iload_n 3, 1) := by decide +kernel
theorem dX0_removeWord_16 : decode cX0_removeWord 16 = .ok (.iconst (-1), 1) := by decide +kernel
theorem dX0_removeWord_17 : decode cX0_removeWord 17 = .ok (.if_icmp .ne 4, 3) := by decide +kernel
theorem dX0_removeWord_20 : decode cX0_removeWord 20 = .ok (.return_, 1) := by decide +kernel
theorem dX0_removeWord_21 : decode cX0_removeWord 21 = .ok (.aload_n 0, 1) := by decide +kernel
theorem dX0_removeWord_22 : decode cX0_removeWord 22 = .ok (.getfield 18, 3) := by decide +kernel
theorem dX0_removeWord_25 : decode cX0_removeWord 25 = .ok (.iload_n 2, 1) := by decide +kernel
theorem dX0_removeWord_26 : decode cX0_removeWord 26 = .ok (.invokestatic 64, 3) := by decide +kernel
theorem dX0_removeWord_29 : decode cX0_removeWord 29 = .ok (.iconst 1, 1) := by decide +kernel
theorem dX0_removeWord_30 : decode cX0_removeWord 30 = .ok (.isub, 1) := by decide +kernel
theorem dX0_removeWord_31 : decode cX0_removeWord 31 = .ok (.istore 4, 2) := by decide +kernel
theorem dX0_removeWord_33 : decode cX0_removeWord 33 = .ok (.iload_n 3, 1) := by decide +kernel
theorem dX0_removeWord_34 : decode cX0_removeWord 34 = .ok (.istore 5, 2) := by decide +kernel
theorem dX0_removeWord_36 : decode cX0_removeWord 36 = .ok (.iload 5, 2) := by decide +kernel
theorem dX0_removeWord_38 : decode cX0_removeWord 38 = .ok (.iload 4, 2) := by decide +kernel
theorem dX0_removeWord_40 : decode cX0_removeWord 40 = .ok (.if_icmp .ge 25, 3) := by decide +kernel
theorem dX0_removeWord_43 : decode cX0_removeWord 43 = .ok (.aload_n 0, 1) := by decide +kernel
theorem dX0_removeWord_44 : decode cX0_removeWord 44 = .ok (.iload_n 2, 1) := by decide +kernel
theorem dX0_removeWord_45 : decode cX0_removeWord 45 = .ok (.iload 5, 2) := by decide +kernel
theorem dX0_removeWord_47 : decode cX0_removeWord 47 = .ok (.aload_n 0, 1) := by decide +kernel
theorem dX0_removeWord_48 : decode cX0_removeWord 48 = .ok (.iload_n 2, 1) := by decide +kernel
theorem dX0_removeWord_49 : decode cX0_removeWord 49 = .ok (.iload 5, 2) := by decide +kernel
theorem dX0_removeWord_51 : decode cX0_removeWord 51 = .ok (.iconst 1, 1) := by decide +kernel
theorem dX0_removeWord_52 : decode cX0_removeWord 52 = .ok (.iadd, 1) := by decide +kernel
theorem dX0_removeWord_53 : decode cX0_removeWord 53 = .ok (.invokevirtual 68, 3) := by decide +kernel
theorem dX0_removeWord_56 : decode cX0_removeWord 56 = .ok (.invokevirtual 75, 3) := by decide +kernel
theorem dX0_removeWord_59 : decode cX0_removeWord 59 = .ok (.iinc 5 1, 3) := by decide +kernel
theorem dX0_removeWord_62 : decode cX0_removeWord 62 = .ok (.goto (-26), 3) := by decide +kernel
theorem dX0_removeWord_65 : decode cX0_removeWord 65 = .ok (.aload_n 0, 1) := by decide +kernel
theorem dX0_removeWord_66 : decode cX0_removeWord 66 = .ok (.iload_n 2, 1) := by decide +kernel
theorem dX0_removeWord_67 : decode cX0_removeWord 67 = .ok (.iload 4, 2) := by decide +kernel
theorem dX0_removeWord_69 : decode cX0_removeWord 69 = .ok (.iconst (-1), 1) := by decide +kernel
theorem dX0_removeWord_70 : decode cX0_removeWord 70 = .ok (.invokevirtual 75, 3) := by decide +kernel
theorem dX0_removeWord_73 : decode cX0_removeWord 73 = .ok (.aload_n 0, 1) := by decide +kernel
theorem dX0_removeWord_74 : decode cX0_removeWord 74 = .ok (.getfield 18, 3) := by decide +kernel
theorem dX0_removeWord_77 : decode cX0_removeWord 77 = .ok (.iload_n 2, 1) := by decide +kernel
theorem dX0_removeWord_78 : decode cX0_removeWord 78 = .ok (.iload 4, 2) := by decide +kernel
theorem dX0_removeWord_80 : decode cX0_removeWord 80 = .ok (.invokestatic 43, 3) := by decide +kernel
theorem dX0_removeWord_83 : decode cX0_removeWord 83 = .ok (.aload_n 0, 1) := by decide +kernel
theorem dX0_removeWord_84 : decode cX0_removeWord 84 = .ok (.getfield 9, 3) := by decide +kernel
theorem dX0_removeWord_87 : decode cX0_removeWord 87 = .ok (.iload_n 1, 1) := by decide +kernel
theorem dX0_removeWord_88 : decode cX0_removeWord 88 = .ok (.iconst (-1), 1) := by decide +kernel
theorem dX0_removeWord_89 : decode cX0_removeWord 89 = .ok (.invokestatic 43, 3) := by decide +kernel
theorem dX0_removeWord_92 : decode cX0_removeWord 92 = .ok (.aload_n 0, 1) := by decide +kernel
theorem dX0_removeWord_93 : decode cX0_removeWord 93 = .ok (.iload_n 2, 1) := by decide +kernel
theorem dX0_removeWord_94 : decode cX0_removeWord 94 = .ok (.iload_n 3, 1) := by decide +kernel
theorem dX0_removeWord_95 : decode cX0_removeWord 95 = .ok (.iload 4, 2) := by decide +kernel
theorem dX0_removeWord_97 : decode cX0_removeWord 97 = .ok (.if_icmp .ne 7, 3) := by decide +kernel
theorem dX0_removeWord_100 : decode cX0_removeWord 100 = .ok (.iconst 1, 1) := by decide +kernel
theorem dX0_removeWord_101 : decode cX0_removeWord 101 = .ok (.goto 4, 3) := by decide +kernel
theorem dX0_removeWord_104 : decode cX0_removeWord 104 = .ok (.iconst 0, 1) := by decide +kernel
theorem dX0_removeWord_105 : decode cX0_removeWord 105 = .ok (.invokevirtual 79, 3) := by decide +kernel
theorem dX0_removeWord_108 : decode cX0_removeWord 108 = .ok (.return_, 1) := by decide +kernel
theorem dX0_emptyDoor_0 : decode cX0_emptyDoor 0 = .ok (.iconst 0, 1) := by decide +kernel
theorem dX0_emptyDoor_1 : decode cX0_emptyDoor 1 = .ok (.istore_n 2, 1) := by decide +kernel
theorem dX0_emptyDoor_2 : decode cX0_emptyDoor 2 = .ok (.iconst 0, 1) := by decide +kernel
theorem dX0_emptyDoor_3 : decode cX0_emptyDoor 3 = .ok (.istore_n 3, 1) := by decide +kernel
theorem dX0_emptyDoor_4 : decode cX0_emptyDoor 4 = .ok (.iload_n 3, 1) := by decide +kernel
theorem dX0_emptyDoor_5 : decode cX0_emptyDoor 5 = .ok (.aload_n 0, 1) := by decide +kernel
theorem dX0_emptyDoor_6 : decode cX0_emptyDoor 6 = .ok (.getfield 9, 3) := by decide +kernel
theorem dX0_emptyDoor_9 : decode cX0_emptyDoor 9 = .ok (.arraylength, 1) := by decide +kernel
theorem dX0_emptyDoor_10 : decode cX0_emptyDoor 10 = .ok (.if_icmp .ge 39, 3) := by decide +kernel
theorem dX0_emptyDoor_13 : decode cX0_emptyDoor 13 = .ok (.aload_n 0, 1) := by decide +kernel
theorem dX0_emptyDoor_14 : decode cX0_emptyDoor 14 = .ok (.getfield 9, 3) := by decide +kernel
theorem dX0_emptyDoor_17 : decode cX0_emptyDoor 17 = .ok (.iload_n 3, 1) := by decide +kernel
theorem dX0_emptyDoor_18 : decode cX0_emptyDoor 18 = .ok (.iaload, 1) := by decide +kernel
theorem dX0_emptyDoor_19 : decode cX0_emptyDoor 19 = .ok (.iconst (-1), 1) := by decide +kernel
theorem dX0_emptyDoor_20 : decode cX0_emptyDoor 20 = .ok (.if_icmp .eq 23, 3) := by decide +kernel
theorem dX0_emptyDoor_23 : decode cX0_emptyDoor 23 = .ok (.aload_n 0, 1) := by decide +kernel
theorem dX0_emptyDoor_24 : decode cX0_emptyDoor 24 = .ok (.getfield 9, 3) := by decide +kernel
theorem dX0_emptyDoor_27 : decode cX0_emptyDoor 27 = .ok (.iload_n 3, 1) := by decide +kernel
theorem dX0_emptyDoor_28 : decode cX0_emptyDoor 28 = .ok (.iaload, 1) := by decide +kernel
theorem dX0_emptyDoor_29 : decode cX0_emptyDoor 29 = .ok (.iconst 4, 1) := by decide +kernel
theorem dX0_emptyDoor_30 : decode cX0_emptyDoor 30 = .ok (.idiv, 1) := by decide +kernel
theorem dX0_emptyDoor_31 : decode cX0_emptyDoor 31 = .ok (.iload_n 1, 1) := by decide +kernel
theorem dX0_emptyDoor_32 : decode cX0_emptyDoor 32 = .ok (.if_icmp .ne 11, 3) := by decide +kernel
theorem dX0_emptyDoor_35 : decode cX0_emptyDoor 35 = .ok (.aload_n 0, 1) := by decide +kernel
theorem dX0_emptyDoor_36 : decode cX0_emptyDoor 36 = .ok (.iload_n 3, 1) := by decide +kernel
theorem dX0_emptyDoor_37 : decode cX0_emptyDoor 37 = .ok (.invokevirtual 87, 3) := by decide +kernel
theorem dX0_emptyDoor_40 : decode cX0_emptyDoor 40 = .ok (.iinc 2 1, 3) := by decide +kernel
theorem dX0_emptyDoor_43 : decode cX0_emptyDoor 43 = .ok (.iinc 3 1, 3) := by decide +kernel
theorem dX0_emptyDoor_46 : decode cX0_emptyDoor 46 = .ok (.goto (-42), 3) := by decide +kernel
theorem dX0_emptyDoor_49 : decode cX0_emptyDoor 49 = .ok (.iload_n 2, 1) := by decide +kernel
theorem dX0_emptyDoor_50 : decode cX0_emptyDoor 50 = .ok (.ireturn, 1) := by decide +kernel
theorem dX0_refusal_0 : decode cX0_refusal 0 = .ok (.aload_n 0, 1) := by decide +kernel
theorem dX0_refusal_1 : decode cX0_refusal 1 = .ok (.getfield 18, 3) := by decide +kernel
theorem dX0_refusal_4 : decode cX0_refusal 4 = .ok (.iload_n 2, 1) := by decide +kernel
theorem dX0_refusal_5 : decode cX0_refusal 5 = .ok (.invokestatic 64, 3) := by decide +kernel
theorem dX0_refusal_8 : decode cX0_refusal 8 = .ok (.istore 4, 2) := by decide +kernel
theorem dX0_refusal_10 : decode cX0_refusal 10 = .ok (.iload 4, 2) := by decide +kernel
theorem dX0_refusal_12 : decode cX0_refusal 12 = .ok (.bipush 6, 2) := by decide +kernel
theorem dX0_refusal_14 : decode cX0_refusal 14 = .ok (.if_icmp .lt 5, 3) := by decide +kernel
theorem dX0_refusal_17 : decode cX0_refusal 17 = .ok (.iconst 1, 1) := by decide +kernel
theorem dX0_refusal_18 : decode cX0_refusal 18 = .ok (.ireturn, 1) := by decide +kernel
theorem dX0_refusal_19 : decode cX0_refusal 19 = .ok (.aload_n 0, 1) := by decide +kernel
theorem dX0_refusal_20 : decode cX0_refusal 20 = .ok (.iload_n 2, 1) := by decide +kernel
theorem dX0_refusal_21 : decode cX0_refusal 21 = .ok (.invokevirtual 91, 3) := by decide +kernel
theorem dX0_refusal_24 : decode cX0_refusal 24 = .ok (.iload_n 1, 1) := by decide +kernel
theorem dX0_refusal_25 : decode cX0_refusal 25 = .ok (.invokestatic 94, 3) := by decide +kernel
theorem dX0_refusal_28 : decode cX0_refusal 28 = .ok (.iadd, 1) := by decide +kernel
theorem dX0_refusal_29 : decode cX0_refusal 29 = .ok (.bipush 12, 2) := by decide +kernel
theorem dX0_refusal_31 : decode cX0_refusal 31 = .ok (.if_icmp .le 5, 3) := by decide +kernel
theorem dX0_refusal_34 : decode cX0_refusal 34 = .ok (.iconst 2, 1) := by decide +kernel
theorem dX0_refusal_35 : decode cX0_refusal 35 = .ok (.ireturn, 1) := by decide +kernel
theorem dX0_refusal_36 : decode cX0_refusal 36 = .ok (.aload_n 0, 1) := by decide +kernel
theorem dX0_refusal_37 : decode cX0_refusal 37 = .ok (.iload_n 1, 1) := by decide +kernel
theorem dX0_refusal_38 : decode cX0_refusal 38 = .ok (.iload_n 2, 1) := by decide +kernel
theorem dX0_refusal_39 : decode cX0_refusal 39 = .ok (.iload_n 3, 1) := by decide +kernel
theorem dX0_refusal_40 : decode cX0_refusal 40 = .ok (.invokevirtual 97, 3) := by decide +kernel
theorem dX0_refusal_43 : decode cX0_refusal 43 = .ok (.ifCond .eq 5, 3) := by decide +kernel
theorem dX0_refusal_46 : decode cX0_refusal 46 = .ok (.iconst 3, 1) := by decide +kernel
theorem dX0_refusal_47 : decode cX0_refusal 47 = .ok (.ireturn, 1) := by decide +kernel
theorem dX0_refusal_48 : decode cX0_refusal 48 = .ok (.iload_n 3, 1) := by decide +kernel
theorem dX0_refusal_49 : decode cX0_refusal 49 = .ok (.ifCond .eq 9, 3) := by decide +kernel
theorem dX0_refusal_52 : decode cX0_refusal 52 = .ok (.iload_n 3, 1) := by decide +kernel
theorem dX0_refusal_53 : decode cX0_refusal 53 = .ok (.iload 4, 2) := by decide +kernel
theorem dX0_refusal_55 : decode cX0_refusal 55 = .ok (.if_icmp .ne 7, 3) := by decide +kernel
theorem dX0_refusal_58 : decode cX0_refusal 58 = .ok (.iconst 1, 1) := by decide +kernel
theorem dX0_refusal_59 : decode cX0_refusal 59 = .ok (.goto 4, 3) := by decide +kernel
theorem dX0_refusal_62 : decode cX0_refusal 62 = .ok (.iconst 0, 1) := by decide +kernel
theorem dX0_refusal_63 : decode cX0_refusal 63 = .ok (.istore 5, 2) := by decide +kernel
theorem dX0_refusal_65 : decode cX0_refusal 65 = .ok (.iload_n 1, 1) := by decide +kernel
theorem dX0_refusal_66 : decode cX0_refusal 66 = .ok (.invokestatic 101, 3) := by decide +kernel
theorem dX0_refusal_69 : decode cX0_refusal 69 = .ok (.iconst 3, 1) := by decide +kernel
theorem dX0_refusal_70 : decode cX0_refusal 70 = .ok (.if_icmp .ne 22, 3) := by decide +kernel
theorem dX0_refusal_73 : decode cX0_refusal 73 = .ok (.iload 5, 2) := by decide +kernel
theorem dX0_refusal_75 : decode cX0_refusal 75 = .ok (.ifCond .eq 17, 3) := by decide +kernel
theorem dX0_refusal_78 : decode cX0_refusal 78 = .ok (.aload_n 0, 1) := by decide +kernel
theorem dX0_refusal_79 : decode cX0_refusal 79 = .ok (.getfield 36, 3) := by decide +kernel
theorem dX0_refusal_82 : decode cX0_refusal 82 = .ok (.iconst 0, 1) := by decide +kernel
theorem dX0_refusal_83 : decode cX0_refusal 83 = .ok (.invokestatic 64, 3) := by decide +kernel
theorem dX0_refusal_86 : decode cX0_refusal 86 = .ok (.iconst 1, 1) := by decide +kernel
theorem dX0_refusal_87 : decode cX0_refusal 87 = .ok (.if_icmp .ne 5, 3) := by decide +kernel
theorem dX0_refusal_90 : decode cX0_refusal 90 = .ok (.iconst 4, 1) := by decide +kernel
theorem dX0_refusal_91 : decode cX0_refusal 91 = .ok (.ireturn, 1) := by decide +kernel
theorem dX0_refusal_92 : decode cX0_refusal 92 = .ok (.iconst 0, 1) := by decide +kernel
theorem dX0_refusal_93 : decode cX0_refusal 93 = .ok (.ireturn, 1) := by decide +kernel
theorem dX0_wouldClash_0 : decode cX0_wouldClash 0 = .ok (.aload_n 0, 1) := by decide +kernel
theorem dX0_wouldClash_1 : decode cX0_wouldClash 1 = .ok (.getfield 18, 3) := by decide +kernel
theorem dX0_wouldClash_4 : decode cX0_wouldClash 4 = .ok (.iload_n 2, 1) := by decide +kernel
theorem dX0_wouldClash_5 : decode cX0_wouldClash 5 = .ok (.invokestatic 64, 3) := by decide +kernel
theorem dX0_wouldClash_8 : decode cX0_wouldClash 8 = .ok (.istore 4, 2) := by decide +kernel
theorem dX0_wouldClash_10 : decode cX0_wouldClash 10 = .ok (.iconst (-1), 1) := by decide +kernel
theorem dX0_wouldClash_11 : decode cX0_wouldClash 11 = .ok (.istore 5, 2) := by decide +kernel
theorem dX0_wouldClash_13 : decode cX0_wouldClash 13 = .ok (.iconst 0, 1) := by decide +kernel
theorem dX0_wouldClash_14 : decode cX0_wouldClash 14 = .ok (.istore 6, 2) := by decide +kernel
theorem dX0_wouldClash_16 : decode cX0_wouldClash 16 = .ok (.iload 6, 2) := by decide +kernel
theorem dX0_wouldClash_18 : decode cX0_wouldClash 18 = .ok (.iload 4, 2) := by decide +kernel
theorem dX0_wouldClash_20 : decode cX0_wouldClash 20 = .ok (.if_icmp .gt 62, 3) := by decide +kernel
theorem dX0_wouldClash_23 : decode cX0_wouldClash 23 = .ok (.iload 6, 2) := by decide +kernel
theorem dX0_wouldClash_25 : decode cX0_wouldClash 25 = .ok (.iload_n 3, 1) := by decide +kernel
theorem dX0_wouldClash_26 : decode cX0_wouldClash 26 = .ok (.if_icmp .ne 7, 3) := by decide +kernel
theorem dX0_wouldClash_29 : decode cX0_wouldClash 29 = .ok (.iload_n 1, 1) := by decide +kernel
theorem dX0_wouldClash_30 : decode cX0_wouldClash 30 = .ok (.goto 23, 3) := by decide +kernel
theorem dX0_wouldClash_33 : decode cX0_wouldClash 33 = .ok (.aload_n 0, 1) := by decide +kernel
theorem dX0_wouldClash_34 : decode cX0_wouldClash 34 = .ok (.iload_n 2, 1) := by decide +kernel
theorem dX0_wouldClash_35 : decode cX0_wouldClash 35 = .ok (.iload 6, 2) := by decide +kernel
theorem dX0_wouldClash_37 : decode cX0_wouldClash 37 = .ok (.iload_n 3, 1) := by decide +kernel
theorem dX0_wouldClash_38 : decode cX0_wouldClash 38 = .ok (.if_icmp .ge 8, 3) := by decide +kernel
theorem dX0_wouldClash_41 : decode cX0_wouldClash 41 = .ok (.iload 6, 2) := by decide +kernel
theorem dX0_wouldClash_43 : decode cX0_wouldClash 43 = .ok (.goto 7, 3) := by decide +kernel
theorem dX0_wouldClash_46 : decode cX0_wouldClash 46 = .ok (.iload 6, 2) := by decide +kernel
theorem dX0_wouldClash_48 : decode cX0_wouldClash 48 = .ok (.iconst 1, 1) := by decide +kernel
theorem dX0_wouldClash_49 : decode cX0_wouldClash 49 = .ok (.isub, 1) := by decide +kernel
theorem dX0_wouldClash_50 : decode cX0_wouldClash 50 = .ok (.invokevirtual 68, 3) := by decide +kernel
theorem dX0_wouldClash_53 : decode cX0_wouldClash 53 = .ok (.istore 7, 2) := by decide +kernel
theorem dX0_wouldClash_55 : decode cX0_wouldClash 55 = .ok (.iload 6, 2) := by decide +kernel
theorem dX0_wouldClash_57 : decode cX0_wouldClash 57 = .ok (.ifCond .le 15, 3) := by decide +kernel
theorem dX0_wouldClash_60 : decode cX0_wouldClash 60 = .ok (.iload 5, 2) := by decide +kernel
theorem dX0_wouldClash_62 : decode cX0_wouldClash 62 = .ok (.iload 7, 2) := by decide +kernel
theorem dX0_wouldClash_64 : decode cX0_wouldClash 64 = .ok (.invokestatic 104, 3) := by decide +kernel
theorem dX0_wouldClash_67 : decode cX0_wouldClash 67 = .ok (.ifCond .eq 5, 3) := by decide +kernel
theorem dX0_wouldClash_70 : decode cX0_wouldClash 70 = .ok (.iconst 1, 1) := by decide +kernel
theorem dX0_wouldClash_71 : decode cX0_wouldClash 71 = .ok (.ireturn, 1) := by decide +kernel
theorem dX0_wouldClash_72 : decode cX0_wouldClash 72 = .ok (.iload 7, 2) := by decide +kernel
theorem dX0_wouldClash_74 : decode cX0_wouldClash 74 = .ok (.istore 5, 2) := by decide +kernel
theorem dX0_wouldClash_76 : decode cX0_wouldClash 76 = .ok (.iinc 6 1, 3) := by decide +kernel
theorem dX0_wouldClash_79 : decode cX0_wouldClash 79 = .ok (.goto (-63), 3) := by decide +kernel
theorem dX0_wouldClash_82 : decode cX0_wouldClash 82 = .ok (.iconst 0, 1) := by decide +kernel
theorem dX0_wouldClash_83 : decode cX0_wouldClash 83 = .ok (.ireturn, 1) := by decide +kernel
theorem dX0_clashes_0 : decode cX0_clashes 0 = .ok (.iconst 1, 1) := by decide +kernel
theorem dX0_clashes_1 : decode cX0_clashes 1 = .ok (.istore_n 2, 1) := by decide +kernel
theorem dX0_clashes_2 : decode cX0_clashes 2 = .ok (.iload_n 2, 1) := by decide +kernel
theorem dX0_clashes_3 : decode cX0_clashes 3 = .ok (.aload_n 0, 1) := by decide +kernel
theorem dX0_clashes_4 : decode cX0_clashes 4 = .ok (.getfield 18, 3) := by decide +kernel
theorem dX0_clashes_7 : decode cX0_clashes 7 = .ok (.iload_n 1, 1) := by decide +kernel
theorem dX0_clashes_8 : decode cX0_clashes 8 = .ok (.invokestatic 64, 3) := by decide +kernel
theorem dX0_clashes_11 : decode cX0_clashes 11 = .ok (.if_icmp .ge 31, 3) := by decide +kernel
theorem dX0_clashes_14 : decode cX0_clashes 14 = .ok (.aload_n 0, 1) := by decide +kernel
theorem dX0_clashes_15 : decode cX0_clashes 15 = .ok (.iload_n 1, 1) := by decide +kernel
theorem dX0_clashes_16 : decode cX0_clashes 16 = .ok (.iload_n 2, 1) := by decide +kernel
theorem dX0_clashes_17 : decode cX0_clashes 17 = .ok (.iconst 1, 1) := by decide +kernel
theorem dX0_clashes_18 : decode cX0_clashes 18 = .ok (.isub, 1) := by decide +kernel
theorem dX0_clashes_19 : decode cX0_clashes 19 = .ok (.invokevirtual 68, 3) := by decide +kernel
theorem dX0_clashes_22 : decode cX0_clashes 22 = .ok (.aload_n 0, 1) := by decide +kernel
theorem dX0_clashes_23 : decode cX0_clashes 23 = .ok (.iload_n 1, 1) := by decide +kernel
theorem dX0_clashes_24 : decode cX0_clashes 24 = .ok (.iload_n 2, 1) := by decide +kernel
theorem dX0_clashes_25 : decode cX0_clashes 25 = .ok (.invokevirtual 68, 3) := by decide +kernel
theorem dX0_clashes_28 : decode cX0_clashes 28 = .ok (.invokestatic 104, 3) := by decide +kernel
theorem dX0_clashes_31 : decode cX0_clashes 31 = .ok (.ifCond .eq 5, 3) := by decide +kernel
theorem dX0_clashes_34 : decode cX0_clashes 34 = .ok (.iconst 1, 1) := by decide +kernel
theorem dX0_clashes_35 : decode cX0_clashes 35 = .ok (.ireturn, 1) := by decide +kernel
theorem dX0_clashes_36 : decode cX0_clashes 36 = .ok (.iinc 2 1, 3) := by decide +kernel
theorem dX0_clashes_39 : decode cX0_clashes 39 = .ok (.goto (-37), 3) := by decide +kernel
theorem dX0_clashes_42 : decode cX0_clashes 42 = .ok (.iconst 0, 1) := by decide +kernel
theorem dX0_clashes_43 : decode cX0_clashes 43 = .ok (.ireturn, 1) := by decide +kernel
theorem dX0_beatsOn_0 : decode cX0_beatsOn 0 = .ok (.iconst 0, 1) := by decide +kernel
theorem dX0_beatsOn_1 : decode cX0_beatsOn 1 = .ok (.istore_n 2, 1) := by decide +kernel
theorem dX0_beatsOn_2 : decode cX0_beatsOn 2 = .ok (.iconst 0, 1) := by decide +kernel
theorem dX0_beatsOn_3 : decode cX0_beatsOn 3 = .ok (.istore_n 3, 1) := by decide +kernel
theorem dX0_beatsOn_4 : decode cX0_beatsOn 4 = .ok (.iload_n 3, 1) := by decide +kernel
theorem dX0_beatsOn_5 : decode cX0_beatsOn 5 = .ok (.aload_n 0, 1) := by decide +kernel
theorem dX0_beatsOn_6 : decode cX0_beatsOn 6 = .ok (.getfield 18, 3) := by decide +kernel
theorem dX0_beatsOn_9 : decode cX0_beatsOn 9 = .ok (.iload_n 1, 1) := by decide +kernel
theorem dX0_beatsOn_10 : decode cX0_beatsOn 10 = .ok (.invokestatic 64, 3) := by decide +kernel
theorem dX0_beatsOn_13 : decode cX0_beatsOn 13 = .ok (.if_icmp .ge 21, 3) := by decide +kernel
theorem dX0_beatsOn_16 : decode cX0_beatsOn 16 = .ok (.iload_n 2, 1) := by decide +kernel
theorem dX0_beatsOn_17 : decode cX0_beatsOn 17 = .ok (.aload_n 0, 1) := by decide +kernel
theorem dX0_beatsOn_18 : decode cX0_beatsOn 18 = .ok (.iload_n 1, 1) := by decide +kernel
theorem dX0_beatsOn_19 : decode cX0_beatsOn 19 = .ok (.iload_n 3, 1) := by decide +kernel
theorem dX0_beatsOn_20 : decode cX0_beatsOn 20 = .ok (.invokevirtual 68, 3) := by decide +kernel
theorem dX0_beatsOn_23 : decode cX0_beatsOn 23 = .ok (.invokestatic 94, 3) := by decide +kernel
theorem dX0_beatsOn_26 : decode cX0_beatsOn 26 = .ok (.iadd, 1) := by decide +kernel
theorem dX0_beatsOn_27 : decode cX0_beatsOn 27 = .ok (.istore_n 2, 1) := by decide +kernel
theorem dX0_beatsOn_28 : decode cX0_beatsOn 28 = .ok (.iinc 3 1, 3) := by decide +kernel
theorem dX0_beatsOn_31 : decode cX0_beatsOn 31 = .ok (.goto (-27), 3) := by decide +kernel
theorem dX0_beatsOn_34 : decode cX0_beatsOn 34 = .ok (.iload_n 2, 1) := by decide +kernel
theorem dX0_beatsOn_35 : decode cX0_beatsOn 35 = .ok (.ireturn, 1) := by decide +kernel
theorem dX0_worthOfLine_0 : decode cX0_worthOfLine 0 = .ok (.aload_n 0, 1) := by decide +kernel
theorem dX0_worthOfLine_1 : decode cX0_worthOfLine 1 = .ok (.getfield 18, 3) := by decide +kernel
theorem dX0_worthOfLine_4 : decode cX0_worthOfLine 4 = .ok (.iload_n 1, 1) := by decide +kernel
theorem dX0_worthOfLine_5 : decode cX0_worthOfLine 5 = .ok (.invokestatic 64, 3) := by decide +kernel
theorem dX0_worthOfLine_8 : decode cX0_worthOfLine 8 = .ok (.istore_n 3, 1) := by decide +kernel
theorem dX0_worthOfLine_9 : decode cX0_worthOfLine 9 = .ok (.iconst 0, 1) := by decide +kernel
theorem dX0_worthOfLine_10 : decode cX0_worthOfLine 10 = .ok (.istore 4, 2) := by decide +kernel
theorem dX0_worthOfLine_12 : decode cX0_worthOfLine 12 = .ok (.iconst 0, 1) := by decide +kernel
theorem dX0_worthOfLine_13 : decode cX0_worthOfLine 13 = .ok (.istore 5, 2) := by decide +kernel
theorem dX0_worthOfLine_15 : decode cX0_worthOfLine 15 = .ok (.iconst 0, 1) := by decide +kernel
theorem dX0_worthOfLine_16 : decode cX0_worthOfLine 16 = .ok (.istore 6, 2) := by decide +kernel
theorem dX0_worthOfLine_18 : decode cX0_worthOfLine 18 = .ok (.iconst 0, 1) := by decide +kernel
theorem dX0_worthOfLine_19 : decode cX0_worthOfLine 19 = .ok (.istore 7, 2) := by decide +kernel
theorem dX0_worthOfLine_21 : decode cX0_worthOfLine 21 = .ok (.iload 7, 2) := by decide +kernel
theorem dX0_worthOfLine_23 : decode cX0_worthOfLine 23 = .ok (.iload_n 3, 1) := by decide +kernel
theorem dX0_worthOfLine_24 : decode cX0_worthOfLine 24 = .ok (.if_icmp .gt 85, 3) := by decide +kernel
theorem dX0_worthOfLine_27 : decode cX0_worthOfLine 27 = .ok (.iload 7, 2) := by decide +kernel
theorem dX0_worthOfLine_29 : decode cX0_worthOfLine 29 = .ok (.iload_n 3, 1) := by decide +kernel
theorem dX0_worthOfLine_30 : decode cX0_worthOfLine 30 = .ok (.if_icmp .ge 13, 3) := by decide +kernel
theorem dX0_worthOfLine_33 : decode cX0_worthOfLine 33 = .ok (.aload_n 0, 1) := by decide +kernel
theorem dX0_worthOfLine_34 : decode cX0_worthOfLine 34 = .ok (.iload_n 1, 1) := by decide +kernel
theorem dX0_worthOfLine_35 : decode cX0_worthOfLine 35 = .ok (.iload 7, 2) := by decide +kernel
theorem dX0_worthOfLine_37 : decode cX0_worthOfLine 37 = .ok (.invokevirtual 68, 3) := by decide +kernel
theorem dX0_worthOfLine_40 : decode cX0_worthOfLine 40 = .ok (.goto 4, 3) := by decide +kernel
theorem dX0_worthOfLine_43 : decode cX0_worthOfLine 43 = .ok (.iload_n 2, 1) := by decide +kernel
theorem dX0_worthOfLine_44 : decode cX0_worthOfLine 44 = .ok (.istore 8, 2) := by decide +kernel
theorem dX0_worthOfLine_46 : decode cX0_worthOfLine 46 = .ok (.iload 8, 2) := by decide +kernel
theorem dX0_worthOfLine_48 : decode cX0_worthOfLine 48 = .ok (.iconst (-1), 1) := by decide +kernel
theorem dX0_worthOfLine_49 : decode cX0_worthOfLine 49 = .ok (.if_icmp .eq 54, 3) := by decide +kernel
theorem dX0_worthOfLine_52 : decode cX0_worthOfLine 52 = .ok (.iload 4, 2) := by decide +kernel
theorem dX0_worthOfLine_54 : decode cX0_worthOfLine 54 = .ok (.iload 8, 2) := by decide +kernel
theorem dX0_worthOfLine_56 : decode cX0_worthOfLine 56 = .ok (.invokestatic 94, 3) := by decide +kernel
theorem dX0_worthOfLine_59 : decode cX0_worthOfLine 59 = .ok (.iadd, 1) := by decide +kernel
theorem dX0_worthOfLine_60 : decode cX0_worthOfLine 60 = .ok (.istore 4, 2) := by decide +kernel
theorem dX0_worthOfLine_62 : decode cX0_worthOfLine 62 = .ok (.iload 5, 2) := by decide +kernel
theorem dX0_worthOfLine_64 : decode cX0_worthOfLine 64 = .ok (.ifCond .ne 11, 3) := by decide +kernel
theorem dX0_worthOfLine_67 : decode cX0_worthOfLine 67 = .ok (.iload 8, 2) := by decide +kernel
theorem dX0_worthOfLine_69 : decode cX0_worthOfLine 69 = .ok (.invokestatic 101, 3) := by decide +kernel
theorem dX0_worthOfLine_72 : decode cX0_worthOfLine 72 = .ok (.ifCond .ne 7, 3) := by decide +kernel
theorem dX0_worthOfLine_75 : decode cX0_worthOfLine 75 = .ok (.iconst 1, 1) := by decide +kernel
theorem dX0_worthOfLine_76 : decode cX0_worthOfLine 76 = .ok (.goto 4, 3) := by decide +kernel
theorem dX0_worthOfLine_79 : decode cX0_worthOfLine 79 = .ok (.iconst 0, 1) := by decide +kernel
theorem dX0_worthOfLine_80 : decode cX0_worthOfLine 80 = .ok (.istore 5, 2) := by decide +kernel
theorem dX0_worthOfLine_82 : decode cX0_worthOfLine 82 = .ok (.iload 6, 2) := by decide +kernel
theorem dX0_worthOfLine_84 : decode cX0_worthOfLine 84 = .ok (.ifCond .ne 12, 3) := by decide +kernel
theorem dX0_worthOfLine_87 : decode cX0_worthOfLine 87 = .ok (.iload 8, 2) := by decide +kernel
theorem dX0_worthOfLine_89 : decode cX0_worthOfLine 89 = .ok (.invokestatic 101, 3) := by decide +kernel
theorem dX0_worthOfLine_92 : decode cX0_worthOfLine 92 = .ok (.iconst 1, 1) := by decide +kernel
theorem dX0_worthOfLine_93 : decode cX0_worthOfLine 93 = .ok (.if_icmp .ne 7, 3) := by decide +kernel
theorem dX0_worthOfLine_96 : decode cX0_worthOfLine 96 = .ok (.iconst 1, 1) := by decide +kernel
theorem dX0_worthOfLine_97 : decode cX0_worthOfLine 97 = .ok (.goto 4, 3) := by decide +kernel
theorem dX0_worthOfLine_100 : decode cX0_worthOfLine 100 = .ok (.iconst 0, 1) := by decide +kernel
theorem dX0_worthOfLine_101 : decode cX0_worthOfLine 101 = .ok (.istore 6, 2) := by decide +kernel
theorem dX0_worthOfLine_103 : decode cX0_worthOfLine 103 = .ok (.iinc 7 1, 3) := by decide +kernel
theorem dX0_worthOfLine_106 : decode cX0_worthOfLine 106 = .ok (.goto (-85), 3) := by decide +kernel
theorem dX0_worthOfLine_109 : decode cX0_worthOfLine 109 = .ok (.iload 4, 2) := by decide +kernel
theorem dX0_worthOfLine_111 : decode cX0_worthOfLine 111 = .ok (.iload 5, 2) := by decide +kernel
theorem dX0_worthOfLine_113 : decode cX0_worthOfLine 113 = .ok (.ifCond .eq 12, 3) := by decide +kernel
theorem dX0_worthOfLine_116 : decode cX0_worthOfLine 116 = .ok (.iload 6, 2) := by decide +kernel
theorem dX0_worthOfLine_118 : decode cX0_worthOfLine 118 = .ok (.ifCond .eq 7, 3) := by decide +kernel
theorem dX0_worthOfLine_121 : decode cX0_worthOfLine 121 = .ok (.iconst 5, 1) := by decide +kernel
theorem dX0_worthOfLine_122 : decode cX0_worthOfLine 122 = .ok (.goto 4, 3) := by decide +kernel
theorem dX0_worthOfLine_125 : decode cX0_worthOfLine 125 = .ok (.iconst 0, 1) := by decide +kernel
theorem dX0_worthOfLine_126 : decode cX0_worthOfLine 126 = .ok (.iadd, 1) := by decide +kernel
theorem dX0_worthOfLine_127 : decode cX0_worthOfLine 127 = .ok (.iload 4, 2) := by decide +kernel
theorem dX0_worthOfLine_129 : decode cX0_worthOfLine 129 = .ok (.bipush 8, 2) := by decide +kernel
theorem dX0_worthOfLine_131 : decode cX0_worthOfLine 131 = .ok (.if_icmp .ne 7, 3) := by decide +kernel
theorem dX0_worthOfLine_134 : decode cX0_worthOfLine 134 = .ok (.iconst 3, 1) := by decide +kernel
theorem dX0_worthOfLine_135 : decode cX0_worthOfLine 135 = .ok (.goto 4, 3) := by decide +kernel
theorem dX0_worthOfLine_138 : decode cX0_worthOfLine 138 = .ok (.iconst 0, 1) := by decide +kernel
theorem dX0_worthOfLine_139 : decode cX0_worthOfLine 139 = .ok (.iadd, 1) := by decide +kernel
theorem dX0_worthOfLine_140 : decode cX0_worthOfLine 140 = .ok (.ireturn, 1) := by decide +kernel
theorem dX0_endingOn_0 : decode cX0_endingOn 0 = .ok (.aload_n 0, 1) := by decide +kernel
theorem dX0_endingOn_1 : decode cX0_endingOn 1 = .ok (.getfield 21, 3) := by decide +kernel
theorem dX0_endingOn_4 : decode cX0_endingOn 4 = .ok (.iload_n 1, 1) := by decide +kernel
theorem dX0_endingOn_5 : decode cX0_endingOn 5 = .ok (.invokestatic 64, 3) := by decide +kernel
theorem dX0_endingOn_8 : decode cX0_endingOn 8 = .ok (.istore_n 2, 1) := by decide +kernel
theorem dX0_endingOn_9 : decode cX0_endingOn 9 = .ok (.iload_n 2, 1) := by decide +kernel
theorem dX0_endingOn_10 : decode cX0_endingOn 10 = .ok (.iconst (-1), 1) := by decide +kernel
theorem dX0_endingOn_11 : decode cX0_endingOn 11 = .ok (.if_icmp .ne 7, 3) := by decide +kernel
theorem dX0_endingOn_14 : decode cX0_endingOn 14 = .ok (.iload_n 1, 1) := by decide +kernel
theorem dX0_endingOn_15 : decode cX0_endingOn 15 = .ok (.goto 4, 3) := by decide +kernel
theorem dX0_endingOn_18 : decode cX0_endingOn 18 = .ok (.iload_n 2, 1) := by decide +kernel
theorem dX0_endingOn_19 : decode cX0_endingOn 19 = .ok (.istore_n 3, 1) := by decide +kernel
theorem dX0_endingOn_20 : decode cX0_endingOn 20 = .ok (.aload_n 0, 1) := by decide +kernel
theorem dX0_endingOn_21 : decode cX0_endingOn 21 = .ok (.iload_n 3, 1) := by decide +kernel
theorem dX0_endingOn_22 : decode cX0_endingOn 22 = .ok (.aload_n 0, 1) := by decide +kernel
theorem dX0_endingOn_23 : decode cX0_endingOn 23 = .ok (.getfield 18, 3) := by decide +kernel
theorem dX0_endingOn_26 : decode cX0_endingOn 26 = .ok (.iload_n 3, 1) := by decide +kernel
theorem dX0_endingOn_27 : decode cX0_endingOn 27 = .ok (.invokestatic 64, 3) := by decide +kernel
theorem dX0_endingOn_30 : decode cX0_endingOn 30 = .ok (.iconst 1, 1) := by decide +kernel
theorem dX0_endingOn_31 : decode cX0_endingOn 31 = .ok (.isub, 1) := by decide +kernel
theorem dX0_endingOn_32 : decode cX0_endingOn 32 = .ok (.invokevirtual 68, 3) := by decide +kernel
theorem dX0_endingOn_35 : decode cX0_endingOn 35 = .ok (.istore 4, 2) := by decide +kernel
theorem dX0_endingOn_37 : decode cX0_endingOn 37 = .ok (.iload 4, 2) := by decide +kernel
theorem dX0_endingOn_39 : decode cX0_endingOn 39 = .ok (.iconst (-1), 1) := by decide +kernel
theorem dX0_endingOn_40 : decode cX0_endingOn 40 = .ok (.if_icmp .ne 7, 3) := by decide +kernel
theorem dX0_endingOn_43 : decode cX0_endingOn 43 = .ok (.iconst (-1), 1) := by decide +kernel
theorem dX0_endingOn_44 : decode cX0_endingOn 44 = .ok (.goto 8, 3) := by decide +kernel
theorem dX0_endingOn_47 : decode cX0_endingOn 47 = .ok (.iload 4, 2) := by decide +kernel
theorem dX0_endingOn_49 : decode cX0_endingOn 49 = .ok (.invokestatic 108, 3) := by decide +kernel
theorem dX0_endingOn_52 : decode cX0_endingOn 52 = .ok (.ireturn, 1) := by decide +kernel
theorem dX0_rhymesOf_0 : decode cX0_rhymesOf 0 = .ok (.iload_n 2, 1) := by decide +kernel
theorem dX0_rhymesOf_1 : decode cX0_rhymesOf 1 = .ok (.iconst (-1), 1) := by decide +kernel
theorem dX0_rhymesOf_2 : decode cX0_rhymesOf 2 = .ok (.if_icmp .ne 5, 3) := by decide +kernel
theorem dX0_rhymesOf_5 : decode cX0_rhymesOf 5 = .ok (.iconst 0, 1) := by decide +kernel
theorem dX0_rhymesOf_6 : decode cX0_rhymesOf 6 = .ok (.ireturn, 1) := by decide +kernel
theorem dX0_rhymesOf_7 : decode cX0_rhymesOf 7 = .ok (.iload_n 1, 1) := by decide +kernel
theorem dX0_rhymesOf_8 : decode cX0_rhymesOf 8 = .ok (.iconst 4, 1) := by decide +kernel
theorem dX0_rhymesOf_9 : decode cX0_rhymesOf 9 = .ok (.idiv, 1) := by decide +kernel
theorem dX0_rhymesOf_10 : decode cX0_rhymesOf 10 = .ok (.istore_n 3, 1) := by decide +kernel
theorem dX0_rhymesOf_11 : decode cX0_rhymesOf 11 = .ok (.iconst 0, 1) := by decide +kernel
theorem dX0_rhymesOf_12 : decode cX0_rhymesOf 12 = .ok (.istore 4, 2) := by decide +kernel
theorem dX0_rhymesOf_14 : decode cX0_rhymesOf 14 = .ok (.iconst 0, 1) := by decide +kernel
theorem dX0_rhymesOf_15 : decode cX0_rhymesOf 15 = .ok (.istore 5, 2) := by decide +kernel
theorem dX0_rhymesOf_17 : decode cX0_rhymesOf 17 = .ok (.iload 5, 2) := by decide +kernel
theorem dX0_rhymesOf_19 : decode cX0_rhymesOf 19 = .ok (.iconst 4, 1) := by decide +kernel
theorem dX0_rhymesOf_20 : decode cX0_rhymesOf 20 = .ok (.if_icmp .ge 36, 3) := by decide +kernel
theorem dX0_rhymesOf_23 : decode cX0_rhymesOf 23 = .ok (.iload_n 3, 1) := by decide +kernel
theorem dX0_rhymesOf_24 : decode cX0_rhymesOf 24 = .ok (.iload 5, 2) := by decide +kernel
theorem dX0_rhymesOf_26 : decode cX0_rhymesOf 26 = .ok (.invokestatic 72, 3) := by decide +kernel
theorem dX0_rhymesOf_29 : decode cX0_rhymesOf 29 = .ok (.istore 6, 2) := by decide +kernel
theorem dX0_rhymesOf_31 : decode cX0_rhymesOf 31 = .ok (.iload 6, 2) := by decide +kernel
theorem dX0_rhymesOf_33 : decode cX0_rhymesOf 33 = .ok (.iload_n 1, 1) := by decide +kernel
theorem dX0_rhymesOf_34 : decode cX0_rhymesOf 34 = .ok (.if_icmp .eq 16, 3) := by decide +kernel
theorem dX0_rhymesOf_37 : decode cX0_rhymesOf 37 = .ok (.aload_n 0, 1) := by decide +kernel
theorem dX0_rhymesOf_38 : decode cX0_rhymesOf 38 = .ok (.iload 6, 2) := by decide +kernel
theorem dX0_rhymesOf_40 : decode cX0_rhymesOf 40 = .ok (.invokevirtual 111, 3) := by decide +kernel
theorem dX0_rhymesOf_43 : decode cX0_rhymesOf 43 = .ok (.iload_n 2, 1) := by decide +kernel
theorem dX0_rhymesOf_44 : decode cX0_rhymesOf 44 = .ok (.if_icmp .ne 6, 3) := by decide +kernel
theorem dX0_rhymesOf_47 : decode cX0_rhymesOf 47 = .ok (.iinc 4 1, 3) := by decide +kernel
theorem dX0_rhymesOf_50 : decode cX0_rhymesOf 50 = .ok (.iinc 5 1, 3) := by decide +kernel
theorem dX0_rhymesOf_53 : decode cX0_rhymesOf 53 = .ok (.goto (-36), 3) := by decide +kernel
theorem dX0_rhymesOf_56 : decode cX0_rhymesOf 56 = .ok (.iload 4, 2) := by decide +kernel
theorem dX0_rhymesOf_58 : decode cX0_rhymesOf 58 = .ok (.ireturn, 1) := by decide +kernel
theorem dX0_rhymesOfDoor_0 : decode cX0_rhymesOfDoor 0 = .ok (.iconst 0, 1) := by decide +kernel
theorem dX0_rhymesOfDoor_1 : decode cX0_rhymesOfDoor 1 = .ok (.istore_n 2, 1) := by decide +kernel
theorem dX0_rhymesOfDoor_2 : decode cX0_rhymesOfDoor 2 = .ok (.iconst 1, 1) := by decide +kernel
theorem dX0_rhymesOfDoor_3 : decode cX0_rhymesOfDoor 3 = .ok (.istore_n 3, 1) := by decide +kernel
theorem dX0_rhymesOfDoor_4 : decode cX0_rhymesOfDoor 4 = .ok (.iload_n 3, 1) := by decide +kernel
theorem dX0_rhymesOfDoor_5 : decode cX0_rhymesOfDoor 5 = .ok (.iconst 4, 1) := by decide +kernel
theorem dX0_rhymesOfDoor_6 : decode cX0_rhymesOfDoor 6 = .ok (.if_icmp .ge 59, 3) := by decide +kernel
theorem dX0_rhymesOfDoor_9 : decode cX0_rhymesOfDoor 9 = .ok (.aload_n 0, 1) := by decide +kernel
theorem dX0_rhymesOfDoor_10 : decode cX0_rhymesOfDoor 10 = .ok (.iload_n 1, 1) := by decide +kernel
theorem dX0_rhymesOfDoor_11 : decode cX0_rhymesOfDoor 11 = .ok (.iload_n 3, 1) := by decide +kernel
theorem dX0_rhymesOfDoor_12 : decode cX0_rhymesOfDoor 12 = .ok (.invokestatic 72, 3) := by decide +kernel
theorem dX0_rhymesOfDoor_15 : decode cX0_rhymesOfDoor 15 = .ok (.invokevirtual 111, 3) := by decide +kernel
theorem dX0_rhymesOfDoor_18 : decode cX0_rhymesOfDoor 18 = .ok (.istore 4, 2) := by decide +kernel
theorem dX0_rhymesOfDoor_20 : decode cX0_rhymesOfDoor 20 = .ok (.iconst 0, 1) := by decide +kernel
theorem dX0_rhymesOfDoor_21 : decode cX0_rhymesOfDoor 21 = .ok (.istore 5, 2) := by decide +kernel
theorem dX0_rhymesOfDoor_23 : decode cX0_rhymesOfDoor 23 = .ok (.iload 5, 2) := by decide +kernel
theorem dX0_rhymesOfDoor_25 : decode cX0_rhymesOfDoor 25 = .ok (.iload_n 3, 1) := by decide +kernel
theorem dX0_rhymesOfDoor_26 : decode cX0_rhymesOfDoor 26 = .ok (.if_icmp .ge 33, 3) := by decide +kernel
theorem dX0_rhymesOfDoor_29 : decode cX0_rhymesOfDoor 29 = .ok (.iload 4, 2) := by decide +kernel
theorem dX0_rhymesOfDoor_31 : decode cX0_rhymesOfDoor 31 = .ok (.iconst (-1), 1) := by decide +kernel
theorem dX0_rhymesOfDoor_32 : decode cX0_rhymesOfDoor 32 = .ok (.if_icmp .eq 27, 3) := by decide +kernel
theorem dX0_rhymesOfDoor_35 : decode cX0_rhymesOfDoor 35 = .ok (.aload_n 0, 1) := by decide +kernel
theorem dX0_rhymesOfDoor_36 : decode cX0_rhymesOfDoor 36 = .ok (.iload_n 1, 1) := by decide +kernel
theorem dX0_rhymesOfDoor_37 : decode cX0_rhymesOfDoor 37 = .ok (.iload 5, 2) := by decide +kernel
theorem dX0_rhymesOfDoor_39 : decode cX0_rhymesOfDoor 39 = .ok (.invokestatic 72, 3) := by decide +kernel
theorem dX0_rhymesOfDoor_42 : decode cX0_rhymesOfDoor 42 = .ok (.invokevirtual 111, 3) := by decide +kernel
theorem dX0_rhymesOfDoor_45 : decode cX0_rhymesOfDoor 45 = .ok (.iload 4, 2) := by decide +kernel
theorem dX0_rhymesOfDoor_47 : decode cX0_rhymesOfDoor 47 = .ok (.if_icmp .ne 6, 3) := by decide +kernel
theorem dX0_rhymesOfDoor_50 : decode cX0_rhymesOfDoor 50 = .ok (.iinc 2 1, 3) := by decide +kernel
theorem dX0_rhymesOfDoor_53 : decode cX0_rhymesOfDoor 53 = .ok (.iinc 5 1, 3) := by decide +kernel
theorem dX0_rhymesOfDoor_56 : decode cX0_rhymesOfDoor 56 = .ok (.goto (-33), 3) := by decide +kernel
theorem dX0_rhymesOfDoor_59 : decode cX0_rhymesOfDoor 59 = .ok (.iinc 3 1, 3) := by decide +kernel
theorem dX0_rhymesOfDoor_62 : decode cX0_rhymesOfDoor 62 = .ok (.goto (-58), 3) := by decide +kernel
theorem dX0_rhymesOfDoor_65 : decode cX0_rhymesOfDoor 65 = .ok (.iload_n 2, 1) := by decide +kernel
theorem dX0_rhymesOfDoor_66 : decode cX0_rhymesOfDoor 66 = .ok (.ireturn, 1) := by decide +kernel
theorem dX0_worthOfDoor_0 : decode cX0_worthOfDoor 0 = .ok (.iconst 4, 1) := by decide +kernel
theorem dX0_worthOfDoor_1 : decode cX0_worthOfDoor 1 = .ok (.aload_n 0, 1) := by decide +kernel
theorem dX0_worthOfDoor_2 : decode cX0_worthOfDoor 2 = .ok (.iload_n 1, 1) := by decide +kernel
theorem dX0_worthOfDoor_3 : decode cX0_worthOfDoor 3 = .ok (.invokevirtual 114, 3) := by decide +kernel
theorem dX0_worthOfDoor_6 : decode cX0_worthOfDoor 6 = .ok (.imul, 1) := by decide +kernel
theorem dX0_worthOfDoor_7 : decode cX0_worthOfDoor 7 = .ok (.istore_n 2, 1) := by decide +kernel
theorem dX0_worthOfDoor_8 : decode cX0_worthOfDoor 8 = .ok (.iconst 0, 1) := by decide +kernel
theorem dX0_worthOfDoor_9 : decode cX0_worthOfDoor 9 = .ok (.istore_n 3, 1) := by decide +kernel
theorem dX0_worthOfDoor_10 : decode cX0_worthOfDoor 10 = .ok (.iload_n 3, 1) := by decide +kernel
theorem dX0_worthOfDoor_11 : decode cX0_worthOfDoor 11 = .ok (.iconst 4, 1) := by decide +kernel
theorem dX0_worthOfDoor_12 : decode cX0_worthOfDoor 12 = .ok (.if_icmp .ge 22, 3) := by decide +kernel
theorem dX0_worthOfDoor_15 : decode cX0_worthOfDoor 15 = .ok (.iload_n 2, 1) := by decide +kernel
theorem dX0_worthOfDoor_16 : decode cX0_worthOfDoor 16 = .ok (.aload_n 0, 1) := by decide +kernel
theorem dX0_worthOfDoor_17 : decode cX0_worthOfDoor 17 = .ok (.iload_n 1, 1) := by decide +kernel
theorem dX0_worthOfDoor_18 : decode cX0_worthOfDoor 18 = .ok (.iload_n 3, 1) := by decide +kernel
theorem dX0_worthOfDoor_19 : decode cX0_worthOfDoor 19 = .ok (.invokestatic 72, 3) := by decide +kernel
theorem dX0_worthOfDoor_22 : decode cX0_worthOfDoor 22 = .ok (.iconst (-1), 1) := by decide +kernel
theorem dX0_worthOfDoor_23 : decode cX0_worthOfDoor 23 = .ok (.invokevirtual 117, 3) := by decide +kernel
theorem dX0_worthOfDoor_26 : decode cX0_worthOfDoor 26 = .ok (.iadd, 1) := by decide +kernel
theorem dX0_worthOfDoor_27 : decode cX0_worthOfDoor 27 = .ok (.istore_n 2, 1) := by decide +kernel
theorem dX0_worthOfDoor_28 : decode cX0_worthOfDoor 28 = .ok (.iinc 3 1, 3) := by decide +kernel
theorem dX0_worthOfDoor_31 : decode cX0_worthOfDoor 31 = .ok (.goto (-21), 3) := by decide +kernel
theorem dX0_worthOfDoor_34 : decode cX0_worthOfDoor 34 = .ok (.iload_n 2, 1) := by decide +kernel
theorem dX0_worthOfDoor_35 : decode cX0_worthOfDoor 35 = .ok (.ireturn, 1) := by decide +kernel
theorem dX0_worthOfAll_0 : decode cX0_worthOfAll 0 = .ok (.iconst 0, 1) := by decide +kernel
theorem dX0_worthOfAll_1 : decode cX0_worthOfAll 1 = .ok (.istore_n 1, 1) := by decide +kernel
theorem dX0_worthOfAll_2 : decode cX0_worthOfAll 2 = .ok (.iconst 0, 1) := by decide +kernel
theorem dX0_worthOfAll_3 : decode cX0_worthOfAll 3 = .ok (.istore_n 2, 1) := by decide +kernel
theorem dX0_worthOfAll_4 : decode cX0_worthOfAll 4 = .ok (.iload_n 2, 1) := by decide +kernel
theorem dX0_worthOfAll_5 : decode cX0_worthOfAll 5 = .ok (.iconst 4, 1) := by decide +kernel
theorem dX0_worthOfAll_6 : decode cX0_worthOfAll 6 = .ok (.if_icmp .ge 17, 3) := by decide +kernel
theorem dX0_worthOfAll_9 : decode cX0_worthOfAll 9 = .ok (.iload_n 1, 1) := by decide +kernel
theorem dX0_worthOfAll_10 : decode cX0_worthOfAll 10 = .ok (.aload_n 0, 1) := by decide +kernel
theorem dX0_worthOfAll_11 : decode cX0_worthOfAll 11 = .ok (.iload_n 2, 1) := by decide +kernel
theorem dX0_worthOfAll_12 : decode cX0_worthOfAll 12 = .ok (.invokevirtual 120, 3) := by decide +kernel
theorem dX0_worthOfAll_15 : decode cX0_worthOfAll 15 = .ok (.iadd, 1) := by decide +kernel
theorem dX0_worthOfAll_16 : decode cX0_worthOfAll 16 = .ok (.istore_n 1, 1) := by decide +kernel
theorem dX0_worthOfAll_17 : decode cX0_worthOfAll 17 = .ok (.iinc 2 1, 3) := by decide +kernel
theorem dX0_worthOfAll_20 : decode cX0_worthOfAll 20 = .ok (.goto (-16), 3) := by decide +kernel
theorem dX0_worthOfAll_23 : decode cX0_worthOfAll 23 = .ok (.iload_n 1, 1) := by decide +kernel
theorem dX0_worthOfAll_24 : decode cX0_worthOfAll 24 = .ok (.ireturn, 1) := by decide +kernel
theorem dX0_bestWordFor_0 : decode cX0_bestWordFor 0 = .ok (.iconst (-1), 1) := by decide +kernel
theorem dX0_bestWordFor_1 : decode cX0_bestWordFor 1 = .ok (.istore_n 2, 1) := by decide +kernel
theorem dX0_bestWordFor_2 : decode cX0_bestWordFor 2 = .ok (.iconst (-1), 1) := by decide +kernel
theorem dX0_bestWordFor_3 : decode cX0_bestWordFor 3 = .ok (.istore_n 3, 1) := by decide +kernel
theorem dX0_bestWordFor_4 : decode cX0_bestWordFor 4 = .ok (.aload_n 0, 1) := by decide +kernel
theorem dX0_bestWordFor_5 : decode cX0_bestWordFor 5 = .ok (.getfield 18, 3) := by decide +kernel
theorem dX0_bestWordFor_8 : decode cX0_bestWordFor 8 = .ok (.iload_n 1, 1) := by decide +kernel
theorem dX0_bestWordFor_9 : decode cX0_bestWordFor 9 = .ok (.invokestatic 64, 3) := by decide +kernel
theorem dX0_bestWordFor_12 : decode cX0_bestWordFor 12 = .ok (.istore 4, 2) := by decide +kernel
theorem dX0_bestWordFor_14 : decode cX0_bestWordFor 14 = .ok (.iconst 0, 1) := by decide +kernel
theorem dX0_bestWordFor_15 : decode cX0_bestWordFor 15 = .ok (.istore 5, 2) := by decide +kernel
theorem dX0_bestWordFor_17 : decode cX0_bestWordFor 17 = .ok (.iload 5, 2) := by decide +kernel
theorem dX0_bestWordFor_19 : decode cX0_bestWordFor 19 = .ok (.aload_n 0, 1) := by decide +kernel
theorem dX0_bestWordFor_20 : decode cX0_bestWordFor 20 = .ok (.getfield 9, 3) := by decide +kernel
theorem dX0_bestWordFor_23 : decode cX0_bestWordFor 23 = .ok (.arraylength, 1) := by decide +kernel
theorem dX0_bestWordFor_24 : decode cX0_bestWordFor 24 = .ok (.if_icmp .ge 66, 3) := by decide +kernel
theorem dX0_bestWordFor_27 : decode cX0_bestWordFor 27 = .ok (.aload_n 0, 1) := by decide +kernel
theorem dX0_bestWordFor_28 : decode cX0_bestWordFor 28 = .ok (.getfield 9, 3) := by decide +kernel
theorem dX0_bestWordFor_31 : decode cX0_bestWordFor 31 = .ok (.iload 5, 2) := by decide +kernel
theorem dX0_bestWordFor_33 : decode cX0_bestWordFor 33 = .ok (.iaload, 1) := by decide +kernel
theorem dX0_bestWordFor_34 : decode cX0_bestWordFor 34 = .ok (.iconst (-1), 1) := by decide +kernel
theorem dX0_bestWordFor_35 : decode cX0_bestWordFor 35 = .ok (.if_icmp .ne 49, 3) := by decide +kernel
theorem dX0_bestWordFor_38 : decode cX0_bestWordFor 38 = .ok (.aload_n 0, 1) := by decide +kernel
theorem dX0_bestWordFor_39 : decode cX0_bestWordFor 39 = .ok (.iload 5, 2) := by decide +kernel
theorem dX0_bestWordFor_41 : decode cX0_bestWordFor 41 = .ok (.iload_n 1, 1) := by decide +kernel
theorem dX0_bestWordFor_42 : decode cX0_bestWordFor 42 = .ok (.iload 4, 2) := by decide +kernel
theorem dX0_bestWordFor_44 : decode cX0_bestWordFor 44 = .ok (.invokevirtual 123, 3) := by decide +kernel
theorem dX0_bestWordFor_47 : decode cX0_bestWordFor 47 = .ok (.ifCond .ne 37, 3) := by decide +kernel
theorem dX0_bestWordFor_50 : decode cX0_bestWordFor 50 = .ok (.aload_n 0, 1) := by decide +kernel
theorem dX0_bestWordFor_51 : decode cX0_bestWordFor 51 = .ok (.iload_n 1, 1) := by decide +kernel
theorem dX0_bestWordFor_52 : decode cX0_bestWordFor 52 = .ok (.iload 5, 2) := by decide +kernel
theorem dX0_bestWordFor_54 : decode cX0_bestWordFor 54 = .ok (.invokevirtual 117, 3) := by decide +kernel
theorem dX0_bestWordFor_57 : decode cX0_bestWordFor 57 = .ok (.iconst 4, 1) := by decide +kernel
theorem dX0_bestWordFor_58 : decode cX0_bestWordFor 58 = .ok (.aload_n 0, 1) := by decide +kernel
theorem dX0_bestWordFor_59 : decode cX0_bestWordFor 59 = .ok (.iload_n 1, 1) := by decide +kernel
theorem dX0_bestWordFor_60 : decode cX0_bestWordFor 60 = .ok (.iload 5, 2) := by decide +kernel
theorem dX0_bestWordFor_62 : decode cX0_bestWordFor 62 = .ok (.invokestatic 108, 3) := by decide +kernel
theorem dX0_bestWordFor_65 : decode cX0_bestWordFor 65 = .ok (.invokevirtual 127, 3) := by decide +kernel
theorem dX0_bestWordFor_68 : decode cX0_bestWordFor 68 = .ok (.imul, 1) := by decide +kernel
theorem dX0_bestWordFor_69 : decode cX0_bestWordFor 69 = .ok (.iadd, 1) := by decide +kernel
theorem dX0_bestWordFor_70 : decode cX0_bestWordFor 70 = .ok (.istore 6, 2) := by decide +kernel
theorem dX0_bestWordFor_72 : decode cX0_bestWordFor 72 = .ok (.iload 6, 2) := by decide +kernel
theorem dX0_bestWordFor_74 : decode cX0_bestWordFor 74 = .ok (.iload_n 3, 1) := by decide +kernel
theorem dX0_bestWordFor_75 : decode cX0_bestWordFor 75 = .ok (.if_icmp .le 9, 3) := by decide +kernel
theorem dX0_bestWordFor_78 : decode cX0_bestWordFor 78 = .ok (.iload 5, 2) := by decide +kernel
theorem dX0_bestWordFor_80 : decode cX0_bestWordFor 80 = .ok (.istore_n 2, 1) := by decide +kernel
theorem dX0_bestWordFor_81 : decode cX0_bestWordFor 81 = .ok (.iload 6, 2) := by decide +kernel
theorem dX0_bestWordFor_83 : decode cX0_bestWordFor 83 = .ok (.istore_n 3, 1) := by decide +kernel
theorem dX0_bestWordFor_84 : decode cX0_bestWordFor 84 = .ok (.iinc 5 1, 3) := by decide +kernel
theorem dX0_bestWordFor_87 : decode cX0_bestWordFor 87 = .ok (.goto (-70), 3) := by decide +kernel
theorem dX0_bestWordFor_90 : decode cX0_bestWordFor 90 = .ok (.iload_n 2, 1) := by decide +kernel
theorem dX0_bestWordFor_91 : decode cX0_bestWordFor 91 = .ok (.ireturn, 1) := by decide +kernel
theorem dX0_borrows_0 : decode cX0_borrows 0 = .ok (.aload_n 0, 1) := by decide +kernel
theorem dX0_borrows_1 : decode cX0_borrows 1 = .ok (.getfield 21, 3) := by decide +kernel
theorem dX0_borrows_4 : decode cX0_borrows 4 = .ok (.iload_n 1, 1) := by decide +kernel
theorem dX0_borrows_5 : decode cX0_borrows 5 = .ok (.invokestatic 64, 3) := by decide +kernel
theorem dX0_borrows_8 : decode cX0_borrows 8 = .ok (.iconst (-1), 1) := by decide +kernel
theorem dX0_borrows_9 : decode cX0_borrows 9 = .ok (.if_icmp .eq 7, 3) := by decide +kernel
theorem dX0_borrows_12 : decode cX0_borrows 12 = .ok (.iconst 1, 1) := by decide +kernel
theorem dX0_borrows_13 : decode cX0_borrows 13 = .ok (.goto 4, 3) := by decide +kernel
theorem dX0_borrows_16 : decode cX0_borrows 16 = .ok (.iconst 0, 1) := by decide +kernel
theorem dX0_borrows_17 : decode cX0_borrows 17 = .ok (.ireturn, 1) := by decide +kernel
theorem dX0_isFreeForLoan_0 : decode cX0_isFreeForLoan 0 = .ok (.aload_n 0, 1) := by decide +kernel
theorem dX0_isFreeForLoan_1 : decode cX0_isFreeForLoan 1 = .ok (.getfield 18, 3) := by decide +kernel
theorem dX0_isFreeForLoan_4 : decode cX0_isFreeForLoan 4 = .ok (.iload_n 1, 1) := by decide +kernel
theorem dX0_isFreeForLoan_5 : decode cX0_isFreeForLoan 5 = .ok (.invokestatic 64, 3) := by decide +kernel
theorem dX0_isFreeForLoan_8 : decode cX0_isFreeForLoan 8 = .ok (.ifCond .le 31, 3) := by decide +kernel
theorem dX0_isFreeForLoan_11 : decode cX0_isFreeForLoan 11 = .ok (.aload_n 0, 1) := by decide +kernel
theorem dX0_isFreeForLoan_12 : decode cX0_isFreeForLoan 12 = .ok (.getfield 21, 3) := by decide +kernel
theorem dX0_isFreeForLoan_15 : decode cX0_isFreeForLoan 15 = .ok (.iload_n 1, 1) := by decide +kernel
theorem dX0_isFreeForLoan_16 : decode cX0_isFreeForLoan 16 = .ok (.invokestatic 64, 3) := by decide +kernel
theorem dX0_isFreeForLoan_19 : decode cX0_isFreeForLoan 19 = .ok (.iconst (-1), 1) := by decide +kernel
theorem dX0_isFreeForLoan_20 : decode cX0_isFreeForLoan 20 = .ok (.if_icmp .ne 19, 3) := by decide +kernel
theorem dX0_isFreeForLoan_23 : decode cX0_isFreeForLoan 23 = .ok (.aload_n 0, 1) := by decide +kernel
theorem dX0_isFreeForLoan_24 : decode cX0_isFreeForLoan 24 = .ok (.getfield 24, 3) := by decide +kernel
theorem dX0_isFreeForLoan_27 : decode cX0_isFreeForLoan 27 = .ok (.iload_n 1, 1) := by decide +kernel
theorem dX0_isFreeForLoan_28 : decode cX0_isFreeForLoan 28 = .ok (.invokestatic 64, 3) := by decide +kernel
theorem dX0_isFreeForLoan_31 : decode cX0_isFreeForLoan 31 = .ok (.iconst (-1), 1) := by decide +kernel
theorem dX0_isFreeForLoan_32 : decode cX0_isFreeForLoan 32 = .ok (.if_icmp .ne 7, 3) := by decide +kernel
theorem dX0_isFreeForLoan_35 : decode cX0_isFreeForLoan 35 = .ok (.iconst 1, 1) := by decide +kernel
theorem dX0_isFreeForLoan_36 : decode cX0_isFreeForLoan 36 = .ok (.goto 4, 3) := by decide +kernel
theorem dX0_isFreeForLoan_39 : decode cX0_isFreeForLoan 39 = .ok (.iconst 0, 1) := by decide +kernel
theorem dX0_isFreeForLoan_40 : decode cX0_isFreeForLoan 40 = .ok (.ireturn, 1) := by decide +kernel
theorem dX0_loans_0 : decode cX0_loans 0 = .ok (.iconst 0, 1) := by decide +kernel
theorem dX0_loans_1 : decode cX0_loans 1 = .ok (.istore_n 1, 1) := by decide +kernel
theorem dX0_loans_2 : decode cX0_loans 2 = .ok (.iconst 0, 1) := by decide +kernel
theorem dX0_loans_3 : decode cX0_loans 3 = .ok (.istore_n 2, 1) := by decide +kernel
theorem dX0_loans_4 : decode cX0_loans 4 = .ok (.iload_n 2, 1) := by decide +kernel
theorem dX0_loans_5 : decode cX0_loans 5 = .ok (.aload_n 0, 1) := by decide +kernel
theorem dX0_loans_6 : decode cX0_loans 6 = .ok (.getfield 21, 3) := by decide +kernel
theorem dX0_loans_9 : decode cX0_loans 9 = .ok (.arraylength, 1) := by decide +kernel
theorem dX0_loans_10 : decode cX0_loans 10 = .ok (.if_icmp .ge 22, 3) := by decide +kernel
theorem dX0_loans_13 : decode cX0_loans 13 = .ok (.aload_n 0, 1) := by decide +kernel
theorem dX0_loans_14 : decode cX0_loans 14 = .ok (.getfield 21, 3) := by decide +kernel
theorem dX0_loans_17 : decode cX0_loans 17 = .ok (.iload_n 2, 1) := by decide +kernel
theorem dX0_loans_18 : decode cX0_loans 18 = .ok (.iaload, 1) := by decide +kernel
theorem dX0_loans_19 : decode cX0_loans 19 = .ok (.iconst (-1), 1) := by decide +kernel
theorem dX0_loans_20 : decode cX0_loans 20 = .ok (.if_icmp .eq 6, 3) := by decide +kernel
theorem dX0_loans_23 : decode cX0_loans 23 = .ok (.iinc 1 1, 3) := by decide +kernel
theorem dX0_loans_26 : decode cX0_loans 26 = .ok (.iinc 2 1, 3) := by decide +kernel
theorem dX0_loans_29 : decode cX0_loans 29 = .ok (.goto (-25), 3) := by decide +kernel
theorem dX0_loans_32 : decode cX0_loans 32 = .ok (.iload_n 1, 1) := by decide +kernel
theorem dX0_loans_33 : decode cX0_loans 33 = .ok (.ireturn, 1) := by decide +kernel
theorem dX0_startLoan_0 : decode cX0_startLoan 0 = .ok (.aload_n 0, 1) := by decide +kernel
theorem dX0_startLoan_1 : decode cX0_startLoan 1 = .ok (.getfield 21, 3) := by decide +kernel
theorem dX0_startLoan_4 : decode cX0_startLoan 4 = .ok (.iload_n 1, 1) := by decide +kernel
theorem dX0_startLoan_5 : decode cX0_startLoan 5 = .ok (.iload_n 2, 1) := by decide +kernel
theorem dX0_startLoan_6 : decode cX0_startLoan 6 = .ok (.invokestatic 43, 3) := by decide +kernel
theorem dX0_startLoan_9 : decode cX0_startLoan 9 = .ok (.aload_n 0, 1) := by decide +kernel
theorem dX0_startLoan_10 : decode cX0_startLoan 10 = .ok (.getfield 24, 3) := by decide +kernel
theorem dX0_startLoan_13 : decode cX0_startLoan 13 = .ok (.iload_n 2, 1) := by decide +kernel
theorem dX0_startLoan_14 : decode cX0_startLoan 14 = .ok (.iload_n 1, 1) := by decide +kernel
theorem dX0_startLoan_15 : decode cX0_startLoan 15 = .ok (.invokestatic 43, 3) := by decide +kernel
theorem dX0_startLoan_18 : decode cX0_startLoan 18 = .ok (.return_, 1) := by decide +kernel
theorem dX0_endLoan_0 : decode cX0_endLoan 0 = .ok (.aload_n 0, 1) := by decide +kernel
theorem dX0_endLoan_1 : decode cX0_endLoan 1 = .ok (.getfield 21, 3) := by decide +kernel
theorem dX0_endLoan_4 : decode cX0_endLoan 4 = .ok (.iload_n 1, 1) := by decide +kernel
theorem dX0_endLoan_5 : decode cX0_endLoan 5 = .ok (.invokestatic 64, 3) := by decide +kernel
theorem dX0_endLoan_8 : decode cX0_endLoan 8 = .ok (.istore_n 2, 1) := by decide +kernel
theorem dX0_endLoan_9 : decode cX0_endLoan 9 = .ok (.aload_n 0, 1) := by decide +kernel
theorem dX0_endLoan_10 : decode cX0_endLoan 10 = .ok (.getfield 21, 3) := by decide +kernel
theorem dX0_endLoan_13 : decode cX0_endLoan 13 = .ok (.iload_n 1, 1) := by decide +kernel
theorem dX0_endLoan_14 : decode cX0_endLoan 14 = .ok (.iconst (-1), 1) := by decide +kernel
theorem dX0_endLoan_15 : decode cX0_endLoan 15 = .ok (.invokestatic 43, 3) := by decide +kernel
theorem dX0_endLoan_18 : decode cX0_endLoan 18 = .ok (.aload_n 0, 1) := by decide +kernel
theorem dX0_endLoan_19 : decode cX0_endLoan 19 = .ok (.getfield 24, 3) := by decide +kernel
theorem dX0_endLoan_22 : decode cX0_endLoan 22 = .ok (.iload_n 2, 1) := by decide +kernel
theorem dX0_endLoan_23 : decode cX0_endLoan 23 = .ok (.iconst (-1), 1) := by decide +kernel
theorem dX0_endLoan_24 : decode cX0_endLoan 24 = .ok (.invokestatic 43, 3) := by decide +kernel
theorem dX0_endLoan_27 : decode cX0_endLoan 27 = .ok (.return_, 1) := by decide +kernel
theorem dX0_endLoansOf_0 : decode cX0_endLoansOf 0 = .ok (.aload_n 0, 1) := by decide +kernel
theorem dX0_endLoansOf_1 : decode cX0_endLoansOf 1 = .ok (.iload_n 1, 1) := by decide +kernel
theorem dX0_endLoansOf_2 : decode cX0_endLoansOf 2 = .ok (.invokevirtual 130, 3) := by decide +kernel
theorem dX0_endLoansOf_5 : decode cX0_endLoansOf 5 = .ok (.iload_n 2, 1) := by decide +kernel
theorem dX0_endLoansOf_6 : decode cX0_endLoansOf 6 = .ok (.ifCond .eq 15, 3) := by decide +kernel
theorem dX0_endLoansOf_9 : decode cX0_endLoansOf 9 = .ok (.aload_n 0, 1) := by decide +kernel
theorem dX0_endLoansOf_10 : decode cX0_endLoansOf 10 = .ok (.aload_n 0, 1) := by decide +kernel
theorem dX0_endLoansOf_11 : decode cX0_endLoansOf 11 = .ok (.getfield 24, 3) := by decide +kernel
theorem dX0_endLoansOf_14 : decode cX0_endLoansOf 14 = .ok (.iload_n 1, 1) := by decide +kernel
theorem dX0_endLoansOf_15 : decode cX0_endLoansOf 15 = .ok (.invokestatic 64, 3) := by decide +kernel
theorem dX0_endLoansOf_18 : decode cX0_endLoansOf 18 = .ok (.invokevirtual 130, 3) := by decide +kernel
theorem dX0_endLoansOf_21 : decode cX0_endLoansOf 21 = .ok (.return_, 1) := by decide +kernel
theorem dX0_passNights_0 : decode cX0_passNights 0 = .ok (.aload_n 0, 1) := by decide +kernel
theorem dX0_passNights_1 : decode cX0_passNights 1 = .ok (.getfield 55, 3) := by decide +kernel
theorem dX0_passNights_4 : decode cX0_passNights 4 = .ok (.istore_n 2, 1) := by decide +kernel
theorem dX0_passNights_5 : decode cX0_passNights 5 = .ok (.iconst 0, 1) := by decide +kernel
theorem dX0_passNights_6 : decode cX0_passNights 6 = .ok (.istore_n 3, 1) := by decide +kernel
theorem dX0_passNights_7 : decode cX0_passNights 7 = .ok (.iload_n 3, 1) := by decide +kernel
theorem dX0_passNights_8 : decode cX0_passNights 8 = .ok (.iload_n 1, 1) := by decide +kernel
theorem dX0_passNights_9 : decode cX0_passNights 9 = .ok (.if_icmp .ge 47, 3) := by decide +kernel
theorem dX0_passNights_12 : decode cX0_passNights 12 = .ok (.aload_n 0, 1) := by decide +kernel
theorem dX0_passNights_13 : decode cX0_passNights 13 = .ok (.invokevirtual 133, 3) := by decide +kernel
theorem dX0_passNights_16 : decode cX0_passNights 16 = .ok (.istore 4, 2) := by decide +kernel
theorem dX0_passNights_18 : decode cX0_passNights 18 = .ok (.aload_n 0, 1) := by decide +kernel
theorem dX0_passNights_19 : decode cX0_passNights 19 = .ok (.dup, 1) := by decide +kernel
theorem dX0_passNights_20 : decode cX0_passNights 20 = .ok (.getfield 51, 3) := by decide +kernel
theorem dX0_passNights_23 : decode cX0_passNights 23 = .ok (.iconst 1, 1) := by decide +kernel
theorem dX0_passNights_24 : decode cX0_passNights 24 = .ok (.iadd, 1) := by decide +kernel
theorem dX0_passNights_25 : decode cX0_passNights 25 = .ok (.putfield 51, 3) := by decide +kernel
theorem dX0_passNights_28 : decode cX0_passNights 28 = .ok (.aload_n 0, 1) := by decide +kernel
theorem dX0_passNights_29 : decode cX0_passNights 29 = .ok (.invokevirtual 137, 3) := by decide +kernel
theorem dX0_passNights_32 : decode cX0_passNights 32 = .ok (.iload 4, 2) := by decide +kernel
theorem dX0_passNights_34 : decode cX0_passNights 34 = .ok (.iconst (-1), 1) := by decide +kernel
theorem dX0_passNights_35 : decode cX0_passNights 35 = .ok (.if_icmp .eq 15, 3) := by decide +kernel
theorem dX0_passNights_38 : decode cX0_passNights 38 = .ok (.aload_n 0, 1) := by decide +kernel
theorem dX0_passNights_39 : decode cX0_passNights 39 = .ok (.aload_n 0, 1) := by decide +kernel
theorem dX0_passNights_40 : decode cX0_passNights 40 = .ok (.iload 4, 2) := by decide +kernel
theorem dX0_passNights_42 : decode cX0_passNights 42 = .ok (.invokevirtual 140, 3) := by decide +kernel
theorem dX0_passNights_45 : decode cX0_passNights 45 = .ok (.iload 4, 2) := by decide +kernel
theorem dX0_passNights_47 : decode cX0_passNights 47 = .ok (.invokevirtual 143, 3) := by decide +kernel
theorem dX0_passNights_50 : decode cX0_passNights 50 = .ok (.iinc 3 1, 3) := by decide +kernel
theorem dX0_passNights_53 : decode cX0_passNights 53 = .ok (.goto (-46), 3) := by decide +kernel
theorem dX0_passNights_56 : decode cX0_passNights 56 = .ok (.aload_n 0, 1) := by decide +kernel
theorem dX0_passNights_57 : decode cX0_passNights 57 = .ok (.getfield 55, 3) := by decide +kernel
theorem dX0_passNights_60 : decode cX0_passNights 60 = .ok (.iload_n 2, 1) := by decide +kernel
theorem dX0_passNights_61 : decode cX0_passNights 61 = .ok (.isub, 1) := by decide +kernel
theorem dX0_passNights_62 : decode cX0_passNights 62 = .ok (.ireturn, 1) := by decide +kernel
theorem dX0_nextPrey_0 : decode cX0_nextPrey 0 = .ok (.aload_n 0, 1) := by decide +kernel
theorem dX0_nextPrey_1 : decode cX0_nextPrey 1 = .ok (.invokevirtual 133, 3) := by decide +kernel
theorem dX0_nextPrey_4 : decode cX0_nextPrey 4 = .ok (.istore_n 1, 1) := by decide +kernel
theorem dX0_nextPrey_5 : decode cX0_nextPrey 5 = .ok (.iload_n 1, 1) := by decide +kernel
theorem dX0_nextPrey_6 : decode cX0_nextPrey 6 = .ok (.iconst (-1), 1) := by decide +kernel
theorem dX0_nextPrey_7 : decode cX0_nextPrey 7 = .ok (.if_icmp .ne 7, 3) := by decide +kernel
theorem dX0_nextPrey_10 : decode cX0_nextPrey 10 = .ok (.iconst (-1), 1) := by decide +kernel
theorem dX0_nextPrey_11 : decode cX0_nextPrey 11 = .ok (.goto 8, 3) := by decide +kernel
theorem dX0_nextPrey_14 : decode cX0_nextPrey 14 = .ok (.aload_n 0, 1) := by decide +kernel
theorem dX0_nextPrey_15 : decode cX0_nextPrey 15 = .ok (.iload_n 1, 1) := by decide +kernel
theorem dX0_nextPrey_16 : decode cX0_nextPrey 16 = .ok (.invokevirtual 140, 3) := by decide +kernel
theorem dX0_nextPrey_19 : decode cX0_nextPrey 19 = .ok (.ireturn, 1) := by decide +kernel
theorem dX0_doorOfThief_0 : decode cX0_doorOfThief 0 = .ok (.iconst (-1), 1) := by decide +kernel
theorem dX0_doorOfThief_1 : decode cX0_doorOfThief 1 = .ok (.istore_n 1, 1) := by decide +kernel
theorem dX0_doorOfThief_2 : decode cX0_doorOfThief 2 = .ok (.iconst (-1), 1) := by decide +kernel
theorem dX0_doorOfThief_3 : decode cX0_doorOfThief 3 = .ok (.istore_n 2, 1) := by decide +kernel
theorem dX0_doorOfThief_4 : decode cX0_doorOfThief 4 = .ok (.iconst 0, 1) := by decide +kernel
theorem dX0_doorOfThief_5 : decode cX0_doorOfThief 5 = .ok (.istore_n 3, 1) := by decide +kernel
theorem dX0_doorOfThief_6 : decode cX0_doorOfThief 6 = .ok (.iload_n 3, 1) := by decide +kernel
theorem dX0_doorOfThief_7 : decode cX0_doorOfThief 7 = .ok (.aload_n 0, 1) := by decide +kernel
theorem dX0_doorOfThief_8 : decode cX0_doorOfThief 8 = .ok (.getfield 30, 3) := by decide +kernel
theorem dX0_doorOfThief_11 : decode cX0_doorOfThief 11 = .ok (.arraylength, 1) := by decide +kernel
theorem dX0_doorOfThief_12 : decode cX0_doorOfThief 12 = .ok (.if_icmp .ge 44, 3) := by decide +kernel
theorem dX0_doorOfThief_15 : decode cX0_doorOfThief 15 = .ok (.aload_n 0, 1) := by decide +kernel
theorem dX0_doorOfThief_16 : decode cX0_doorOfThief 16 = .ok (.getfield 30, 3) := by decide +kernel
theorem dX0_doorOfThief_19 : decode cX0_doorOfThief 19 = .ok (.iload_n 3, 1) := by decide +kernel
theorem dX0_doorOfThief_20 : decode cX0_doorOfThief 20 = .ok (.iaload, 1) := by decide +kernel
theorem dX0_doorOfThief_21 : decode cX0_doorOfThief 21 = .ok (.ifCond .ne 29, 3) := by decide +kernel
theorem dX0_doorOfThief_24 : decode cX0_doorOfThief 24 = .ok (.aload_n 0, 1) := by decide +kernel
theorem dX0_doorOfThief_25 : decode cX0_doorOfThief 25 = .ok (.iload_n 3, 1) := by decide +kernel
theorem dX0_doorOfThief_26 : decode cX0_doorOfThief 26 = .ok (.invokevirtual 147, 3) := by decide +kernel
theorem dX0_doorOfThief_29 : decode cX0_doorOfThief 29 = .ok (.ifCond .le 21, 3) := by decide +kernel
theorem dX0_doorOfThief_32 : decode cX0_doorOfThief 32 = .ok (.aload_n 0, 1) := by decide +kernel
theorem dX0_doorOfThief_33 : decode cX0_doorOfThief 33 = .ok (.iload_n 3, 1) := by decide +kernel
theorem dX0_doorOfThief_34 : decode cX0_doorOfThief 34 = .ok (.invokevirtual 120, 3) := by decide +kernel
theorem dX0_doorOfThief_37 : decode cX0_doorOfThief 37 = .ok (.istore 4, 2) := by decide +kernel
theorem dX0_doorOfThief_39 : decode cX0_doorOfThief 39 = .ok (.iload 4, 2) := by decide +kernel
theorem dX0_doorOfThief_41 : decode cX0_doorOfThief 41 = .ok (.iload_n 2, 1) := by decide +kernel
theorem dX0_doorOfThief_42 : decode cX0_doorOfThief 42 = .ok (.if_icmp .le 8, 3) := by decide +kernel
theorem dX0_doorOfThief_45 : decode cX0_doorOfThief 45 = .ok (.iload_n 3, 1) := by decide +kernel
theorem dX0_doorOfThief_46 : decode cX0_doorOfThief 46 = .ok (.istore_n 1, 1) := by decide +kernel
theorem dX0_doorOfThief_47 : decode cX0_doorOfThief 47 = .ok (.iload 4, 2) := by decide +kernel
theorem dX0_doorOfThief_49 : decode cX0_doorOfThief 49 = .ok (.istore_n 2, 1) := by decide +kernel
theorem dX0_doorOfThief_50 : decode cX0_doorOfThief 50 = .ok (.iinc 3 1, 3) := by decide +kernel
theorem dX0_doorOfThief_53 : decode cX0_doorOfThief 53 = .ok (.goto (-47), 3) := by decide +kernel
theorem dX0_doorOfThief_56 : decode cX0_doorOfThief 56 = .ok (.iload_n 2, 1) := by decide +kernel
theorem dX0_doorOfThief_57 : decode cX0_doorOfThief 57 = .ok (.aload_n 0, 1) := by decide +kernel
theorem dX0_doorOfThief_58 : decode cX0_doorOfThief 58 = .ok (.getfield 36, 3) := by decide +kernel
theorem dX0_doorOfThief_61 : decode cX0_doorOfThief 61 = .ok (.iconst 1, 1) := by decide +kernel
theorem dX0_doorOfThief_62 : decode cX0_doorOfThief 62 = .ok (.invokestatic 64, 3) := by decide +kernel
theorem dX0_doorOfThief_65 : decode cX0_doorOfThief 65 = .ok (.if_icmp .lt 7, 3) := by decide +kernel
theorem dX0_doorOfThief_68 : decode cX0_doorOfThief 68 = .ok (.iload_n 1, 1) := by decide +kernel
theorem dX0_doorOfThief_69 : decode cX0_doorOfThief 69 = .ok (.goto 4, 3) := by decide +kernel
theorem dX0_doorOfThief_72 : decode cX0_doorOfThief 72 = .ok (.iconst (-1), 1) := by decide +kernel
theorem dX0_doorOfThief_73 : decode cX0_doorOfThief 73 = .ok (.ireturn, 1) := by decide +kernel
theorem dX0_preyOn_0 : decode cX0_preyOn 0 = .ok (.iconst (-1), 1) := by decide +kernel
theorem dX0_preyOn_1 : decode cX0_preyOn 1 = .ok (.istore_n 2, 1) := by decide +kernel
theorem dX0_preyOn_2 : decode cX0_preyOn 2 = .ok (.iconst 0, 1) := by decide +kernel
theorem dX0_preyOn_3 : decode cX0_preyOn 3 = .ok (.istore_n 3, 1) := by decide +kernel
theorem dX0_preyOn_4 : decode cX0_preyOn 4 = .ok (.iconst 3, 1) := by decide +kernel
theorem dX0_preyOn_5 : decode cX0_preyOn 5 = .ok (.istore 4, 2) := by decide +kernel
theorem dX0_preyOn_7 : decode cX0_preyOn 7 = .ok (.iload 4, 2) := by decide +kernel
theorem dX0_preyOn_9 : decode cX0_preyOn 9 = .ok (.ifCond .lt 68, 3) := by decide +kernel
theorem dX0_preyOn_12 : decode cX0_preyOn 12 = .ok (.iload_n 1, 1) := by decide +kernel
theorem dX0_preyOn_13 : decode cX0_preyOn 13 = .ok (.iload 4, 2) := by decide +kernel
theorem dX0_preyOn_15 : decode cX0_preyOn 15 = .ok (.invokestatic 72, 3) := by decide +kernel
theorem dX0_preyOn_18 : decode cX0_preyOn 18 = .ok (.istore 5, 2) := by decide +kernel
theorem dX0_preyOn_20 : decode cX0_preyOn 20 = .ok (.iconst 0, 1) := by decide +kernel
theorem dX0_preyOn_21 : decode cX0_preyOn 21 = .ok (.istore 6, 2) := by decide +kernel
theorem dX0_preyOn_23 : decode cX0_preyOn 23 = .ok (.iload 6, 2) := by decide +kernel
theorem dX0_preyOn_25 : decode cX0_preyOn 25 = .ok (.aload_n 0, 1) := by decide +kernel
theorem dX0_preyOn_26 : decode cX0_preyOn 26 = .ok (.getfield 18, 3) := by decide +kernel
theorem dX0_preyOn_29 : decode cX0_preyOn 29 = .ok (.iload 5, 2) := by decide +kernel
theorem dX0_preyOn_31 : decode cX0_preyOn 31 = .ok (.invokestatic 64, 3) := by decide +kernel
theorem dX0_preyOn_34 : decode cX0_preyOn 34 = .ok (.if_icmp .ge 37, 3) := by decide +kernel
theorem dX0_preyOn_37 : decode cX0_preyOn 37 = .ok (.aload_n 0, 1) := by decide +kernel
theorem dX0_preyOn_38 : decode cX0_preyOn 38 = .ok (.iload 5, 2) := by decide +kernel
theorem dX0_preyOn_40 : decode cX0_preyOn 40 = .ok (.iload 6, 2) := by decide +kernel
theorem dX0_preyOn_42 : decode cX0_preyOn 42 = .ok (.invokevirtual 68, 3) := by decide +kernel
theorem dX0_preyOn_45 : decode cX0_preyOn 45 = .ok (.istore 7, 2) := by decide +kernel
theorem dX0_preyOn_47 : decode cX0_preyOn 47 = .ok (.iload 7, 2) := by decide +kernel
theorem dX0_preyOn_49 : decode cX0_preyOn 49 = .ok (.invokestatic 94, 3) := by decide +kernel
theorem dX0_preyOn_52 : decode cX0_preyOn 52 = .ok (.iload_n 3, 1) := by decide +kernel
theorem dX0_preyOn_53 : decode cX0_preyOn 53 = .ok (.if_icmp .le 12, 3) := by decide +kernel
theorem dX0_preyOn_56 : decode cX0_preyOn 56 = .ok (.iload 7, 2) := by decide +kernel
theorem dX0_preyOn_58 : decode cX0_preyOn 58 = .ok (.istore_n 2, 1) := by decide +kernel
theorem dX0_preyOn_59 : decode cX0_preyOn 59 = .ok (.iload 7, 2) := by decide +kernel
theorem dX0_preyOn_61 : decode cX0_preyOn 61 = .ok (.invokestatic 94, 3) := by decide +kernel
theorem dX0_preyOn_64 : decode cX0_preyOn 64 = .ok (.istore_n 3, 1) := by decide +kernel
theorem dX0_preyOn_65 : decode cX0_preyOn 65 = .ok (.iinc 6 1, 3) := by decide +kernel
theorem dX0_preyOn_68 : decode cX0_preyOn 68 = .ok (.goto (-45), 3) := by decide +kernel
theorem dX0_preyOn_71 : decode cX0_preyOn 71 = .ok (.iinc 4 (-1), 3) := by decide +kernel
theorem dX0_preyOn_74 : decode cX0_preyOn 74 = .ok (.goto (-67), 3) := by decide +kernel
theorem dX0_preyOn_77 : decode cX0_preyOn 77 = .ok (.iload_n 2, 1) := by decide +kernel
theorem dX0_preyOn_78 : decode cX0_preyOn 78 = .ok (.ireturn, 1) := by decide +kernel
theorem dX0_watchOneNightFewer_0 : decode cX0_watchOneNightFewer 0 = .ok (.iconst 0, 1) := by decide +kernel
theorem dX0_watchOneNightFewer_1 : decode cX0_watchOneNightFewer 1 = .ok (.istore_n 1, 1) := by decide +kernel
theorem dX0_watchOneNightFewer_2 : decode cX0_watchOneNightFewer 2 = .ok (.iload_n 1, 1) := by decide +kernel
theorem dX0_watchOneNightFewer_3 : decode cX0_watchOneNightFewer 3 = .ok (.aload_n 0, 1) := by decide +kernel
theorem dX0_watchOneNightFewer_4 : decode cX0_watchOneNightFewer 4 = .ok (.getfield 30, 3) := by decide +kernel
theorem dX0_watchOneNightFewer_7 : decode cX0_watchOneNightFewer 7 = .ok (.arraylength, 1) := by decide +kernel
theorem dX0_watchOneNightFewer_8 : decode cX0_watchOneNightFewer 8 = .ok (.if_icmp .ge 28, 3) := by decide +kernel
theorem dX0_watchOneNightFewer_11 : decode cX0_watchOneNightFewer 11 = .ok (.aload_n 0, 1) := by decide +kernel
theorem dX0_watchOneNightFewer_12 : decode cX0_watchOneNightFewer 12 = .ok (.getfield 30, 3) := by decide +kernel
theorem dX0_watchOneNightFewer_15 : decode cX0_watchOneNightFewer 15 = .ok (.iload_n 1, 1) := by decide +kernel
theorem dX0_watchOneNightFewer_16 : decode cX0_watchOneNightFewer 16 = .ok (.iaload, 1) := by decide +kernel
theorem dX0_watchOneNightFewer_17 : decode cX0_watchOneNightFewer 17 = .ok (.ifCond .le 13, 3) := by decide +kernel
theorem dX0_watchOneNightFewer_20 : decode cX0_watchOneNightFewer 20 = .ok (.aload_n 0, 1) := by decide +kernel
theorem dX0_watchOneNightFewer_21 : decode cX0_watchOneNightFewer 21 = .ok (.getfield 30, 3) := by decide +kernel
theorem dX0_watchOneNightFewer_24 : decode cX0_watchOneNightFewer 24 = .ok (.iload_n 1, 1) := by decide +kernel
theorem dX0_watchOneNightFewer_25 : decode cX0_watchOneNightFewer 25 = .ok (.dup2, 1) := by decide +kernel
theorem dX0_watchOneNightFewer_26 : decode cX0_watchOneNightFewer 26 = .ok (.iaload, 1) := by decide +kernel
theorem dX0_watchOneNightFewer_27 : decode cX0_watchOneNightFewer 27 = .ok (.iconst 1, 1) := by decide +kernel
theorem dX0_watchOneNightFewer_28 : decode cX0_watchOneNightFewer 28 = .ok (.isub, 1) := by decide +kernel
theorem dX0_watchOneNightFewer_29 : decode cX0_watchOneNightFewer 29 = .ok (.iastore, 1) := by decide +kernel
theorem dX0_watchOneNightFewer_30 : decode cX0_watchOneNightFewer 30 = .ok (.iinc 1 1, 3) := by decide +kernel
theorem dX0_watchOneNightFewer_33 : decode cX0_watchOneNightFewer 33 = .ok (.goto (-31), 3) := by decide +kernel
theorem dX0_watchOneNightFewer_36 : decode cX0_watchOneNightFewer 36 = .ok (.return_, 1) := by decide +kernel
theorem dX0_steal_0 : decode cX0_steal 0 = .ok (.aload_n 0, 1) := by decide +kernel
theorem dX0_steal_1 : decode cX0_steal 1 = .ok (.iload_n 1, 1) := by decide +kernel
theorem dX0_steal_2 : decode cX0_steal 2 = .ok (.invokevirtual 87, 3) := by decide +kernel
theorem dX0_steal_5 : decode cX0_steal 5 = .ok (.aload_n 0, 1) := by decide +kernel
theorem dX0_steal_6 : decode cX0_steal 6 = .ok (.dup, 1) := by decide +kernel
theorem dX0_steal_7 : decode cX0_steal 7 = .ok (.getfield 55, 3) := by decide +kernel
theorem dX0_steal_10 : decode cX0_steal 10 = .ok (.iconst 1, 1) := by decide +kernel
theorem dX0_steal_11 : decode cX0_steal 11 = .ok (.iadd, 1) := by decide +kernel
theorem dX0_steal_12 : decode cX0_steal 12 = .ok (.putfield 55, 3) := by decide +kernel
theorem dX0_steal_15 : decode cX0_steal 15 = .ok (.aload_n 0, 1) := by decide +kernel
theorem dX0_steal_16 : decode cX0_steal 16 = .ok (.getfield 27, 3) := by decide +kernel
theorem dX0_steal_19 : decode cX0_steal 19 = .ok (.iload_n 1, 1) := by decide +kernel
theorem dX0_steal_20 : decode cX0_steal 20 = .ok (.aload_n 0, 1) := by decide +kernel
theorem dX0_steal_21 : decode cX0_steal 21 = .ok (.getfield 27, 3) := by decide +kernel
theorem dX0_steal_24 : decode cX0_steal 24 = .ok (.iload_n 1, 1) := by decide +kernel
theorem dX0_steal_25 : decode cX0_steal 25 = .ok (.invokestatic 64, 3) := by decide +kernel
theorem dX0_steal_28 : decode cX0_steal 28 = .ok (.iconst 1, 1) := by decide +kernel
theorem dX0_steal_29 : decode cX0_steal 29 = .ok (.iadd, 1) := by decide +kernel
theorem dX0_steal_30 : decode cX0_steal 30 = .ok (.invokestatic 43, 3) := by decide +kernel

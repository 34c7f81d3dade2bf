theorem dX0_init_0 : decode cX0_init 0 = .ok (.aload_n 0, 1) := by decide +kernel
theorem dX0_init_1 : decode cX0_init 1 = .ok (.invokespecial 3, 3) := by decide +kernel
theorem dX0_init_4 : decode cX0_init 4 = .ok (.aload_n 0, 1) := by decide +kernel
theorem dX0_init_5 : decode cX0_init 5 = .ok (.bipush 40, 2) := by decide +kernel
theorem dX0_init_7 : decode cX0_init 7 = .ok (.newarray .int, 2) := by decide +kernel
theorem dX0_init_9 : decode cX0_init 9 = .ok (.putfield 9, 3) := by decide +kernel
theorem dX0_init_12 : decode cX0_init 12 = .ok (.aload_n 0, 1) := by decide +kernel
theorem dX0_init_13 : decode cX0_init 13 = .ok (.bipush 96, 2) := by decide +kernel
theorem dX0_init_15 : decode cX0_init 15 = .ok (.newarray .int, 2) := by decide +kernel
theorem dX0_init_17 : decode cX0_init 17 = .ok (.putfield 15, 3) := by decide +kernel
theorem dX0_init_20 : decode cX0_init 20 = .ok (.aload_n 0, 1) := by decide +kernel
theorem dX0_init_21 : decode cX0_init 21 = .ok (.bipush 16, 2) := by decide +kernel
theorem dX0_init_23 : decode cX0_init 23 = .ok (.newarray .int, 2) := by decide +kernel
theorem dX0_init_25 : decode cX0_init 25 = .ok (.putfield 18, 3) := by decide +kernel
theorem dX0_init_28 : decode cX0_init 28 = .ok (.aload_n 0, 1) := by decide +kernel
theorem dX0_init_29 : decode cX0_init 29 = .ok (.bipush 16, 2) := by decide +kernel
theorem dX0_init_31 : decode cX0_init 31 = .ok (.newarray .int, 2) := by decide +kernel
theorem dX0_init_33 : decode cX0_init 33 = .ok (.putfield 21, 3) := by decide +kernel
theorem dX0_init_36 : decode cX0_init 36 = .ok (.aload_n 0, 1) := by decide +kernel
theorem dX0_init_37 : decode cX0_init 37 = .ok (.bipush 16, 2) := by decide +kernel
theorem dX0_init_39 : decode cX0_init 39 = .ok (.newarray .int, 2) := by decide +kernel
theorem dX0_init_41 : decode cX0_init 41 = .ok (.putfield 24, 3) := by decide +kernel
theorem dX0_init_44 : decode cX0_init 44 = .ok (.aload_n 0, 1) := by decide +kernel
theorem dX0_init_45 : decode cX0_init 45 = .ok (.bipush 40, 2) := by decide +kernel
theorem dX0_init_47 : decode cX0_init 47 = .ok (.newarray .int, 2) := by decide +kernel
theorem dX0_init_49 : decode cX0_init 49 = .ok (.putfield 27, 3) := by decide +kernel
theorem dX0_init_52 : decode cX0_init 52 = .ok (.aload_n 0, 1) := by decide +kernel
theorem dX0_init_53 : decode cX0_init 53 = .ok (.iconst 4, 1) := by decide +kernel
theorem dX0_init_54 : decode cX0_init 54 = .ok (.newarray .int, 2) := by decide +kernel
theorem dX0_init_56 : decode cX0_init 56 = .ok (.putfield 30, 3) := by decide +kernel
theorem dX0_init_59 : decode cX0_init 59 = .ok (.aload_n 0, 1) := by decide +kernel
theorem dX0_init_60 : decode cX0_init 60 = .ok (.iconst 4, 1) := by decide +kernel
theorem dX0_init_61 : decode cX0_init 61 = .ok (.newarray .int, 2) := by decide +kernel
theorem dX0_init_63 : decode cX0_init 63 = .ok (.putfield 33, 3) := by decide +kernel
theorem dX0_init_66 : decode cX0_init 66 = .ok (.aload_n 0, 1) := by decide +kernel
theorem dX0_init_67 : decode cX0_init 67 = .ok (.iconst 3, 1) := by decide +kernel
theorem dX0_init_68 : decode cX0_init 68 = .ok (.newarray .int, 2) := by decide +kernel
theorem dX0_init_70 : decode cX0_init 70 = .ok (.putfield 36, 3) := by decide +kernel
theorem dX0_init_73 : decode cX0_init 73 = .ok (.aload_n 0, 1) := by decide +kernel
theorem dX0_init_74 : decode cX0_init 74 = .ok (.getfield 9, 3) := by decide +kernel
theorem dX0_init_77 : decode cX0_init 77 = .ok (.iconst (-1), 1) := by decide +kernel
theorem dX0_init_78 : decode cX0_init 78 = .ok (.invokestatic 39, 3) := by decide +kernel
theorem dX0_init_81 : decode cX0_init 81 = .ok (.aload_n 0, 1) := by decide +kernel
theorem dX0_init_82 : decode cX0_init 82 = .ok (.getfield 15, 3) := by decide +kernel
theorem dX0_init_85 : decode cX0_init 85 = .ok (.iconst (-1), 1) := by decide +kernel
theorem dX0_init_86 : decode cX0_init 86 = .ok (.invokestatic 39, 3) := by decide +kernel
theorem dX0_init_89 : decode cX0_init 89 = .ok (.aload_n 0, 1) := by decide +kernel
theorem dX0_init_90 : decode cX0_init 90 = .ok (.getfield 21, 3) := by decide +kernel
theorem dX0_init_93 : decode cX0_init 93 = .ok (.iconst (-1), 1) := by decide +kernel
theorem dX0_init_94 : decode cX0_init 94 = .ok (.invokestatic 39, 3) := by decide +kernel
theorem dX0_init_97 : decode cX0_init 97 = .ok (.aload_n 0, 1) := by decide +kernel
theorem dX0_init_98 : decode cX0_init 98 = .ok (.getfield 24, 3) := by decide +kernel
theorem dX0_init_101 : decode cX0_init 101 = .ok (.iconst (-1), 1) := by decide +kernel
theorem dX0_init_102 : decode cX0_init 102 = .ok (.invokestatic 39, 3) := by decide +kernel
theorem dX0_init_105 : decode cX0_init 105 = .ok (.aload_n 0, 1) := by decide +kernel
theorem dX0_init_106 : decode cX0_init 106 = .ok (.getfield 36, 3) := by decide +kernel
theorem dX0_init_109 : decode cX0_init 109 = .ok (.iconst 1, 1) := by decide +kernel
theorem dX0_init_110 : decode cX0_init 110 = .ok (.bipush 20, 2) := by decide +kernel
theorem dX0_init_112 : decode cX0_init 112 = .ok (.invokestatic 43, 3) := by decide +kernel
theorem dX0_init_115 : decode cX0_init 115 = .ok (.aload_n 0, 1) := by decide +kernel
theorem dX0_init_116 : decode cX0_init 116 = .ok (.getfield 36, 3) := by decide +kernel
theorem dX0_init_119 : decode cX0_init 119 = .ok (.iconst 2, 1) := by decide +kernel
theorem dX0_init_120 : decode cX0_init 120 = .ok (.iconst 1, 1) := by decide +kernel
theorem dX0_init_121 : decode cX0_init 121 = .ok (.invokestatic 43, 3) := by decide +kernel
theorem dX0_init_124 : decode cX0_init 124 = .ok (.return_, 1) := by decide +kernel
theorem dX0_copyFrom_0 : decode cX0_copyFrom 0 = .ok (.aload_n 1, 1) := by decide +kernel
theorem dX0_copyFrom_1 : decode cX0_copyFrom 1 = .ok (.getfield 9, 3) := by decide +kernel
theorem dX0_copyFrom_4 : decode cX0_copyFrom 4 = .ok (.aload_n 0, 1) := by decide +kernel
theorem dX0_copyFrom_5 : decode cX0_copyFrom 5 = .ok (.getfield 9, 3) := by decide +kernel
theorem dX0_copyFrom_8 : decode cX0_copyFrom 8 = .ok (.invokestatic 47, 3) := by decide +kernel
theorem dX0_copyFrom_11 : decode cX0_copyFrom 11 = .ok (.aload_n 1, 1) := by decide +kernel
theorem dX0_copyFrom_12 : decode cX0_copyFrom 12 = .ok (.getfield 15, 3) := by decide +kernel
theorem dX0_copyFrom_15 : decode cX0_copyFrom 15 = .ok (.aload_n 0, 1) := by decide +kernel
theorem dX0_copyFrom_16 : decode cX0_copyFrom 16 = .ok (.getfield 15, 3) := by decide +kernel
theorem dX0_copyFrom_19 : decode cX0_copyFrom 19 = .ok (.invokestatic 47, 3) := by decide +kernel
theorem dX0_copyFrom_22 : decode cX0_copyFrom 22 = .ok (.aload_n 1, 1) := by decide +kernel
theorem dX0_copyFrom_23 : decode cX0_copyFrom 23 = .ok (.getfield 18, 3) := by decide +kernel
theorem dX0_copyFrom_26 : decode cX0_copyFrom 26 = .ok (.aload_n 0, 1) := by decide +kernel
theorem dX0_copyFrom_27 : decode cX0_copyFrom 27 = .ok (.getfield 18, 3) := by decide +kernel
theorem dX0_copyFrom_30 : decode cX0_copyFrom 30 = .ok (.invokestatic 47, 3) := by decide +kernel
theorem dX0_copyFrom_33 : decode cX0_copyFrom 33 = .ok (.aload_n 1, 1) := by decide +kernel
theorem dX0_copyFrom_34 : decode cX0_copyFrom 34 = .ok (.getfield 21, 3) := by decide +kernel
theorem dX0_copyFrom_37 : decode cX0_copyFrom 37 = .ok (.aload_n 0, 1) := by decide +kernel
theorem dX0_copyFrom_38 : decode cX0_copyFrom 38 = .ok (.getfield 21, 3) := by decide +kernel
theorem dX0_copyFrom_41 : decode cX0_copyFrom 41 = .ok (.invokestatic 47, 3) := by decide +kernel
theorem dX0_copyFrom_44 : decode cX0_copyFrom 44 = .ok (.aload_n 1, 1) := by decide +kernel
theorem dX0_copyFrom_45 : decode cX0_copyFrom 45 = .ok (.getfield 24, 3) := by decide +kernel
theorem dX0_copyFrom_48 : decode cX0_copyFrom 48 = .ok (.aload_n 0, 1) := by decide +kernel
theorem dX0_copyFrom_49 : decode cX0_copyFrom 49 = .ok (.getfield 24, 3) := by decide +kernel
theorem dX0_copyFrom_52 : decode cX0_copyFrom 52 = .ok (.invokestatic 47, 3) := by decide +kernel
theorem dX0_copyFrom_55 : decode cX0_copyFrom 55 = .ok (.aload_n 1, 1) := by decide +kernel
theorem dX0_copyFrom_56 : decode cX0_copyFrom 56 = .ok (.getfield 27, 3) := by decide +kernel
theorem dX0_copyFrom_59 : decode cX0_copyFrom 59 = .ok (.aload_n 0, 1) := by decide +kernel
theorem dX0_copyFrom_60 : decode cX0_copyFrom 60 = .ok (.getfield 27, 3) := by decide +kernel
theorem dX0_copyFrom_63 : decode cX0_copyFrom 63 = .ok (.invokestatic 47, 3) := by decide +kernel
theorem dX0_copyFrom_66 : decode cX0_copyFrom 66 = .ok (.aload_n 1, 1) := by decide +kernel
theorem dX0_copyFrom_67 : decode cX0_copyFrom 67 = .ok (.getfield 30, 3) := by decide +kernel
theorem dX0_copyFrom_70 : decode cX0_copyFrom 70 = .ok (.aload_n 0, 1) := by decide +kernel
theorem dX0_copyFrom_71 : decode cX0_copyFrom 71 = .ok (.getfield 30, 3) := by decide +kernel
theorem dX0_copyFrom_74 : decode cX0_copyFrom 74 = .ok (.invokestatic 47, 3) := by decide +kernel
theorem dX0_copyFrom_77 : decode cX0_copyFrom 77 = .ok (.aload_n 1, 1) := by decide +kernel
theorem dX0_copyFrom_78 : decode cX0_copyFrom 78 = .ok (.getfield 33, 3) := by decide +kernel
theorem dX0_copyFrom_81 : decode cX0_copyFrom 81 = .ok (.aload_n 0, 1) := by decide +kernel
theorem dX0_copyFrom_82 : decode cX0_copyFrom 82 = .ok (.getfield 33, 3) := by decide +kernel
theorem dX0_copyFrom_85 : decode cX0_copyFrom 85 = .ok (.invokestatic 47, 3) := by decide +kernel
theorem dX0_copyFrom_88 : decode cX0_copyFrom 88 = .ok (.aload_n 1, 1) := by decide +kernel
theorem dX0_copyFrom_89 : decode cX0_copyFrom 89 = .ok (.getfield 36, 3) := by decide +kernel
theorem dX0_copyFrom_92 : decode cX0_copyFrom 92 = .ok (.aload_n 0, 1) := by decide +kernel
theorem dX0_copyFrom_93 : decode cX0_copyFrom 93 = .ok (.getfield 36, 3) := by decide +kernel
theorem dX0_copyFrom_96 : decode cX0_copyFrom 96 = .ok (.invokestatic 47, 3) := by decide +kernel
theorem dX0_copyFrom_99 : decode cX0_copyFrom 99 = .ok (.aload_n 0, 1) := by decide +kernel
theorem dX0_copyFrom_100 : decode cX0_copyFrom 100 = .ok (.aload_n 1, 1) := by decide +kernel
theorem dX0_copyFrom_101 : decode cX0_copyFrom 101 = .ok (.getfield 51, 3) := by decide +kernel
theorem dX0_copyFrom_104 : decode cX0_copyFrom 104 = .ok (.putfield 51, 3) := by decide +kernel
theorem dX0_copyFrom_107 : decode cX0_copyFrom 107 = .ok (.aload_n 0, 1) := by decide +kernel
theorem dX0_copyFrom_108 : decode cX0_copyFrom 108 = .ok (.aload_n 1, 1) := by decide +kernel
theorem dX0_copyFrom_109 : decode cX0_copyFrom 109 = .ok (.getfield 55, 3) := by decide +kernel
theorem dX0_copyFrom_112 : decode cX0_copyFrom 112 = .ok (.putfield 55, 3) := by decide +kernel
theorem dX0_copyFrom_115 : decode cX0_copyFrom 115 = .ok (.aload_n 0, 1) := by decide +kernel
theorem dX0_copyFrom_116 : decode cX0_copyFrom 116 = .ok (.aload_n 1, 1) := by decide +kernel
theorem dX0_copyFrom_117 : decode cX0_copyFrom 117 = .ok (.getfield 58, 3) := by decide +kernel
theorem dX0_copyFrom_120 : decode cX0_copyFrom 120 = .ok (.putfield 58, 3) := by decide +kernel
theorem dX0_copyFrom_123 : decode cX0_copyFrom 123 = .ok (.aload_n 0, 1) := by decide +kernel
theorem dX0_copyFrom_124 : decode cX0_copyFrom 124 = .ok (.aload_n 1, 1) := by decide +kernel
theorem dX0_copyFrom_125 : decode cX0_copyFrom 125 = .ok (.getfield 61, 3) := by decide +kernel
theorem dX0_copyFrom_128 : decode cX0_copyFrom 128 = .ok (.putfield 61, 3) := by decide +kernel
theorem dX0_copyFrom_131 : decode cX0_copyFrom 131 = .ok (.return_, 1) := by decide +kernel
theorem dX0_homeOf_0 : decode cX0_homeOf 0 = .ok (.aload_n 0, 1) := by decide +kernel
theorem dX0_homeOf_1 : decode cX0_homeOf 1 = .ok (.getfield 9, 3) := by decide +kernel
theorem dX0_homeOf_4 : decode cX0_homeOf 4 = .ok (.iload_n 1, 1) := by decide +kernel
theorem dX0_homeOf_5 : decode cX0_homeOf 5 = .ok (.invokestatic 64, 3) := by decide +kernel
theorem dX0_homeOf_8 : decode cX0_homeOf 8 = .ok (.ireturn, 1) := by decide +kernel
theorem dX0_isInBag_0 : decode cX0_isInBag 0 = .ok (.aload_n 0, 1) := by decide +kernel
theorem dX0_isInBag_1 : decode cX0_isInBag 1 = .ok (.getfield 9, 3) := by decide +kernel
theorem dX0_isInBag_4 : decode cX0_isInBag 4 = .ok (.iload_n 1, 1) := by decide +kernel
theorem dX0_isInBag_5 : decode cX0_isInBag 5 = .ok (.invokestatic 64, 3) := by decide +kernel
theorem dX0_isInBag_8 : decode cX0_isInBag 8 = .ok (.iconst (-1), 1) := by decide +kernel
theorem dX0_isInBag_9 : decode cX0_isInBag 9 = .ok (.if_icmp .ne 7, 3) := by decide +kernel
theorem dX0_isInBag_12 : decode cX0_isInBag 12 = .ok (.iconst 1, 1) := by decide +kernel
theorem dX0_isInBag_13 : decode cX0_isInBag 13 = .ok (.goto 4, 3) := by decide +kernel
theorem dX0_isInBag_16 : decode cX0_isInBag 16 = .ok (.iconst 0, 1) := by decide +kernel
theorem dX0_isInBag_17 : decode cX0_isInBag 17 = .ok (.ireturn, 1) := by decide +kernel
theorem dX0_sizeOf_0 : decode cX0_sizeOf 0 = .ok (.aload_n 0, 1) := by decide +kernel
theorem dX0_sizeOf_1 : decode cX0_sizeOf 1 = .ok (.getfield 18, 3) := by decide +kernel
theorem dX0_sizeOf_4 : decode cX0_sizeOf 4 = .ok (.iload_n 1, 1) := by decide +kernel
theorem dX0_sizeOf_5 : decode cX0_sizeOf 5 = .ok (.invokestatic 64, 3) := by decide +kernel
theorem dX0_sizeOf_8 : decode cX0_sizeOf 8 = .ok (.ireturn, 1) := by decide +kernel
theorem dX0_wordAt_0 : decode cX0_wordAt 0 = .ok (.iload_n 1, 1) := by decide +kernel
theorem dX0_wordAt_1 : decode cX0_wordAt 1 = .ok (.bipush 6, 2) := by decide +kernel
theorem dX0_wordAt_3 : decode cX0_wordAt 3 = .ok (.imul, 1) := by decide +kernel
theorem dX0_wordAt_4 : decode cX0_wordAt 4 = .ok (.iload_n 2, 1) := by decide +kernel
theorem dX0_wordAt_5 : decode cX0_wordAt 5 = .ok (.iadd, 1) := by decide +kernel
theorem dX0_wordAt_6 : decode cX0_wordAt 6 = .ok (.istore_n 3, 1) := by decide +kernel
theorem dX0_wordAt_7 : decode cX0_wordAt 7 = .ok (.iload_n 2, 1) := by decide +kernel
theorem dX0_wordAt_8 : decode cX0_wordAt 8 = .ok (.ifCond .lt 26, 3) := by decide +kernel
theorem dX0_wordAt_11 : decode cX0_wordAt 11 = .ok (.iload_n 2, 1) := by decide +kernel
theorem dX0_wordAt_12 : decode cX0_wordAt 12 = .ok (.bipush 6, 2) := by decide +kernel
theorem dX0_wordAt_14 : decode cX0_wordAt 14 = .ok (.if_icmp .ge 20, 3) := by decide +kernel
theorem dX0_wordAt_17 : decode cX0_wordAt 17 = .ok (.iload_n 3, 1) := by decide +kernel
theorem dX0_wordAt_18 : decode cX0_wordAt 18 = .ok (.ifCond .lt 16, 3) := by decide +kernel
theorem dX0_wordAt_21 : decode cX0_wordAt 21 = .ok (.iload_n 3, 1) := by decide +kernel
theorem dX0_wordAt_22 : decode cX0_wordAt 22 = .ok (.aload_n 0, 1) := by decide +kernel
theorem dX0_wordAt_23 : decode cX0_wordAt 23 = .ok (.getfield 15, 3) := by decide +kernel
theorem dX0_wordAt_26 : decode cX0_wordAt 26 = .ok (.arraylength, 1) := by decide +kernel
theorem dX0_wordAt_27 : decode cX0_wordAt 27 = .ok (.if_icmp .ge 7, 3) := by decide +kernel
theorem dX0_wordAt_30 : decode cX0_wordAt 30 = .ok (.iconst 1, 1) := by decide +kernel
theorem dX0_wordAt_31 : decode cX0_wordAt 31 = .ok (.goto 4, 3) := by decide +kernel
theorem dX0_wordAt_34 : decode cX0_wordAt 34 = .ok (.iconst 0, 1) := by decide +kernel
theorem dX0_wordAt_35 : decode cX0_wordAt 35 = .ok (.istore 4, 2) := by decide +kernel
theorem dX0_wordAt_37 : decode cX0_wordAt 37 = .ok (.iload 4, 2) := by decide +kernel
theorem dX0_wordAt_39 : decode cX0_wordAt 39 = .ok (.ifCond .eq 12, 3) := by decide +kernel
theorem dX0_wordAt_42 : decode cX0_wordAt 42 = .ok (.aload_n 0, 1) := by decide +kernel
theorem dX0_wordAt_43 : decode cX0_wordAt 43 = .ok (.getfield 15, 3) := by decide +kernel
theorem dX0_wordAt_46 : decode cX0_wordAt 46 = .ok (.iload_n 3, 1) := by decide +kernel
theorem dX0_wordAt_47 : decode cX0_wordAt 47 = .ok (.iaload, 1) := by decide +kernel
theorem dX0_wordAt_48 : decode cX0_wordAt 48 = .ok (.goto 4, 3) := by decide +kernel
theorem dX0_wordAt_51 : decode cX0_wordAt 51 = .ok (.iconst (-1), 1) := by decide +kernel
theorem dX0_wordAt_52 : decode cX0_wordAt 52 = .ok (.ireturn, 1) := by decide +kernel
theorem dX0_setWordAt_0 : decode cX0_setWordAt 0 = .ok (.iload_n 2, 1) := by decide +kernel
theorem dX0_setWordAt_1 : decode cX0_setWordAt 1 = .ok (.ifCond .lt 23, 3) := by decide +kernel
theorem dX0_setWordAt_4 : decode cX0_setWordAt 4 = .ok (.iload_n 2, 1) := by decide +kernel
theorem dX0_setWordAt_5 : decode cX0_setWordAt 5 = .ok (.bipush 6, 2) := by decide +kernel
theorem dX0_setWordAt_7 : decode cX0_setWordAt 7 = .ok (.if_icmp .ge 17, 3) := by decide +kernel
theorem dX0_setWordAt_10 : decode cX0_setWordAt 10 = .ok (.aload_n 0, 1) := by decide +kernel
theorem dX0_setWordAt_11 : decode cX0_setWordAt 11 = .ok (.getfield 15, 3) := by decide +kernel
theorem dX0_setWordAt_14 : decode cX0_setWordAt 14 = .ok (.iload_n 1, 1) := by decide +kernel
theorem dX0_setWordAt_15 : decode cX0_setWordAt 15 = .ok (.bipush 6, 2) := by decide +kernel
theorem dX0_setWordAt_17 : decode cX0_setWordAt 17 = .ok (.imul, 1) := by decide +kernel
theorem dX0_setWordAt_18 : decode cX0_setWordAt 18 = .ok (.iload_n 2, 1) := by decide +kernel
theorem dX0_setWordAt_19 : decode cX0_setWordAt 19 = .ok (.iadd, 1) := by decide +kernel
theorem dX0_setWordAt_20 : decode cX0_setWordAt 20 = .ok (.iload_n 3, 1) := by decide +kernel
theorem dX0_setWordAt_21 : decode cX0_setWordAt 21 = .ok (.invokestatic 43, 3) := by decide +kernel
theorem dX0_setWordAt_24 : decode cX0_setWordAt 24 = .ok (.return_, 1) := by decide +kernel
theorem dX0_placeOf_0 : decode cX0_placeOf 0 = .ok (.aload_n 0, 1) := by decide +kernel
theorem dX0_placeOf_1 : decode cX0_placeOf 1 = .ok (.getfield 9, 3) := by decide +kernel
theorem dX0_placeOf_4 : decode cX0_placeOf 4 = .ok (.iload_n 1, 1) := by decide +kernel
theorem dX0_placeOf_5 : decode cX0_placeOf 5 = .ok (.invokestatic 64, 3) := by decide +kernel
theorem dX0_placeOf_8 : decode cX0_placeOf 8 = .ok (.istore_n 2, 1) := by decide +kernel
theorem dX0_placeOf_9 : decode cX0_placeOf 9 = .ok (.iconst 0, 1) := by decide +kernel
theorem dX0_placeOf_10 : decode cX0_placeOf 10 = .ok (.istore_n 3, 1) := by decide +kernel
theorem dX0_placeOf_11 : decode cX0_placeOf 11 = .ok (.iload_n 3, 1) := by decide +kernel
theorem dX0_placeOf_12 : decode cX0_placeOf 12 = .ok (.aload_n 0, 1) := by decide +kernel
theorem dX0_placeOf_13 : decode cX0_placeOf 13 = .ok (.getfield 18, 3) := by decide +kernel
theorem dX0_placeOf_16 : decode cX0_placeOf 16 = .ok (.iload_n 2, 1) := by decide +kernel
theorem dX0_placeOf_17 : decode cX0_placeOf 17 = .ok (.invokestatic 64, 3) := by decide +kernel
theorem dX0_placeOf_20 : decode cX0_placeOf 20 = .ok (.if_icmp .ge 21, 3) := by decide +kernel
theorem dX0_placeOf_23 : decode cX0_placeOf 23 = .ok (.aload_n 0, 1) := by decide +kernel
theorem dX0_placeOf_24 : decode cX0_placeOf 24 = .ok (.iload_n 2, 1) := by decide +kernel
theorem dX0_placeOf_25 : decode cX0_placeOf 25 = .ok (.iload_n 3, 1) := by decide +kernel
theorem dX0_placeOf_26 : decode cX0_placeOf 26 = .ok (.invokevirtual 68, 3) := by decide +kernel
theorem dX0_placeOf_29 : decode cX0_placeOf 29 = .ok (.iload_n 1, 1) := by decide +kernel
theorem dX0_placeOf_30 : decode cX0_placeOf 30 = .ok (.if_icmp .ne 5, 3) := by decide +kernel
theorem dX0_placeOf_33 : decode cX0_placeOf 33 = .ok (.iload_n 3, 1) := by decide +kernel
theorem dX0_placeOf_34 : decode cX0_placeOf 34 = .ok (.ireturn, 1) := by decide +kernel
theorem dX0_placeOf_35 : decode cX0_placeOf 35 = .ok (.iinc 3 1, 3) := by decide +kernel
theorem dX0_placeOf_38 : decode cX0_placeOf 38 = .ok (.goto (-27), 3) := by decide +kernel
theorem dX0_placeOf_41 : decode cX0_placeOf 41 = .ok (.iconst (-1), 1) := by decide +kernel
theorem dX0_placeOf_42 : decode cX0_placeOf 42 = .ok (.ireturn, 1) := by decide +kernel
theorem dX0_bagToldByWords_0 : decode cX0_bagToldByWords 0 = .ok (.iconst 0, 1) := by decide +kernel
theorem dX0_bagToldByWords_1 : decode cX0_bagToldByWords 1 = .ok (.istore_n 1, 1) := by decide +kernel
theorem dX0_bagToldByWords_2 : decode cX0_bagToldByWords 2 = .ok (.iconst 0, 1) := by decide +kernel
theorem dX0_bagToldByWords_3 : decode cX0_bagToldByWords 3 = .ok (.istore_n 2, 1) := by decide +kernel
theorem dX0_bagToldByWords_4 : decode cX0_bagToldByWords 4 = .ok (.iload_n 2, 1) := by decide +kernel
theorem dX0_bagToldByWords_5 : decode cX0_bagToldByWords 5 = .ok (.aload_n 0, 1) := by decide +kernel
theorem dX0_bagToldByWords_6 : decode cX0_bagToldByWords 6 = .ok (.getfield 9, 3) := by decide +kernel
theorem dX0_bagToldByWords_9 : decode cX0_bagToldByWords 9 = .ok (.arraylength, 1) := by decide +kernel
theorem dX0_bagToldByWords_10 : decode cX0_bagToldByWords 10 = .ok (.if_icmp .ge 22, 3) := by decide +kernel
theorem dX0_bagToldByWords_13 : decode cX0_bagToldByWords 13 = .ok (.aload_n 0, 1) := by decide +kernel
theorem dX0_bagToldByWords_14 : decode cX0_bagToldByWords 14 = .ok (.getfield 9, 3) := by decide +kernel
theorem dX0_bagToldByWords_17 : decode cX0_bagToldByWords 17 = .ok (.iload_n 2, 1) := by decide +kernel
theorem dX0_bagToldByWords_18 : decode cX0_bagToldByWords 18 = .ok (.iaload, 1) := by decide +kernel
theorem dX0_bagToldByWords_19 : decode cX0_bagToldByWords 19 = .ok (.iconst (-1), 1) := by decide +kernel
theorem dX0_bagToldByWords_20 : decode cX0_bagToldByWords 20 = .ok (.if_icmp .ne 6, 3) := by decide +kernel
theorem dX0_bagToldByWords_23 : decode cX0_bagToldByWords 23 = .ok (.iinc 1 1, 3) := by decide +kernel
theorem dX0_bagToldByWords_26 : decode cX0_bagToldByWords 26 = .ok (.iinc 2 1, 3) := by decide +kernel
theorem dX0_bagToldByWords_29 : decode cX0_bagToldByWords 29 = .ok (.goto (-25), 3) := by decide +kernel
theorem dX0_bagToldByWords_32 : decode cX0_bagToldByWords 32 = .ok (.iload_n 1, 1) := by decide +kernel
theorem dX0_bagToldByWords_33 : decode cX0_bagToldByWords 33 = .ok (.ireturn, 1) := by decide +kernel
theorem dX0_bagToldByLines_0 : decode cX0_bagToldByLines 0 = .ok (.bipush 40, 2) := by decide +kernel
theorem dX0_bagToldByLines_2 : decode cX0_bagToldByLines 2 = .ok (.istore_n 1, 1) := by decide +kernel
theorem dX0_bagToldByLines_3 : decode cX0_bagToldByLines 3 = .ok (.iconst 0, 1) := by decide +kernel
theorem dX0_bagToldByLines_4 : decode cX0_bagToldByLines 4 = .ok (.istore_n 2, 1) := by decide +kernel
theorem dX0_bagToldByLines_5 : decode cX0_bagToldByLines 5 = .ok (.iload_n 2, 1) := by decide +kernel
theorem dX0_bagToldByLines_6 : decode cX0_bagToldByLines 6 = .ok (.aload_n 0, 1) := by decide +kernel
theorem dX0_bagToldByLines_7 : decode cX0_bagToldByLines 7 = .ok (.getfield 18, 3) := by decide +kernel
theorem dX0_bagToldByLines_10 : decode cX0_bagToldByLines 10 = .ok (.arraylength, 1) := by decide +kernel
theorem dX0_bagToldByLines_11 : decode cX0_bagToldByLines 11 = .ok (.if_icmp .ge 18, 3) := by decide +kernel
theorem dX0_bagToldByLines_14 : decode cX0_bagToldByLines 14 = .ok (.iload_n 1, 1) := by decide +kernel
theorem dX0_bagToldByLines_15 : decode cX0_bagToldByLines 15 = .ok (.aload_n 0, 1) := by decide +kernel
theorem dX0_bagToldByLines_16 : decode cX0_bagToldByLines 16 = .ok (.getfield 18, 3) := by decide +kernel
theorem dX0_bagToldByLines_19 : decode cX0_bagToldByLines 19 = .ok (.iload_n 2, 1) := by decide +kernel
theorem dX0_bagToldByLines_20 : decode cX0_bagToldByLines 20 = .ok (.iaload, 1) := by decide +kernel
theorem dX0_bagToldByLines_21 : decode cX0_bagToldByLines 21 = .ok (.isub, 1) := by decide +kernel
theorem dX0_bagToldByLines_22 : decode cX0_bagToldByLines 22 = .ok (.istore_n 1, 1) := by decide +kernel
theorem dX0_bagToldByLines_23 : decode cX0_bagToldByLines 23 = .ok (.iinc 2 1, 3) := by decide +kernel
theorem dX0_bagToldByLines_26 : decode cX0_bagToldByLines 26 = .ok (.goto (-21), 3) := by decide +kernel
theorem dX0_bagToldByLines_29 : decode cX0_bagToldByLines 29 = .ok (.iload_n 1, 1) := by decide +kernel
theorem dX0_bagToldByLines_30 : decode cX0_bagToldByLines 30 = .ok (.ireturn, 1) := by decide +kernel
theorem dX0_wordsOfDoor_0 : decode cX0_wordsOfDoor 0 = .ok (.iconst 0, 1) := by decide +kernel
theorem dX0_wordsOfDoor_1 : decode cX0_wordsOfDoor 1 = .ok (.istore_n 2, 1) := by decide +kernel
theorem dX0_wordsOfDoor_2 : decode cX0_wordsOfDoor 2 = .ok (.iconst 0, 1) := by decide +kernel
theorem dX0_wordsOfDoor_3 : decode cX0_wordsOfDoor 3 = .ok (.istore_n 3, 1) := by decide +kernel
theorem dX0_wordsOfDoor_4 : decode cX0_wordsOfDoor 4 = .ok (.iload_n 3, 1) := by decide +kernel
theorem dX0_wordsOfDoor_5 : decode cX0_wordsOfDoor 5 = .ok (.iconst 4, 1) := by decide +kernel
theorem dX0_wordsOfDoor_6 : decode cX0_wordsOfDoor 6 = .ok (.if_icmp .ge 24, 3) := by decide +kernel
theorem dX0_wordsOfDoor_9 : decode cX0_wordsOfDoor 9 = .ok (.iload_n 2, 1) := by decide +kernel
theorem dX0_wordsOfDoor_10 : decode cX0_wordsOfDoor 10 = .ok (.aload_n 0, 1) := by decide +kernel
theorem dX0_wordsOfDoor_11 : decode cX0_wordsOfDoor 11 = .ok (.getfield 18, 3) := by decide +kernel
theorem dX0_wordsOfDoor_14 : decode cX0_wordsOfDoor 14 = .ok (.iload_n 1, 1) := by decide +kernel
theorem dX0_wordsOfDoor_15 : decode cX0_wordsOfDoor 15 = .ok (.iload_n 3, 1) := by decide +kernel
theorem dX0_wordsOfDoor_16 : decode cX0_wordsOfDoor 16 = .ok (.invokestatic 72, 3) := by decide +kernel
theorem dX0_wordsOfDoor_19 : decode cX0_wordsOfDoor 19 = .ok (.invokestatic 64, 3) := by decide +kernel
theorem dX0_wordsOfDoor_22 : decode cX0_wordsOfDoor 22 = .ok (.iadd, 1) := by decide +kernel
theorem dX0_wordsOfDoor_23 : decode cX0_wordsOfDoor 23 = .ok (.istore_n 2, 1) := by decide +kernel
theorem dX0_wordsOfDoor_24 : decode cX0_wordsOfDoor 24 = .ok (.iinc 3 1, 3) := by decide +kernel
theorem dX0_wordsOfDoor_27 : decode cX0_wordsOfDoor 27 = .ok (.goto (-23), 3) := by decide +kernel
theorem dX0_wordsOfDoor_30 : decode cX0_wordsOfDoor 30 = .ok (.iload_n 2, 1) := by decide +kernel
theorem dX0_wordsOfDoor_31 : decode cX0_wordsOfDoor 31 = .ok (.ireturn, 1) := by decide +kernel
theorem dX0_insertWord_0 : decode cX0_insertWord 0 = .ok (.aload_n 0, 1) := by decide +kernel
theorem dX0_insertWord_1 : decode cX0_insertWord 1 = .ok (.getfield 18, 3) := by decide +kernel
theorem dX0_insertWord_4 : decode cX0_insertWord 4 = .ok (.iload_n 2, 1) := by decide +kernel
theorem dX0_insertWord_5 : decode cX0_insertWord 5 = .ok (.invokestatic 64, 3) := by decide +kernel
theorem dX0_insertWord_8 : decode cX0_insertWord 8 = .ok (.istore 4, 2) := by decide +kernel
theorem dX0_insertWord_10 : decode cX0_insertWord 10 = .ok (.iload 4, 2) := by decide +kernel
theorem dX0_insertWord_12 : decode cX0_insertWord 12 = .ok (.istore 5, 2) := by decide +kernel
theorem dX0_insertWord_14 : decode cX0_insertWord 14 = .ok (.iload 5, 2) := by decide +kernel
theorem dX0_insertWord_16 : decode cX0_insertWord 16 = .ok (.iload_n 3, 1) := by decide +kernel
theorem dX0_insertWord_17 : decode cX0_insertWord 17 = .ok (.if_icmp .le 25, 3) := by decide +kernel
theorem dX0_insertWord_20 : decode cX0_insertWord 20 = .ok (.aload_n 0, 1) := by decide +kernel
theorem dX0_insertWord_21 : decode cX0_insertWord 21 = .ok (.iload_n 2, 1) := by decide +kernel
theorem dX0_insertWord_22 : decode cX0_insertWord 22 = .ok (.iload 5, 2) := by decide +kernel
theorem dX0_insertWord_24 : decode cX0_insertWord 24 = .ok (.aload_n 0, 1) := by decide +kernel
theorem dX0_insertWord_25 : decode cX0_insertWord 25 = .ok (.iload_n 2, 1) := by decide +kernel
theorem dX0_insertWord_26 : decode cX0_insertWord 26 = .ok (.iload 5, 2) := by decide +kernel
theorem dX0_insertWord_28 : decode cX0_insertWord 28 = .ok (.iconst 1, 1) := by decide +kernel
theorem dX0_insertWord_29 : decode cX0_insertWord 29 = .ok (.isub, 1) := by decide +kernel
theorem dX0_insertWord_30 : decode cX0_insertWord 30 = .ok (.invokevirtual 68, 3) := by decide +kernel
theorem dX0_insertWord_33 : decode cX0_insertWord 33 = .ok (.invokevirtual 75, 3) := by decide +kernel
theorem dX0_insertWord_36 : decode cX0_insertWord 36 = .ok (.iinc 5 (-1), 3) := by decide +kernel
theorem dX0_insertWord_39 : decode cX0_insertWord 39 = .ok (.goto (-25), 3) := by decide +kernel
theorem dX0_insertWord_42 : decode cX0_insertWord 42 = .ok (.aload_n 0, 1) := by decide +kernel
theorem dX0_insertWord_43 : decode cX0_insertWord 43 = .ok (.iload_n 2, 1) := by decide +kernel
theorem dX0_insertWord_44 : decode cX0_insertWord 44 = .ok (.iload_n 3, 1) := by decide +kernel
theorem dX0_insertWord_45 : decode cX0_insertWord 45 = .ok (.iload_n 1, 1) := by decide +kernel
theorem dX0_insertWord_46 : decode cX0_insertWord 46 = .ok (.invokevirtual 75, 3) := by decide +kernel
theorem dX0_insertWord_49 : decode cX0_insertWord 49 = .ok (.aload_n 0, 1) := by decide +kernel
theorem dX0_insertWord_50 : decode cX0_insertWord 50 = .ok (.getfield 18, 3) := by decide +kernel
theorem dX0_insertWord_53 : decode cX0_insertWord 53 = .ok (.iload_n 2, 1) := by decide +kernel
theorem dX0_insertWord_54 : decode cX0_insertWord 54 = .ok (.iload 4, 2) := by decide +kernel
theorem dX0_insertWord_56 : decode cX0_insertWord 56 = .ok (.iconst 1, 1) := by decide +kernel
theorem dX0_insertWord_57 : decode cX0_insertWord 57 = .ok (.iadd, 1) := by decide +kernel
theorem dX0_insertWord_58 : decode cX0_insertWord 58 = .ok (.invokestatic 43, 3) := by decide +kernel
theorem dX0_insertWord_61 : decode cX0_insertWord 61 = .ok (.aload_n 0, 1) := by decide +kernel
theorem dX0_insertWord_62 : decode cX0_insertWord 62 = .ok (.getfield 9, 3) := by decide +kernel
theorem dX0_insertWord_65 : decode cX0_insertWord 65 = .ok (.iload_n 1, 1) := by decide +kernel
theorem dX0_insertWord_66 : decode cX0_insertWord 66 = .ok (.iload_n 2, 1) := by decide +kernel
theorem dX0_insertWord_67 : decode cX0_insertWord 67 = .ok (.invokestatic 43, 3) := by decide +kernel
theorem dX0_insertWord_70 : decode cX0_insertWord 70 = .ok (.aload_n 0, 1) := by decide +kernel
theorem dX0_insertWord_71 : decode cX0_insertWord 71 = .ok (.iload_n 2, 1) := by decide +kernel
theorem dX0_insertWord_72 : decode cX0_insertWord 72 = .ok (.iload_n 3, 1) := by decide +kernel
theorem dX0_insertWord_73 : decode cX0_insertWord 73 = .ok (.iload 4, 2) := by decide +kernel
theorem dX0_insertWord_75 : decode cX0_insertWord 75 = .ok (.if_icmp .ne 7, 3) := by decide +kernel
theorem dX0_insertWord_78 : decode cX0_insertWord 78 = .ok (.iconst 1, 1) := by decide +kernel
theorem dX0_insertWord_79 : decode cX0_insertWord 79 = .ok (.goto 4, 3) := by decide +kernel
theorem dX0_insertWord_82 : decode cX0_insertWord 82 = .ok (.iconst 0, 1) := by decide +kernel
theorem dX0_insertWord_83 : decode cX0_insertWord 83 = .ok (.invokevirtual 79, 3) := by decide +kernel
theorem dX0_insertWord_86 : decode cX0_insertWord 86 = .ok (.return_, 1) := by decide +kernel
theorem dX0_removeWord_0 : decode cX0_removeWord 0 = .ok (.aload_n 0, 1) := by decide +kernel
theorem dX0_removeWord_1 : decode cX0_removeWord 1 = .ok (.getfield 9, 3) := by decide +kernel
theorem dX0_removeWord_4 : decode cX0_removeWord 4 = .ok (.iload_n 1, 1) := by decide +kernel
theorem dX0_removeWord_5 : decode cX0_removeWord 5 = .ok (.invokestatic 64, 3) := by decide +kernel
theorem dX0_removeWord_8 : decode cX0_removeWord 8 = .ok (.istore_n 2, 1) := by decide +kernel
theorem dX0_removeWord_9 : decode cX0_removeWord 9 = .ok (.aload_n 0, 1) := by decide +kernel
theorem dX0_removeWord_10 : decode cX0_removeWord 10 = .ok (.iload_n 1, 1) := by decide +kernel
theorem dX0_removeWord_11 : decode cX0_removeWord 11 = .ok (.invokevirtual 83, 3) := by decide +kernel
theorem dX0_removeWord_14 : decode cX0_removeWord 14 = .ok (.istore_n 3, 1) := by decide +kernel
theorem dX0_removeWord_15 : decode cX0_removeWord 15 = .ok (.iload_n 3, 1) := by decide +kernel
theorem dX0_removeWord_16 : decode cX0_removeWord 16 = .ok (.iconst (-1), 1) := by decide +kernel
theorem dX0_removeWord_17 : decode cX0_removeWord 17 = .ok (.if_icmp .ne 4, 3) := by decide +kernel
theorem dX0_removeWord_20 : decode cX0_removeWord 20 = .ok (.return_, 1) := by decide +kernel
theorem dX0_removeWord_21 : decode cX0_removeWord 21 = .ok (.aload_n 0, 1) := by decide +kernel
theorem dX0_removeWord_22 : decode cX0_removeWord 22 = .ok (.getfield 18, 3) := by decide +kernel
theorem dX0_removeWord_25 : decode cX0_removeWord 25 = .ok (.iload_n 2, 1) := by decide +kernel
theorem dX0_removeWord_26 : decode cX0_removeWord 26 = .ok (.invokestatic 64, 3) := by decide +kernel
theorem dX0_removeWord_29 : decode cX0_removeWord 29 = .ok (.iconst 1, 1) := by decide +kernel
theorem dX0_removeWord_30 : decode cX0_removeWord 30 = .ok (.isub, 1) := by decide +kernel
theorem dX0_removeWord_31 : decode cX0_removeWord 31 = .ok (.istore 4, 2) := by decide +kernel
theorem dX0_removeWord_33 : decode cX0_removeWord 33 = .ok (.iload_n 3, 1) := by decide +kernel
theorem dX0_removeWord_34 : decode cX0_removeWord 34 = .ok (.istore 5, 2) := by decide +kernel
theorem dX0_removeWord_36 : decode cX0_removeWord 36 = .ok (.iload 5, 2) := by decide +kernel
theorem dX0_removeWord_38 : decode cX0_removeWord 38 = .ok (.iload 4, 2) := by decide +kernel
theorem dX0_removeWord_40 : decode cX0_removeWord 40 = .ok (.if_icmp .ge 25, 3) := by decide +kernel
theorem dX0_removeWord_43 : decode cX0_removeWord 43 = .ok (.aload_n 0, 1) := by decide +kernel
theorem dX0_removeWord_44 : decode cX0_removeWord 44 = .ok (.iload_n 2, 1) := by decide +kernel
theorem dX0_removeWord_45 : decode cX0_removeWord 45 = .ok (.iload 5, 2) := by decide +kernel
theorem dX0_removeWord_47 : decode cX0_removeWord 47 = .ok (.aload_n 0, 1) := by decide +kernel
theorem dX0_removeWord_48 : decode cX0_removeWord 48 = .ok (.iload_n 2, 1) := by decide +kernel
theorem dX0_removeWord_49 : decode cX0_removeWord 49 = .ok (.iload 5, 2) := by decide +kernel
theorem dX0_removeWord_51 : decode cX0_removeWord 51 = .ok (.iconst 1, 1) := by decide +kernel
theorem dX0_removeWord_52 : decode cX0_removeWord 52 = .ok (.iadd, 1) := by decide +kernel
theorem dX0_removeWord_53 : decode cX0_removeWord 53 = .ok (.invokevirtual 68, 3) := by decide +kernel
theorem dX0_removeWord_56 : decode cX0_removeWord 56 = .ok (.invokevirtual 75, 3) := by decide +kernel
theorem dX0_removeWord_59 : decode cX0_removeWord 59 = .ok (.iinc 5 1, 3) := by decide +kernel
theorem dX0_removeWord_62 : decode cX0_removeWord 62 = .ok (.goto (-26), 3) := by decide +kernel
theorem dX0_removeWord_65 : decode cX0_removeWord 65 = .ok (.aload_n 0, 1) := by decide +kernel
theorem dX0_removeWord_66 : decode cX0_removeWord 66 = .ok (.iload_n 2, 1) := by decide +kernel
theorem dX0_removeWord_67 : decode cX0_removeWord 67 = .ok (.iload 4, 2) := by decide +kernel
theorem dX0_removeWord_69 : decode cX0_removeWord 69 = .ok (.iconst (-1), 1) := by decide +kernel
theorem dX0_removeWord_70 : decode cX0_removeWord 70 = .ok (.invokevirtual 75, 3) := by decide +kernel
theorem dX0_removeWord_73 : decode cX0_removeWord 73 = .ok (.aload_n 0, 1) := by decide +kernel
theorem dX0_removeWord_74 : decode cX0_removeWord 74 = .ok (.getfield 18, 3) := by decide +kernel
theorem dX0_removeWord_77 : decode cX0_removeWord 77 = .ok (.iload_n 2, 1) := by decide +kernel
theorem dX0_removeWord_78 : decode cX0_removeWord 78 = .ok (.iload 4, 2) := by decide +kernel
theorem dX0_removeWord_80 : decode cX0_removeWord 80 = .ok (.invokestatic 43, 3) := by decide +kernel
theorem dX0_removeWord_83 : decode cX0_removeWord 83 = .ok (.aload_n 0, 1) := by decide +kernel
theorem dX0_removeWord_84 : decode cX0_removeWord 84 = .ok (.getfield 9, 3) := by decide +kernel
theorem dX0_removeWord_87 : decode cX0_removeWord 87 = .ok (.iload_n 1, 1) := by decide +kernel
theorem dX0_removeWord_88 : decode cX0_removeWord 88 = .ok (.iconst (-1), 1) := by decide +kernel
theorem dX0_removeWord_89 : decode cX0_removeWord 89 = .ok (.invokestatic 43, 3) := by decide +kernel
theorem dX0_removeWord_92 : decode cX0_removeWord 92 = .ok (.aload_n 0, 1) := by decide +kernel
theorem dX0_removeWord_93 : decode cX0_removeWord 93 = .ok (.iload_n 2, 1) := by decide +kernel
theorem dX0_removeWord_94 : decode cX0_removeWord 94 = .ok (.iload_n 3, 1) := by decide +kernel
theorem dX0_removeWord_95 : decode cX0_removeWord 95 = .ok (.iload 4, 2) := by decide +kernel
theorem dX0_removeWord_97 : decode cX0_removeWord 97 = .ok (.if_icmp .ne 7, 3) := by decide +kernel
theorem dX0_removeWord_100 : decode cX0_removeWord 100 = .ok (.iconst 1, 1) := by decide +kernel
theorem dX0_removeWord_101 : decode cX0_removeWord 101 = .ok (.goto 4, 3) := by decide +kernel
theorem dX0_removeWord_104 : decode cX0_removeWord 104 = .ok (.iconst 0, 1) := by decide +kernel
theorem dX0_removeWord_105 : decode cX0_removeWord 105 = .ok (.invokevirtual 79, 3) := by decide +kernel
theorem dX0_removeWord_108 : decode cX0_removeWord 108 = .ok (.return_, 1) := by decide +kernel
theorem dX0_emptyDoor_0 : decode cX0_emptyDoor 0 = .ok (.iconst 0, 1) := by decide +kernel
theorem dX0_emptyDoor_1 : decode cX0_emptyDoor 1 = .ok (.istore_n 2, 1) := by decide +kernel
theorem dX0_emptyDoor_2 : decode cX0_emptyDoor 2 = .ok (.iconst 0, 1) := by decide +kernel
theorem dX0_emptyDoor_3 : decode cX0_emptyDoor 3 = .ok (.istore_n 3, 1) := by decide +kernel
theorem dX0_emptyDoor_4 : decode cX0_emptyDoor 4 = .ok (.iload_n 3, 1) := by decide +kernel
theorem dX0_emptyDoor_5 : decode cX0_emptyDoor 5 = .ok (.aload_n 0, 1) := by decide +kernel
theorem dX0_emptyDoor_6 : decode cX0_emptyDoor 6 = .ok (.getfield 9, 3) := by decide +kernel
theorem dX0_emptyDoor_9 : decode cX0_emptyDoor 9 = .ok (.arraylength, 1) := by decide +kernel
theorem dX0_emptyDoor_10 : decode cX0_emptyDoor 10 = .ok (.if_icmp .ge 39, 3) := by decide +kernel
theorem dX0_emptyDoor_13 : decode cX0_emptyDoor 13 = .ok (.aload_n 0, 1) := by decide +kernel
theorem dX0_emptyDoor_14 : decode cX0_emptyDoor 14 = .ok (.getfield 9, 3) := by decide +kernel
theorem dX0_emptyDoor_17 : decode cX0_emptyDoor 17 = .ok (.iload_n 3, 1) := by decide +kernel
theorem dX0_emptyDoor_18 : decode cX0_emptyDoor 18 = .ok (.iaload, 1) := by decide +kernel
theorem dX0_emptyDoor_19 : decode cX0_emptyDoor 19 = .ok (.iconst (-1), 1) := by decide +kernel
theorem dX0_emptyDoor_20 : decode cX0_emptyDoor 20 = .ok (.if_icmp .eq 23, 3) := by decide +kernel
theorem dX0_emptyDoor_23 : decode cX0_emptyDoor 23 = .ok (.aload_n 0, 1) := by decide +kernel
theorem dX0_emptyDoor_24 : decode cX0_emptyDoor 24 = .ok (.getfield 9, 3) := by decide +kernel
theorem dX0_emptyDoor_27 : decode cX0_emptyDoor 27 = .ok (.iload_n 3, 1) := by decide +kernel
theorem dX0_emptyDoor_28 : decode cX0_emptyDoor 28 = .ok (.iaload, 1) := by decide +kernel
theorem dX0_emptyDoor_29 : decode cX0_emptyDoor 29 = .ok (.iconst 4, 1) := by decide +kernel
theorem dX0_emptyDoor_30 : decode cX0_emptyDoor 30 = .ok (.idiv, 1) := by decide +kernel
theorem dX0_emptyDoor_31 : decode cX0_emptyDoor 31 = .ok (.iload_n 1, 1) := by decide +kernel
theorem dX0_emptyDoor_32 : decode cX0_emptyDoor 32 = .ok (.if_icmp .ne 11, 3) := by decide +kernel
theorem dX0_emptyDoor_35 : decode cX0_emptyDoor 35 = .ok (.aload_n 0, 1) := by decide +kernel
theorem dX0_emptyDoor_36 : decode cX0_emptyDoor 36 = .ok (.iload_n 3, 1) := by decide +kernel
theorem dX0_emptyDoor_37 : decode cX0_emptyDoor 37 = .ok (.invokevirtual 87, 3) := by decide +kernel
theorem dX0_emptyDoor_40 : decode cX0_emptyDoor 40 = .ok (.iinc 2 1, 3) := by decide +kernel
theorem dX0_emptyDoor_43 : decode cX0_emptyDoor 43 = .ok (.iinc 3 1, 3) := by decide +kernel
theorem dX0_emptyDoor_46 : decode cX0_emptyDoor 46 = .ok (.goto (-42), 3) := by decide +kernel
theorem dX0_emptyDoor_49 : decode cX0_emptyDoor 49 = .ok (.iload_n 2, 1) := by decide +kernel
theorem dX0_emptyDoor_50 : decode cX0_emptyDoor 50 = .ok (.ireturn, 1) := by decide +kernel
theorem dX0_refusal_0 : decode cX0_refusal 0 = .ok (.aload_n 0, 1) := by decide +kernel
theorem dX0_refusal_1 : decode cX0_refusal 1 = .ok (.getfield 18, 3) := by decide +kernel
theorem dX0_refusal_4 : decode cX0_refusal 4 = .ok (.iload_n 2, 1) := by decide +kernel
theorem dX0_refusal_5 : decode cX0_refusal 5 = .ok (.invokestatic 64, 3) := by decide +kernel
theorem dX0_refusal_8 : decode cX0_refusal 8 = .ok (.istore 4, 2) := by decide +kernel
theorem dX0_refusal_10 : decode cX0_refusal 10 = .ok (.iload 4, 2) := by decide +kernel
theorem dX0_refusal_12 : decode cX0_refusal 12 = .ok (.bipush 6, 2) := by decide +kernel
theorem dX0_refusal_14 : decode cX0_refusal 14 = .ok (.if_icmp .lt 5, 3) := by decide +kernel
theorem dX0_refusal_17 : decode cX0_refusal 17 = .ok (.iconst 1, 1) := by decide +kernel
theorem dX0_refusal_18 : decode cX0_refusal 18 = .ok (.ireturn, 1) := by decide +kernel
theorem dX0_refusal_19 : decode cX0_refusal 19 = .ok (.aload_n 0, 1) := by decide +kernel
theorem dX0_refusal_20 : decode cX0_refusal 20 = .ok (.iload_n 2, 1) := by decide +kernel
theorem dX0_refusal_21 : decode cX0_refusal 21 = .ok (.invokevirtual 91, 3) := by decide +kernel
theorem dX0_refusal_24 : decode cX0_refusal 24 = .ok (.iload_n 1, 1) := by decide +kernel
theorem dX0_refusal_25 : decode cX0_refusal 25 = .ok (.invokestatic 94, 3) := by decide +kernel
theorem dX0_refusal_28 : decode cX0_refusal 28 = .ok (.iadd, 1) := by decide +kernel
theorem dX0_refusal_29 : decode cX0_refusal 29 = .ok (.bipush 12, 2) := by decide +kernel
theorem dX0_refusal_31 : decode cX0_refusal 31 = .ok (.if_icmp .le 5, 3) := by decide +kernel
theorem dX0_refusal_34 : decode cX0_refusal 34 = .ok (.iconst 2, 1) := by decide +kernel
theorem dX0_refusal_35 : decode cX0_refusal 35 = .ok (.ireturn, 1) := by decide +kernel
theorem dX0_refusal_36 : decode cX0_refusal 36 = .ok (.aload_n 0, 1) := by decide +kernel
theorem dX0_refusal_37 : decode cX0_refusal 37 = .ok (.iload_n 1, 1) := by decide +kernel
theorem dX0_refusal_38 : decode cX0_refusal 38 = .ok (.iload_n 2, 1) := by decide +kernel
theorem dX0_refusal_39 : decode cX0_refusal 39 = .ok (.iload_n 3, 1) := by decide +kernel
theorem dX0_refusal_40 : decode cX0_refusal 40 = .ok (.invokevirtual 97, 3) := by decide +kernel
theorem dX0_refusal_43 : decode cX0_refusal 43 = .ok (.ifCond .eq 5, 3) := by decide +kernel
theorem dX0_refusal_46 : decode cX0_refusal 46 = .ok (.iconst 3, 1) := by decide +kernel
theorem dX0_refusal_47 : decode cX0_refusal 47 = .ok (.ireturn, 1) := by decide +kernel
theorem dX0_refusal_48 : decode cX0_refusal 48 = .ok (.iload_n 3, 1) := by decide +kernel
theorem dX0_refusal_49 : decode cX0_refusal 49 = .ok (.ifCond .eq 9, 3) := by decide +kernel
theorem dX0_refusal_52 : decode cX0_refusal 52 = .ok (.iload_n 3, 1) := by decide +kernel
theorem dX0_refusal_53 : decode cX0_refusal 53 = .ok (.iload 4, 2) := by decide +kernel
theorem dX0_refusal_55 : decode cX0_refusal 55 = .ok (.if_icmp .ne 7, 3) := by decide +kernel
theorem dX0_refusal_58 : decode cX0_refusal 58 = .ok (.iconst 1, 1) := by decide +kernel
theorem dX0_refusal_59 : decode cX0_refusal 59 = .ok (.goto 4, 3) := by decide +kernel
theorem dX0_refusal_62 : decode cX0_refusal 62 = .ok (.iconst 0, 1) := by decide +kernel
theorem dX0_refusal_63 : decode cX0_refusal 63 = .ok (.istore 5, 2) := by decide +kernel
theorem dX0_refusal_65 : decode cX0_refusal 65 = .ok (.iload_n 1, 1) := by decide +kernel
theorem dX0_refusal_66 : decode cX0_refusal 66 = .ok (.invokestatic 101, 3) := by decide +kernel
theorem dX0_refusal_69 : decode cX0_refusal 69 = .ok (.iconst 3, 1) := by decide +kernel
theorem dX0_refusal_70 : decode cX0_refusal 70 = .ok (.if_icmp .ne 22, 3) := by decide +kernel
theorem dX0_refusal_73 : decode cX0_refusal 73 = .ok (.iload 5, 2) := by decide +kernel
theorem dX0_refusal_75 : decode cX0_refusal 75 = .ok (.ifCond .eq 17, 3) := by decide +kernel
theorem dX0_refusal_78 : decode cX0_refusal 78 = .ok (.aload_n 0, 1) := by decide +kernel
theorem dX0_refusal_79 : decode cX0_refusal 79 = .ok (.getfield 36, 3) := by decide +kernel
theorem dX0_refusal_82 : decode cX0_refusal 82 = .ok (.iconst 0, 1) := by decide +kernel
theorem dX0_refusal_83 : decode cX0_refusal 83 = .ok (.invokestatic 64, 3) := by decide +kernel
theorem dX0_refusal_86 : decode cX0_refusal 86 = .ok (.iconst 1, 1) := by decide +kernel
theorem dX0_refusal_87 : decode cX0_refusal 87 = .ok (.if_icmp .ne 5, 3) := by decide +kernel
theorem dX0_refusal_90 : decode cX0_refusal 90 = .ok (.iconst 4, 1) := by decide +kernel
theorem dX0_refusal_91 : decode cX0_refusal 91 = .ok (.ireturn, 1) := by decide +kernel
theorem dX0_refusal_92 : decode cX0_refusal 92 = .ok (.iconst 0, 1) := by decide +kernel
theorem dX0_refusal_93 : decode cX0_refusal 93 = .ok (.ireturn, 1) := by decide +kernel
theorem dX0_wouldClash_0 : decode cX0_wouldClash 0 = .ok (.aload_n 0, 1) := by decide +kernel
theorem dX0_wouldClash_1 : decode cX0_wouldClash 1 = .ok (.getfield 18, 3) := by decide +kernel
theorem dX0_wouldClash_4 : decode cX0_wouldClash 4 = .ok (.iload_n 2, 1) := by decide +kernel
theorem dX0_wouldClash_5 : decode cX0_wouldClash 5 = .ok (.invokestatic 64, 3) := by decide +kernel
theorem dX0_wouldClash_8 : decode cX0_wouldClash 8 = .ok (.istore 4, 2) := by decide +kernel
theorem dX0_wouldClash_10 : decode cX0_wouldClash 10 = .ok (.iconst (-1), 1) := by decide +kernel
theorem dX0_wouldClash_11 : decode cX0_wouldClash 11 = .ok (.istore 5, 2) := by decide +kernel
theorem dX0_wouldClash_13 : decode cX0_wouldClash 13 = .ok (.iconst 0, 1) := by decide +kernel
theorem dX0_wouldClash_14 : decode cX0_wouldClash 14 = .ok (.istore 6, 2) := by decide +kernel
theorem dX0_wouldClash_16 : decode cX0_wouldClash 16 = .ok (.iload 6, 2) := by decide +kernel
theorem dX0_wouldClash_18 : decode cX0_wouldClash 18 = .ok (.iload 4, 2) := by decide +kernel
theorem dX0_wouldClash_20 : decode cX0_wouldClash 20 = .ok (.if_icmp .gt 62, 3) := by decide +kernel
theorem dX0_wouldClash_23 : decode cX0_wouldClash 23 = .ok (.iload 6, 2) := by decide +kernel
theorem dX0_wouldClash_25 : decode cX0_wouldClash 25 = .ok (.iload_n 3, 1) := by decide +kernel
theorem dX0_wouldClash_26 : decode cX0_wouldClash 26 = .ok (.if_icmp .ne 7, 3) := by decide +kernel
theorem dX0_wouldClash_29 : decode cX0_wouldClash 29 = .ok (.iload_n 1, 1) := by decide +kernel
theorem dX0_wouldClash_30 : decode cX0_wouldClash 30 = .ok (.goto 23, 3) := by decide +kernel
theorem dX0_wouldClash_33 : decode cX0_wouldClash 33 = .ok (.aload_n 0, 1) := by decide +kernel
theorem dX0_wouldClash_34 : decode cX0_wouldClash 34 = .ok (.iload_n 2, 1) := by decide +kernel
theorem dX0_wouldClash_35 : decode cX0_wouldClash 35 = .ok (.iload 6, 2) := by decide +kernel
theorem dX0_wouldClash_37 : decode cX0_wouldClash 37 = .ok (.iload_n 3, 1) := by decide +kernel
theorem dX0_wouldClash_38 : decode cX0_wouldClash 38 = .ok (.if_icmp .ge 8, 3) := by decide +kernel
theorem dX0_wouldClash_41 : decode cX0_wouldClash 41 = .ok (.iload 6, 2) := by decide +kernel
theorem dX0_wouldClash_43 : decode cX0_wouldClash 43 = .ok (.goto 7, 3) := by decide +kernel
theorem dX0_wouldClash_46 : decode cX0_wouldClash 46 = .ok (.iload 6, 2) := by decide +kernel
theorem dX0_wouldClash_48 : decode cX0_wouldClash 48 = .ok (.iconst 1, 1) := by decide +kernel
theorem dX0_wouldClash_49 : decode cX0_wouldClash 49 = .ok (.isub, 1) := by decide +kernel
theorem dX0_wouldClash_50 : decode cX0_wouldClash 50 = .ok (.invokevirtual 68, 3) := by decide +kernel
theorem dX0_wouldClash_53 : decode cX0_wouldClash 53 = .ok (.istore 7, 2) := by decide +kernel
theorem dX0_wouldClash_55 : decode cX0_wouldClash 55 = .ok (.iload 6, 2) := by decide +kernel
theorem dX0_wouldClash_57 : decode cX0_wouldClash 57 = .ok (.ifCond .le 15, 3) := by decide +kernel
theorem dX0_wouldClash_60 : decode cX0_wouldClash 60 = .ok (.iload 5, 2) := by decide +kernel
theorem dX0_wouldClash_62 : decode cX0_wouldClash 62 = .ok (.iload 7, 2) := by decide +kernel
theorem dX0_wouldClash_64 : decode cX0_wouldClash 64 = .ok (.invokestatic 104, 3) := by decide +kernel
theorem dX0_wouldClash_67 : decode cX0_wouldClash 67 = .ok (.ifCond .eq 5, 3) := by decide +kernel
theorem dX0_wouldClash_70 : decode cX0_wouldClash 70 = .ok (.iconst 1, 1) := by decide +kernel
theorem dX0_wouldClash_71 : decode cX0_wouldClash 71 = .ok (.ireturn, 1) := by decide +kernel
theorem dX0_wouldClash_72 : decode cX0_wouldClash 72 = .ok (.iload 7, 2) := by decide +kernel
theorem dX0_wouldClash_74 : decode cX0_wouldClash 74 = .ok (.istore 5, 2) := by decide +kernel
theorem dX0_wouldClash_76 : decode cX0_wouldClash 76 = .ok (.iinc 6 1, 3) := by decide +kernel
theorem dX0_wouldClash_79 : decode cX0_wouldClash 79 = .ok (.goto (-63), 3) := by decide +kernel
theorem dX0_wouldClash_82 : decode cX0_wouldClash 82 = .ok (.iconst 0, 1) := by decide +kernel
theorem dX0_wouldClash_83 : decode cX0_wouldClash 83 = .ok (.ireturn, 1) := by decide +kernel
theorem dX0_clashes_0 : decode cX0_clashes 0 = .ok (.iconst 1, 1) := by decide +kernel
theorem dX0_clashes_1 : decode cX0_clashes 1 = .ok (.istore_n 2, 1) := by decide +kernel
theorem dX0_clashes_2 : decode cX0_clashes 2 = .ok (.iload_n 2, 1) := by decide +kernel
theorem dX0_clashes_3 : decode cX0_clashes 3 = .ok (.aload_n 0, 1) := by decide +kernel
theorem dX0_clashes_4 : decode cX0_clashes 4 = .ok (.getfield 18, 3) := by decide +kernel
theorem dX0_clashes_7 : decode cX0_clashes 7 = .ok (.iload_n 1, 1) := by decide +kernel
theorem dX0_clashes_8 : decode cX0_clashes 8 = .ok (.invokestatic 64, 3) := by decide +kernel
theorem dX0_clashes_11 : decode cX0_clashes 11 = .ok (.if_icmp .ge 31, 3) := by decide +kernel
theorem dX0_clashes_14 : decode cX0_clashes 14 = .ok (.aload_n 0, 1) := by decide +kernel
theorem dX0_clashes_15 : decode cX0_clashes 15 = .ok (.iload_n 1, 1) := by decide +kernel
theorem dX0_clashes_16 : decode cX0_clashes 16 = .ok (.iload_n 2, 1) := by decide +kernel
theorem dX0_clashes_17 : decode cX0_clashes 17 = .ok (.iconst 1, 1) := by decide +kernel
theorem dX0_clashes_18 : decode cX0_clashes 18 = .ok (.isub, 1) := by decide +kernel
theorem dX0_clashes_19 : decode cX0_clashes 19 = .ok (.invokevirtual 68, 3) := by decide +kernel
theorem dX0_clashes_22 : decode cX0_clashes 22 = .ok (.aload_n 0, 1) := by decide +kernel
theorem dX0_clashes_23 : decode cX0_clashes 23 = .ok (.iload_n 1, 1) := by decide +kernel
theorem dX0_clashes_24 : decode cX0_clashes 24 = .ok (.iload_n 2, 1) := by decide +kernel
theorem dX0_clashes_25 : decode cX0_clashes 25 = .ok (.invokevirtual 68, 3) := by decide +kernel
theorem dX0_clashes_28 : decode cX0_clashes 28 = .ok (.invokestatic 104, 3) := by decide +kernel
theorem dX0_clashes_31 : decode cX0_clashes 31 = .ok (.ifCond .eq 5, 3) := by decide +kernel
theorem dX0_clashes_34 : decode cX0_clashes 34 = .ok (.iconst 1, 1) := by decide +kernel
theorem dX0_clashes_35 : decode cX0_clashes 35 = .ok (.ireturn, 1) := by decide +kernel
theorem dX0_clashes_36 : decode cX0_clashes 36 = .ok (.iinc 2 1, 3) := by decide +kernel
theorem dX0_clashes_39 : decode cX0_clashes 39 = .ok (.goto (-37), 3) := by decide +kernel
theorem dX0_clashes_42 : decode cX0_clashes 42 = .ok (.iconst 0, 1) := by decide +kernel
theorem dX0_clashes_43 : decode cX0_clashes 43 = .ok (.ireturn, 1) := by decide +kernel
theorem dX0_beatsOn_0 : decode cX0_beatsOn 0 = .ok (.iconst 0, 1) := by decide +kernel
theorem dX0_beatsOn_1 : decode cX0_beatsOn 1 = .ok (.istore_n 2, 1) := by decide +kernel
theorem dX0_beatsOn_2 : decode cX0_beatsOn 2 = .ok (.iconst 0, 1) := by decide +kernel
theorem dX0_beatsOn_3 : decode cX0_beatsOn 3 = .ok (.istore_n 3, 1) := by decide +kernel
theorem dX0_beatsOn_4 : decode cX0_beatsOn 4 = .ok (.iload_n 3, 1) := by decide +kernel
theorem dX0_beatsOn_5 : decode cX0_beatsOn 5 = .ok (.aload_n 0, 1) := by decide +kernel
theorem dX0_beatsOn_6 : decode cX0_beatsOn 6 = .ok (.getfield 18, 3) := by decide +kernel
theorem dX0_beatsOn_9 : decode cX0_beatsOn 9 = .ok (.iload_n 1, 1) := by decide +kernel
theorem dX0_beatsOn_10 : decode cX0_beatsOn 10 = .ok (.invokestatic 64, 3) := by decide +kernel
theorem dX0_beatsOn_13 : decode cX0_beatsOn 13 = .ok (.if_icmp .ge 21, 3) := by decide +kernel
theorem dX0_beatsOn_16 : decode cX0_beatsOn 16 = .ok (.iload_n 2, 1) := by decide +kernel
theorem dX0_beatsOn_17 : decode cX0_beatsOn 17 = .ok (.aload_n 0, 1) := by decide +kernel
theorem dX0_beatsOn_18 : decode cX0_beatsOn 18 = .ok (.iload_n 1, 1) := by decide +kernel
theorem dX0_beatsOn_19 : decode cX0_beatsOn 19 = .ok (.iload_n 3, 1) := by decide +kernel
theorem dX0_beatsOn_20 : decode cX0_beatsOn 20 = .ok (.invokevirtual 68, 3) := by decide +kernel
theorem dX0_beatsOn_23 : decode cX0_beatsOn 23 = .ok (.invokestatic 94, 3) := by decide +kernel
theorem dX0_beatsOn_26 : decode cX0_beatsOn 26 = .ok (.iadd, 1) := by decide +kernel
theorem dX0_beatsOn_27 : decode cX0_beatsOn 27 = .ok (.istore_n 2, 1) := by decide +kernel
theorem dX0_beatsOn_28 : decode cX0_beatsOn 28 = .ok (.iinc 3 1, 3) := by decide +kernel
theorem dX0_beatsOn_31 : decode cX0_beatsOn 31 = .ok (.goto (-27), 3) := by decide +kernel
theorem dX0_beatsOn_34 : decode cX0_beatsOn 34 = .ok (.iload_n 2, 1) := by decide +kernel
theorem dX0_beatsOn_35 : decode cX0_beatsOn 35 = .ok (.ireturn, 1) := by decide +kernel
theorem dX0_worthOfLine_0 : decode cX0_worthOfLine 0 = .ok (.aload_n 0, 1) := by decide +kernel
theorem dX0_worthOfLine_1 : decode cX0_worthOfLine 1 = .ok (.getfield 18, 3) := by decide +kernel
theorem dX0_worthOfLine_4 : decode cX0_worthOfLine 4 = .ok (.iload_n 1, 1) := by decide +kernel
theorem dX0_worthOfLine_5 : decode cX0_worthOfLine 5 = .ok (.invokestatic 64, 3) := by decide +kernel
theorem dX0_worthOfLine_8 : decode cX0_worthOfLine 8 = .ok (.istore_n 3, 1) := by decide +kernel
theorem dX0_worthOfLine_9 : decode cX0_worthOfLine 9 = .ok (.iconst 0, 1) := by decide +kernel
theorem dX0_worthOfLine_10 : decode cX0_worthOfLine 10 = .ok (.istore 4, 2) := by decide +kernel
theorem dX0_worthOfLine_12 : decode cX0_worthOfLine 12 = .ok (.iconst 0, 1) := by decide +kernel
theorem dX0_worthOfLine_13 : decode cX0_worthOfLine 13 = .ok (.istore 5, 2) := by decide +kernel
theorem dX0_worthOfLine_15 : decode cX0_worthOfLine 15 = .ok (.iconst 0, 1) := by decide +kernel
theorem dX0_worthOfLine_16 : decode cX0_worthOfLine 16 = .ok (.istore 6, 2) := by decide +kernel
theorem dX0_worthOfLine_18 : decode cX0_worthOfLine 18 = .ok (.iconst 0, 1) := by decide +kernel
theorem dX0_worthOfLine_19 : decode cX0_worthOfLine 19 = .ok (.istore 7, 2) := by decide +kernel
theorem dX0_worthOfLine_21 : decode cX0_worthOfLine 21 = .ok (.iload 7, 2) := by decide +kernel
theorem dX0_worthOfLine_23 : decode cX0_worthOfLine 23 = .ok (.iload_n 3, 1) := by decide +kernel
theorem dX0_worthOfLine_24 : decode cX0_worthOfLine 24 = .ok (.if_icmp .gt 85, 3) := by decide +kernel
theorem dX0_worthOfLine_27 : decode cX0_worthOfLine 27 = .ok (.iload 7, 2) := by decide +kernel
theorem dX0_worthOfLine_29 : decode cX0_worthOfLine 29 = .ok (.iload_n 3, 1) := by decide +kernel
theorem dX0_worthOfLine_30 : decode cX0_worthOfLine 30 = .ok (.if_icmp .ge 13, 3) := by decide +kernel
theorem dX0_worthOfLine_33 : decode cX0_worthOfLine 33 = .ok (.aload_n 0, 1) := by decide +kernel
theorem dX0_worthOfLine_34 : decode cX0_worthOfLine 34 = .ok (.iload_n 1, 1) := by decide +kernel
theorem dX0_worthOfLine_35 : decode cX0_worthOfLine 35 = .ok (.iload 7, 2) := by decide +kernel
theorem dX0_worthOfLine_37 : decode cX0_worthOfLine 37 = .ok (.invokevirtual 68, 3) := by decide +kernel
theorem dX0_worthOfLine_40 : decode cX0_worthOfLine 40 = .ok (.goto 4, 3) := by decide +kernel
theorem dX0_worthOfLine_43 : decode cX0_worthOfLine 43 = .ok (.iload_n 2, 1) := by decide +kernel
theorem dX0_worthOfLine_44 : decode cX0_worthOfLine 44 = .ok (.istore 8, 2) := by decide +kernel
theorem dX0_worthOfLine_46 : decode cX0_worthOfLine 46 = .ok (.iload 8, 2) := by decide +kernel
theorem dX0_worthOfLine_48 : decode cX0_worthOfLine 48 = .ok (.iconst (-1), 1) := by decide +kernel
theorem dX0_worthOfLine_49 : decode cX0_worthOfLine 49 = .ok (.if_icmp .eq 54, 3) := by decide +kernel
theorem dX0_worthOfLine_52 : decode cX0_worthOfLine 52 = .ok (.iload 4, 2) := by decide +kernel
theorem dX0_worthOfLine_54 : decode cX0_worthOfLine 54 = .ok (.iload 8, 2) := by decide +kernel
theorem dX0_worthOfLine_56 : decode cX0_worthOfLine 56 = .ok (.invokestatic 94, 3) := by decide +kernel
theorem dX0_worthOfLine_59 : decode cX0_worthOfLine 59 = .ok (.iadd, 1) := by decide +kernel
theorem dX0_worthOfLine_60 : decode cX0_worthOfLine 60 = .ok (.istore 4, 2) := by decide +kernel
theorem dX0_worthOfLine_62 : decode cX0_worthOfLine 62 = .ok (.iload 5, 2) := by decide +kernel
theorem dX0_worthOfLine_64 : decode cX0_worthOfLine 64 = .ok (.ifCond .ne 11, 3) := by decide +kernel
theorem dX0_worthOfLine_67 : decode cX0_worthOfLine 67 = .ok (.iload 8, 2) := by decide +kernel
theorem dX0_worthOfLine_69 : decode cX0_worthOfLine 69 = .ok (.invokestatic 101, 3) := by decide +kernel
theorem dX0_worthOfLine_72 : decode cX0_worthOfLine 72 = .ok (.ifCond .ne 7, 3) := by decide +kernel
theorem dX0_worthOfLine_75 : decode cX0_worthOfLine 75 = .ok (.iconst 1, 1) := by decide +kernel
theorem dX0_worthOfLine_76 : decode cX0_worthOfLine 76 = .ok (.goto 4, 3) := by decide +kernel
theorem dX0_worthOfLine_79 : decode cX0_worthOfLine 79 = .ok (.iconst 0, 1) := by decide +kernel
theorem dX0_worthOfLine_80 : decode cX0_worthOfLine 80 = .ok (.istore 5, 2) := by decide +kernel
theorem dX0_worthOfLine_82 : decode cX0_worthOfLine 82 = .ok (.iload 6, 2) := by decide +kernel
theorem dX0_worthOfLine_84 : decode cX0_worthOfLine 84 = .ok (.ifCond .ne 12, 3) := by decide +kernel
theorem dX0_worthOfLine_87 : decode cX0_worthOfLine 87 = .ok (.iload 8, 2) := by decide +kernel
theorem dX0_worthOfLine_89 : decode cX0_worthOfLine 89 = .ok (.invokestatic 101, 3) := by decide +kernel
theorem dX0_worthOfLine_92 : decode cX0_worthOfLine 92 = .ok (.iconst 1, 1) := by decide +kernel
theorem dX0_worthOfLine_93 : decode cX0_worthOfLine 93 = .ok (.if_icmp .ne 7, 3) := by decide +kernel
theorem dX0_worthOfLine_96 : decode cX0_worthOfLine 96 = .ok (.iconst 1, 1) := by decide +kernel
theorem dX0_worthOfLine_97 : decode cX0_worthOfLine 97 = .ok (.goto 4, 3) := by decide +kernel
theorem dX0_worthOfLine_100 : decode cX0_worthOfLine 100 = .ok (.iconst 0, 1) := by decide +kernel
theorem dX0_worthOfLine_101 : decode cX0_worthOfLine 101 = .ok (.istore 6, 2) := by decide +kernel
theorem dX0_worthOfLine_103 : decode cX0_worthOfLine 103 = .ok (.iinc 7 1, 3) := by decide +kernel
theorem dX0_worthOfLine_106 : decode cX0_worthOfLine 106 = .ok (.goto (-85), 3) := by decide +kernel
theorem dX0_worthOfLine_109 : decode cX0_worthOfLine 109 = .ok (.iload 4, 2) := by decide +kernel
theorem dX0_worthOfLine_111 : decode cX0_worthOfLine 111 = .ok (.iload 5, 2) := by decide +kernel
theorem dX0_worthOfLine_113 : decode cX0_worthOfLine 113 = .ok (.ifCond .eq 12, 3) := by decide +kernel
theorem dX0_worthOfLine_116 : decode cX0_worthOfLine 116 = .ok (.iload 6, 2) := by decide +kernel
theorem dX0_worthOfLine_118 : decode cX0_worthOfLine 118 = .ok (.ifCond .eq 7, 3) := by decide +kernel
theorem dX0_worthOfLine_121 : decode cX0_worthOfLine 121 = .ok (.iconst 5, 1) := by decide +kernel
theorem dX0_worthOfLine_122 : decode cX0_worthOfLine 122 = .ok (.goto 4, 3) := by decide +kernel
theorem dX0_worthOfLine_125 : decode cX0_worthOfLine 125 = .ok (.iconst 0, 1) := by decide +kernel
theorem dX0_worthOfLine_126 : decode cX0_worthOfLine 126 = .ok (.iadd, 1) := by decide +kernel
theorem dX0_worthOfLine_127 : decode cX0_worthOfLine 127 = .ok (.iload 4, 2) := by decide +kernel
theorem dX0_worthOfLine_129 : decode cX0_worthOfLine 129 = .ok (.bipush 8, 2) := by decide +kernel
theorem dX0_worthOfLine_131 : decode cX0_worthOfLine 131 = .ok (.if_icmp .ne 7, 3) := by decide +kernel
theorem dX0_worthOfLine_134 : decode cX0_worthOfLine 134 = .ok (.iconst 3, 1) := by decide +kernel
theorem dX0_worthOfLine_135 : decode cX0_worthOfLine 135 = .ok (.goto 4, 3) := by decide +kernel
theorem dX0_worthOfLine_138 : decode cX0_worthOfLine 138 = .ok (.iconst 0, 1) := by decide +kernel
theorem dX0_worthOfLine_139 : decode cX0_worthOfLine 139 = .ok (.iadd, 1) := by decide +kernel
theorem dX0_worthOfLine_140 : decode cX0_worthOfLine 140 = .ok (.ireturn, 1) := by decide +kernel
theorem dX0_endingOn_0 : decode cX0_endingOn 0 = .ok (.aload_n 0, 1) := by decide +kernel
theorem dX0_endingOn_1 : decode cX0_endingOn 1 = .ok (.getfield 21, 3) := by decide +kernel
theorem dX0_endingOn_4 : decode cX0_endingOn 4 = .ok (.iload_n 1, 1) := by decide +kernel
theorem dX0_endingOn_5 : decode cX0_endingOn 5 = .ok (.invokestatic 64, 3) := by decide +kernel
theorem dX0_endingOn_8 : decode cX0_endingOn 8 = .ok (.istore_n 2, 1) := by decide +kernel
theorem dX0_endingOn_9 : decode cX0_endingOn 9 = .ok (.iload_n 2, 1) := by decide +kernel
theorem dX0_endingOn_10 : decode cX0_endingOn 10 = .ok (.iconst (-1), 1) := by decide +kernel
theorem dX0_endingOn_11 : decode cX0_endingOn 11 = .ok (.if_icmp .ne 7, 3) := by decide +kernel
theorem dX0_endingOn_14 : decode cX0_endingOn 14 = .ok (.iload_n 1, 1) := by decide +kernel
theorem dX0_endingOn_15 : decode cX0_endingOn 15 = .ok (.goto 4, 3) := by decide +kernel
theorem dX0_endingOn_18 : decode cX0_endingOn 18 = .ok (.iload_n 2, 1) := by decide +kernel
theorem dX0_endingOn_19 : decode cX0_endingOn 19 = .ok (.istore_n 3, 1) := by decide +kernel
theorem dX0_endingOn_20 : decode cX0_endingOn 20 = .ok (.aload_n 0, 1) := by decide +kernel
theorem dX0_endingOn_21 : decode cX0_endingOn 21 = .ok (.iload_n 3, 1) := by decide +kernel
theorem dX0_endingOn_22 : decode cX0_endingOn 22 = .ok (.aload_n 0, 1) := by decide +kernel
theorem dX0_endingOn_23 : decode cX0_endingOn 23 = .ok (.getfield 18, 3) := by decide +kernel
theorem dX0_endingOn_26 : decode cX0_endingOn 26 = .ok (.iload_n 3, 1) := by decide +kernel
theorem dX0_endingOn_27 : decode cX0_endingOn 27 = .ok (.invokestatic 64, 3) := by decide +kernel
theorem dX0_endingOn_30 : decode cX0_endingOn 30 = .ok (.iconst 1, 1) := by decide +kernel
theorem dX0_endingOn_31 : decode cX0_endingOn 31 = .ok (.isub, 1) := by decide +kernel
theorem dX0_endingOn_32 : decode cX0_endingOn 32 = .ok (.invokevirtual 68, 3) := by decide +kernel
theorem dX0_endingOn_35 : decode cX0_endingOn 35 = .ok (.istore 4, 2) := by decide +kernel
theorem dX0_endingOn_37 : decode cX0_endingOn 37 = .ok (.iload 4, 2) := by decide +kernel
theorem dX0_endingOn_39 : decode cX0_endingOn 39 = .ok (.iconst (-1), 1) := by decide +kernel
theorem dX0_endingOn_40 : decode cX0_endingOn 40 = .ok (.if_icmp .ne 7, 3) := by decide +kernel
theorem dX0_endingOn_43 : decode cX0_endingOn 43 = .ok (.iconst (-1), 1) := by decide +kernel
theorem dX0_endingOn_44 : decode cX0_endingOn 44 = .ok (.goto 8, 3) := by decide +kernel
theorem dX0_endingOn_47 : decode cX0_endingOn 47 = .ok (.iload 4, 2) := by decide +kernel
theorem dX0_endingOn_49 : decode cX0_endingOn 49 = .ok (.invokestatic 108, 3) := by decide +kernel
theorem dX0_endingOn_52 : decode cX0_endingOn 52 = .ok (.ireturn, 1) := by decide +kernel
theorem dX0_rhymesOf_0 : decode cX0_rhymesOf 0 = .ok (.iload_n 2, 1) := by decide +kernel
theorem dX0_rhymesOf_1 : decode cX0_rhymesOf 1 = .ok (.iconst (-1), 1) := by decide +kernel
theorem dX0_rhymesOf_2 : decode cX0_rhymesOf 2 = .ok (.if_icmp .ne 5, 3) := by decide +kernel
theorem dX0_rhymesOf_5 : decode cX0_rhymesOf 5 = .ok (.iconst 0, 1) := by decide +kernel
theorem dX0_rhymesOf_6 : decode cX0_rhymesOf 6 = .ok (.ireturn, 1) := by decide +kernel
theorem dX0_rhymesOf_7 : decode cX0_rhymesOf 7 = .ok (.iload_n 1, 1) := by decide +kernel
theorem dX0_rhymesOf_8 : decode cX0_rhymesOf 8 = .ok (.iconst 4, 1) := by decide +kernel
theorem dX0_rhymesOf_9 : decode cX0_rhymesOf 9 = .ok (.idiv, 1) := by decide +kernel
theorem dX0_rhymesOf_10 : decode cX0_rhymesOf 10 = .ok (.istore_n 3, 1) := by decide +kernel
theorem dX0_rhymesOf_11 : decode cX0_rhymesOf 11 = .ok (.iconst 0, 1) := by decide +kernel
theorem dX0_rhymesOf_12 : decode cX0_rhymesOf 12 = .ok (.istore 4, 2) := by decide +kernel
theorem dX0_rhymesOf_14 : decode cX0_rhymesOf 14 = .ok (.iconst 0, 1) := by decide +kernel
theorem dX0_rhymesOf_15 : decode cX0_rhymesOf 15 = .ok (.istore 5, 2) := by decide +kernel
theorem dX0_rhymesOf_17 : decode cX0_rhymesOf 17 = .ok (.iload 5, 2) := by decide +kernel
theorem dX0_rhymesOf_19 : decode cX0_rhymesOf 19 = .ok (.iconst 4, 1) := by decide +kernel
theorem dX0_rhymesOf_20 : decode cX0_rhymesOf 20 = .ok (.if_icmp .ge 36, 3) := by decide +kernel
theorem dX0_rhymesOf_23 : decode cX0_rhymesOf 23 = .ok (.iload_n 3, 1) := by decide +kernel
theorem dX0_rhymesOf_24 : decode cX0_rhymesOf 24 = .ok (.iload 5, 2) := by decide +kernel
theorem dX0_rhymesOf_26 : decode cX0_rhymesOf 26 = .ok (.invokestatic 72, 3) := by decide +kernel
theorem dX0_rhymesOf_29 : decode cX0_rhymesOf 29 = .ok (.istore 6, 2) := by decide +kernel
theorem dX0_rhymesOf_31 : decode cX0_rhymesOf 31 = .ok (.iload 6, 2) := by decide +kernel
theorem dX0_rhymesOf_33 : decode cX0_rhymesOf 33 = .ok (.iload_n 1, 1) := by decide +kernel
theorem dX0_rhymesOf_34 : decode cX0_rhymesOf 34 = .ok (.if_icmp .eq 16, 3) := by decide +kernel
theorem dX0_rhymesOf_37 : decode cX0_rhymesOf 37 = .ok (.aload_n 0, 1) := by decide +kernel
theorem dX0_rhymesOf_38 : decode cX0_rhymesOf 38 = .ok (.iload 6, 2) := by decide +kernel
theorem dX0_rhymesOf_40 : decode cX0_rhymesOf 40 = .ok (.invokevirtual 111, 3) := by decide +kernel
theorem dX0_rhymesOf_43 : decode cX0_rhymesOf 43 = .ok (.iload_n 2, 1) := by decide +kernel
theorem dX0_rhymesOf_44 : decode cX0_rhymesOf 44 = .ok (.if_icmp .ne 6, 3) := by decide +kernel
theorem dX0_rhymesOf_47 : decode cX0_rhymesOf 47 = .ok (.iinc 4 1, 3) := by decide +kernel
theorem dX0_rhymesOf_50 : decode cX0_rhymesOf 50 = .ok (.iinc 5 1, 3) := by decide +kernel
theorem dX0_rhymesOf_53 : decode cX0_rhymesOf 53 = .ok (.goto (-36), 3) := by decide +kernel
theorem dX0_rhymesOf_56 : decode cX0_rhymesOf 56 = .ok (.iload 4, 2) := by decide +kernel
theorem dX0_rhymesOf_58 : decode cX0_rhymesOf 58 = .ok (.ireturn, 1) := by decide +kernel
theorem dX0_rhymesOfDoor_0 : decode cX0_rhymesOfDoor 0 = .ok (.iconst 0, 1) := by decide +kernel
theorem dX0_rhymesOfDoor_1 : decode cX0_rhymesOfDoor 1 = .ok (.istore_n 2, 1) := by decide +kernel
theorem dX0_rhymesOfDoor_2 : decode cX0_rhymesOfDoor 2 = .ok (.iconst 1, 1) := by decide +kernel
theorem dX0_rhymesOfDoor_3 : decode cX0_rhymesOfDoor 3 = .ok (.istore_n 3, 1) := by decide +kernel
theorem dX0_rhymesOfDoor_4 : decode cX0_rhymesOfDoor 4 = .ok (.iload_n 3, 1) := by decide +kernel
theorem dX0_rhymesOfDoor_5 : decode cX0_rhymesOfDoor 5 = .ok (.iconst 4, 1) := by decide +kernel
theorem dX0_rhymesOfDoor_6 : decode cX0_rhymesOfDoor 6 = .ok (.if_icmp .ge 59, 3) := by decide +kernel
theorem dX0_rhymesOfDoor_9 : decode cX0_rhymesOfDoor 9 = .ok (.aload_n 0, 1) := by decide +kernel
theorem dX0_rhymesOfDoor_10 : decode cX0_rhymesOfDoor 10 = .ok (.iload_n 1, 1) := by decide +kernel
theorem dX0_rhymesOfDoor_11 : decode cX0_rhymesOfDoor 11 = .ok (.iload_n 3, 1) := by decide +kernel
theorem dX0_rhymesOfDoor_12 : decode cX0_rhymesOfDoor 12 = .ok (.invokestatic 72, 3) := by decide +kernel
theorem dX0_rhymesOfDoor_15 : decode cX0_rhymesOfDoor 15 = .ok (.invokevirtual 111, 3) := by decide +kernel
theorem dX0_rhymesOfDoor_18 : decode cX0_rhymesOfDoor 18 = .ok (.istore 4, 2) := by decide +kernel
theorem dX0_rhymesOfDoor_20 : decode cX0_rhymesOfDoor 20 = .ok (.iconst 0, 1) := by decide +kernel
theorem dX0_rhymesOfDoor_21 : decode cX0_rhymesOfDoor 21 = .ok (.istore 5, 2) := by decide +kernel
theorem dX0_rhymesOfDoor_23 : decode cX0_rhymesOfDoor 23 = .ok (.iload 5, 2) := by decide +kernel
theorem dX0_rhymesOfDoor_25 : decode cX0_rhymesOfDoor 25 = .ok (.iload_n 3, 1) := by decide +kernel
theorem dX0_rhymesOfDoor_26 : decode cX0_rhymesOfDoor 26 = .ok (.if_icmp .ge 33, 3) := by decide +kernel
theorem dX0_rhymesOfDoor_29 : decode cX0_rhymesOfDoor 29 = .ok (.iload 4, 2) := by decide +kernel
theorem dX0_rhymesOfDoor_31 : decode cX0_rhymesOfDoor 31 = .ok (.iconst (-1), 1) := by decide +kernel
theorem dX0_rhymesOfDoor_32 : decode cX0_rhymesOfDoor 32 = .ok (.if_icmp .eq 27, 3) := by decide +kernel
theorem dX0_rhymesOfDoor_35 : decode cX0_rhymesOfDoor 35 = .ok (.aload_n 0, 1) := by decide +kernel
theorem dX0_rhymesOfDoor_36 : decode cX0_rhymesOfDoor 36 = .ok (.iload_n 1, 1) := by decide +kernel
theorem dX0_rhymesOfDoor_37 : decode cX0_rhymesOfDoor 37 = .ok (.iload 5, 2) := by decide +kernel
theorem dX0_rhymesOfDoor_39 : decode cX0_rhymesOfDoor 39 = .ok (.invokestatic 72, 3) := by decide +kernel
theorem dX0_rhymesOfDoor_42 : decode cX0_rhymesOfDoor 42 = .ok (.invokevirtual 111, 3) := by decide +kernel
theorem dX0_rhymesOfDoor_45 : decode cX0_rhymesOfDoor 45 = .ok (.iload 4, 2) := by decide +kernel
theorem dX0_rhymesOfDoor_47 : decode cX0_rhymesOfDoor 47 = .ok (.if_icmp .ne 6, 3) := by decide +kernel
theorem dX0_rhymesOfDoor_50 : decode cX0_rhymesOfDoor 50 = .ok (.iinc 2 1, 3) := by decide +kernel
theorem dX0_rhymesOfDoor_53 : decode cX0_rhymesOfDoor 53 = .ok (.iinc 5 1, 3) := by decide +kernel
theorem dX0_rhymesOfDoor_56 : decode cX0_rhymesOfDoor 56 = .ok (.goto (-33), 3) := by decide +kernel
theorem dX0_rhymesOfDoor_59 : decode cX0_rhymesOfDoor 59 = .ok (.iinc 3 1, 3) := by decide +kernel
theorem dX0_rhymesOfDoor_62 : decode cX0_rhymesOfDoor 62 = .ok (.goto (-58), 3) := by decide +kernel
theorem dX0_rhymesOfDoor_65 : decode cX0_rhymesOfDoor 65 = .ok (.iload_n 2, 1) := by decide +kernel
theorem dX0_rhymesOfDoor_66 : decode cX0_rhymesOfDoor 66 = .ok (.ireturn, 1) := by decide +kernel
theorem dX0_worthOfDoor_0 : decode cX0_worthOfDoor 0 = .ok (.iconst 4, 1) := by decide +kernel
theorem dX0_worthOfDoor_1 : decode cX0_worthOfDoor 1 = .ok (.aload_n 0, 1) := by decide +kernel
theorem dX0_worthOfDoor_2 : decode cX0_worthOfDoor 2 = .ok (.iload_n 1, 1) := by decide +kernel
theorem dX0_worthOfDoor_3 : decode cX0_worthOfDoor 3 = .ok (.invokevirtual 114, 3) := by decide +kernel
theorem dX0_worthOfDoor_6 : decode cX0_worthOfDoor 6 = .ok (.imul, 1) := by decide +kernel
theorem dX0_worthOfDoor_7 : decode cX0_worthOfDoor 7 = .ok (.istore_n 2, 1) := by decide +kernel
theorem dX0_worthOfDoor_8 : decode cX0_worthOfDoor 8 = .ok (.iconst 0, 1) := by decide +kernel
theorem dX0_worthOfDoor_9 : decode cX0_worthOfDoor 9 = .ok (.istore_n 3, 1) := by decide +kernel
theorem dX0_worthOfDoor_10 : decode cX0_worthOfDoor 10 = .ok (.iload_n 3, 1) := by decide +kernel
theorem dX0_worthOfDoor_11 : decode cX0_worthOfDoor 11 = .ok (.iconst 4, 1) := by decide +kernel
theorem dX0_worthOfDoor_12 : decode cX0_worthOfDoor 12 = .ok (.if_icmp .ge 22, 3) := by decide +kernel
theorem dX0_worthOfDoor_15 : decode cX0_worthOfDoor 15 = .ok (.iload_n 2, 1) := by decide +kernel
theorem dX0_worthOfDoor_16 : decode cX0_worthOfDoor 16 = .ok (.aload_n 0, 1) := by decide +kernel
theorem dX0_worthOfDoor_17 : decode cX0_worthOfDoor 17 = .ok (.iload_n 1, 1) := by decide +kernel
theorem dX0_worthOfDoor_18 : decode cX0_worthOfDoor 18 = .ok (.iload_n 3, 1) := by decide +kernel
theorem dX0_worthOfDoor_19 : decode cX0_worthOfDoor 19 = .ok (.invokestatic 72, 3) := by decide +kernel
theorem dX0_worthOfDoor_22 : decode cX0_worthOfDoor 22 = .ok (.iconst (-1), 1) := by decide +kernel
theorem dX0_worthOfDoor_23 : decode cX0_worthOfDoor 23 = .ok (.invokevirtual 117, 3) := by decide +kernel
theorem dX0_worthOfDoor_26 : decode cX0_worthOfDoor 26 = .ok (.iadd, 1) := by decide +kernel
theorem dX0_worthOfDoor_27 : decode cX0_worthOfDoor 27 = .ok (.istore_n 2, 1) := by decide +kernel
theorem dX0_worthOfDoor_28 : decode cX0_worthOfDoor 28 = .ok (.iinc 3 1, 3) := by decide +kernel
theorem dX0_worthOfDoor_31 : decode cX0_worthOfDoor 31 = .ok (.goto (-21), 3) := by decide +kernel
theorem dX0_worthOfDoor_34 : decode cX0_worthOfDoor 34 = .ok (.iload_n 2, 1) := by decide +kernel
theorem dX0_worthOfDoor_35 : decode cX0_worthOfDoor 35 = .ok (.ireturn, 1) := by decide +kernel
theorem dX0_worthOfAll_0 : decode cX0_worthOfAll 0 = .ok (.iconst 0, 1) := by decide +kernel
theorem dX0_worthOfAll_1 : decode cX0_worthOfAll 1 = .ok (.istore_n 1, 1) := by decide +kernel
theorem dX0_worthOfAll_2 : decode cX0_worthOfAll 2 = .ok (.iconst 0, 1) := by decide +kernel
theorem dX0_worthOfAll_3 : decode cX0_worthOfAll 3 = .ok (.istore_n 2, 1) := by decide +kernel
theorem dX0_worthOfAll_4 : decode cX0_worthOfAll 4 = .ok (.iload_n 2, 1) := by decide +kernel
theorem dX0_worthOfAll_5 : decode cX0_worthOfAll 5 = .ok (.iconst 4, 1) := by decide +kernel
theorem dX0_worthOfAll_6 : decode cX0_worthOfAll 6 = .ok (.if_icmp .ge 17, 3) := by decide +kernel
theorem dX0_worthOfAll_9 : decode cX0_worthOfAll 9 = .ok (.iload_n 1, 1) := by decide +kernel
theorem dX0_worthOfAll_10 : decode cX0_worthOfAll 10 = .ok (.aload_n 0, 1) := by decide +kernel
theorem dX0_worthOfAll_11 : decode cX0_worthOfAll 11 = .ok (.iload_n 2, 1) := by decide +kernel
theorem dX0_worthOfAll_12 : decode cX0_worthOfAll 12 = .ok (.invokevirtual 120, 3) := by decide +kernel
theorem dX0_worthOfAll_15 : decode cX0_worthOfAll 15 = .ok (.iadd, 1) := by decide +kernel
theorem dX0_worthOfAll_16 : decode cX0_worthOfAll 16 = .ok (.istore_n 1, 1) := by decide +kernel
theorem dX0_worthOfAll_17 : decode cX0_worthOfAll 17 = .ok (.iinc 2 1, 3) := by decide +kernel
theorem dX0_worthOfAll_20 : decode cX0_worthOfAll 20 = .ok (.goto (-16), 3) := by decide +kernel
theorem dX0_worthOfAll_23 : decode cX0_worthOfAll 23 = .ok (.iload_n 1, 1) := by decide +kernel
theorem dX0_worthOfAll_24 : decode cX0_worthOfAll 24 = .ok (.ireturn, 1) := by decide +kernel
theorem dX0_bestWordFor_0 : decode cX0_bestWordFor 0 = .ok (.iconst (-1), 1) := by decide +kernel
theorem dX0_bestWordFor_1 : decode cX0_bestWordFor 1 = .ok (.istore_n 2, 1) := by decide +kernel
theorem dX0_bestWordFor_2 : decode cX0_bestWordFor 2 = .ok (.iconst (-1), 1) := by decide +kernel
theorem dX0_bestWordFor_3 : decode cX0_bestWordFor 3 = .ok (.istore_n 3, 1) := by decide +kernel
theorem dX0_bestWordFor_4 : decode cX0_bestWordFor 4 = .ok (.aload_n 0, 1) := by decide +kernel
theorem dX0_bestWordFor_5 : decode cX0_bestWordFor 5 = .ok (.getfield 18, 3) := by decide +kernel
theorem dX0_bestWordFor_8 : decode cX0_bestWordFor 8 = .ok (.iload_n 1, 1) := by decide +kernel
theorem dX0_bestWordFor_9 : decode cX0_bestWordFor 9 = .ok (.invokestatic 64, 3) := by decide +kernel
theorem dX0_bestWordFor_12 : decode cX0_bestWordFor 12 = .ok (.istore 4, 2) := by decide +kernel
theorem dX0_bestWordFor_14 : decode cX0_bestWordFor 14 = .ok (.iconst 0, 1) := by decide +kernel
theorem dX0_bestWordFor_15 : decode cX0_bestWordFor 15 = .ok (.istore 5, 2) := by decide +kernel
theorem dX0_bestWordFor_17 : decode cX0_bestWordFor 17 = .ok (.iload 5, 2) := by decide +kernel
theorem dX0_bestWordFor_19 : decode cX0_bestWordFor 19 = .ok (.aload_n 0, 1) := by decide +kernel
theorem dX0_bestWordFor_20 : decode cX0_bestWordFor 20 = .ok (.getfield 9, 3) := by decide +kernel
theorem dX0_bestWordFor_23 : decode cX0_bestWordFor 23 = .ok (.arraylength, 1) := by decide +kernel
theorem dX0_bestWordFor_24 : decode cX0_bestWordFor 24 = .ok (.if_icmp .ge 66, 3) := by decide +kernel
theorem dX0_bestWordFor_27 : decode cX0_bestWordFor 27 = .ok (.aload_n 0, 1) := by decide +kernel
theorem dX0_bestWordFor_28 : decode cX0_bestWordFor 28 = .ok (.getfield 9, 3) := by decide +kernel
theorem dX0_bestWordFor_31 : decode cX0_bestWordFor 31 = .ok (.iload 5, 2) := by decide +kernel
theorem dX0_bestWordFor_33 : decode cX0_bestWordFor 33 = .ok (.iaload, 1) := by decide +kernel
theorem dX0_bestWordFor_34 : decode cX0_bestWordFor 34 = .ok (.iconst (-1), 1) := by decide +kernel
theorem dX0_bestWordFor_35 : decode cX0_bestWordFor 35 = .ok (.if_icmp .ne 49, 3) := by decide +kernel
theorem dX0_bestWordFor_38 : decode cX0_bestWordFor 38 = .ok (.aload_n 0, 1) := by decide +kernel
theorem dX0_bestWordFor_39 : decode cX0_bestWordFor 39 = .ok (.iload 5, 2) := by decide +kernel
theorem dX0_bestWordFor_41 : decode cX0_bestWordFor 41 = .ok (.iload_n 1, 1) := by decide +kernel
theorem dX0_bestWordFor_42 : decode cX0_bestWordFor 42 = .ok (.iload 4, 2) := by decide +kernel
theorem dX0_bestWordFor_44 : decode cX0_bestWordFor 44 = .ok (.invokevirtual 123, 3) := by decide +kernel
theorem dX0_bestWordFor_47 : decode cX0_bestWordFor 47 = .ok (.ifCond .ne 37, 3) := by decide +kernel
theorem dX0_bestWordFor_50 : decode cX0_bestWordFor 50 = .ok (.aload_n 0, 1) := by decide +kernel
theorem dX0_bestWordFor_51 : decode cX0_bestWordFor 51 = .ok (.iload_n 1, 1) := by decide +kernel
theorem dX0_bestWordFor_52 : decode cX0_bestWordFor 52 = .ok (.iload 5, 2) := by decide +kernel
theorem dX0_bestWordFor_54 : decode cX0_bestWordFor 54 = .ok (.invokevirtual 117, 3) := by decide +kernel
theorem dX0_bestWordFor_57 : decode cX0_bestWordFor 57 = .ok (.iconst 4, 1) := by decide +kernel
theorem dX0_bestWordFor_58 : decode cX0_bestWordFor 58 = .ok (.aload_n 0, 1) := by decide +kernel
theorem dX0_bestWordFor_59 : decode cX0_bestWordFor 59 = .ok (.iload_n 1, 1) := by decide +kernel
theorem dX0_bestWordFor_60 : decode cX0_bestWordFor 60 = .ok (.iload 5, 2) := by decide +kernel
theorem dX0_bestWordFor_62 : decode cX0_bestWordFor 62 = .ok (.invokestatic 108, 3) := by decide +kernel
theorem dX0_bestWordFor_65 : decode cX0_bestWordFor 65 = .ok (.invokevirtual 127, 3) := by decide +kernel
theorem dX0_bestWordFor_68 : decode cX0_bestWordFor 68 = .ok (.imul, 1) := by decide +kernel
theorem dX0_bestWordFor_69 : decode cX0_bestWordFor 69 = .ok (.iadd, 1) := by decide +kernel
theorem dX0_bestWordFor_70 : decode cX0_bestWordFor 70 = .ok (.istore 6, 2) := by decide +kernel
theorem dX0_bestWordFor_72 : decode cX0_bestWordFor 72 = .ok (.iload 6, 2) := by decide +kernel
theorem dX0_bestWordFor_74 : decode cX0_bestWordFor 74 = .ok (.iload_n 3, 1) := by decide +kernel
theorem dX0_bestWordFor_75 : decode cX0_bestWordFor 75 = .ok (.if_icmp .le 9, 3) := by decide +kernel
theorem dX0_bestWordFor_78 : decode cX0_bestWordFor 78 = .ok (.iload 5, 2) := by decide +kernel
theorem dX0_bestWordFor_80 : decode cX0_bestWordFor 80 = .ok (.istore_n 2, 1) := by decide +kernel
theorem dX0_bestWordFor_81 : decode cX0_bestWordFor 81 = .ok (.iload 6, 2) := by decide +kernel
theorem dX0_bestWordFor_83 : decode cX0_bestWordFor 83 = .ok (.istore_n 3, 1) := by decide +kernel
theorem dX0_bestWordFor_84 : decode cX0_bestWordFor 84 = .ok (.iinc 5 1, 3) := by decide +kernel
theorem dX0_bestWordFor_87 : decode cX0_bestWordFor 87 = .ok (.goto (-70), 3) := by decide +kernel
theorem dX0_bestWordFor_90 : decode cX0_bestWordFor 90 = .ok (.iload_n 2, 1) := by decide +kernel
theorem dX0_bestWordFor_91 : decode cX0_bestWordFor 91 = .ok (.ireturn, 1) := by decide +kernel
theorem dX0_borrows_0 : decode cX0_borrows 0 = .ok (.aload_n 0, 1) := by decide +kernel
theorem dX0_borrows_1 : decode cX0_borrows 1 = .ok (.getfield 21, 3) := by decide +kernel
theorem dX0_borrows_4 : decode cX0_borrows 4 = .ok (.iload_n 1, 1) := by decide +kernel
theorem dX0_borrows_5 : decode cX0_borrows 5 = .ok (.invokestatic 64, 3) := by decide +kernel
theorem dX0_borrows_8 : decode cX0_borrows 8 = .ok (.iconst (-1), 1) := by decide +kernel
theorem dX0_borrows_9 : decode cX0_borrows 9 = .ok (.if_icmp .eq 7, 3) := by decide +kernel
theorem dX0_borrows_12 : decode cX0_borrows 12 = .ok (.iconst 1, 1) := by decide +kernel
theorem dX0_borrows_13 : decode cX0_borrows 13 = .ok (.goto 4, 3) := by decide +kernel
theorem dX0_borrows_16 : decode cX0_borrows 16 = .ok (.iconst 0, 1) := by decide +kernel
theorem dX0_borrows_17 : decode cX0_borrows 17 = .ok (.ireturn, 1) := by decide +kernel
theorem dX0_isFreeForLoan_0 : decode cX0_isFreeForLoan 0 = .ok (.aload_n 0, 1) := by decide +kernel
theorem dX0_isFreeForLoan_1 : decode cX0_isFreeForLoan 1 = .ok (.getfield 18, 3) := by decide +kernel
theorem dX0_isFreeForLoan_4 : decode cX0_isFreeForLoan 4 = .ok (.iload_n 1, 1) := by decide +kernel
theorem dX0_isFreeForLoan_5 : decode cX0_isFreeForLoan 5 = .ok (.invokestatic 64, 3) := by decide +kernel
theorem dX0_isFreeForLoan_8 : decode cX0_isFreeForLoan 8 = .ok (.ifCond .le 31, 3) := by decide +kernel
theorem dX0_isFreeForLoan_11 : decode cX0_isFreeForLoan 11 = .ok (.aload_n 0, 1) := by decide +kernel
theorem dX0_isFreeForLoan_12 : decode cX0_isFreeForLoan 12 = .ok (.getfield 21, 3) := by decide +kernel
theorem dX0_isFreeForLoan_15 : decode cX0_isFreeForLoan 15 = .ok (.iload_n 1, 1) := by decide +kernel
theorem dX0_isFreeForLoan_16 : decode cX0_isFreeForLoan 16 = .ok (.invokestatic 64, 3) := by decide +kernel
theorem dX0_isFreeForLoan_19 : decode cX0_isFreeForLoan 19 = .ok (.iconst (-1), 1) := by decide +kernel
theorem dX0_isFreeForLoan_20 : decode cX0_isFreeForLoan 20 = .ok (.if_icmp .ne 19, 3) := by decide +kernel
theorem dX0_isFreeForLoan_23 : decode cX0_isFreeForLoan 23 = .ok (.aload_n 0, 1) := by decide +kernel
theorem dX0_isFreeForLoan_24 : decode cX0_isFreeForLoan 24 = .ok (.getfield 24, 3) := by decide +kernel
theorem dX0_isFreeForLoan_27 : decode cX0_isFreeForLoan 27 = .ok (.iload_n 1, 1) := by decide +kernel
theorem dX0_isFreeForLoan_28 : decode cX0_isFreeForLoan 28 = .ok (.invokestatic 64, 3) := by decide +kernel
theorem dX0_isFreeForLoan_31 : decode cX0_isFreeForLoan 31 = .ok (.iconst (-1), 1) := by decide +kernel
theorem dX0_isFreeForLoan_32 : decode cX0_isFreeForLoan 32 = .ok (.if_icmp .ne 7, 3) := by decide +kernel
theorem dX0_isFreeForLoan_35 : decode cX0_isFreeForLoan 35 = .ok (.iconst 1, 1) := by decide +kernel
theorem dX0_isFreeForLoan_36 : decode cX0_isFreeForLoan 36 = .ok (.goto 4, 3) := by decide +kernel
theorem dX0_isFreeForLoan_39 : decode cX0_isFreeForLoan 39 = .ok (.iconst 0, 1) := by decide +kernel
theorem dX0_isFreeForLoan_40 : decode cX0_isFreeForLoan 40 = .ok (.ireturn, 1) := by decide +kernel
theorem dX0_loans_0 : decode cX0_loans 0 = .ok (.iconst 0, 1) := by decide +kernel
theorem dX0_loans_1 : decode cX0_loans 1 = .ok (.istore_n 1, 1) := by decide +kernel
theorem dX0_loans_2 : decode cX0_loans 2 = .ok (.iconst 0, 1) := by decide +kernel
theorem dX0_loans_3 : decode cX0_loans 3 = .ok (.istore_n 2, 1) := by decide +kernel
theorem dX0_loans_4 : decode cX0_loans 4 = .ok (.iload_n 2, 1) := by decide +kernel
theorem dX0_loans_5 : decode cX0_loans 5 = .ok (.aload_n 0, 1) := by decide +kernel
theorem dX0_loans_6 : decode cX0_loans 6 = .ok (.getfield 21, 3) := by decide +kernel
theorem dX0_loans_9 : decode cX0_loans 9 = .ok (.arraylength, 1) := by decide +kernel
theorem dX0_loans_10 : decode cX0_loans 10 = .ok (.if_icmp .ge 22, 3) := by decide +kernel
theorem dX0_loans_13 : decode cX0_loans 13 = .ok (.aload_n 0, 1) := by decide +kernel
theorem dX0_loans_14 : decode cX0_loans 14 = .ok (.getfield 21, 3) := by decide +kernel
theorem dX0_loans_17 : decode cX0_loans 17 = .ok (.iload_n 2, 1) := by decide +kernel
theorem dX0_loans_18 : decode cX0_loans 18 = .ok (.iaload, 1) := by decide +kernel
theorem dX0_loans_19 : decode cX0_loans 19 = .ok (.iconst (-1), 1) := by decide +kernel
theorem dX0_loans_20 : decode cX0_loans 20 = .ok (.if_icmp .eq 6, 3) := by decide +kernel
theorem dX0_loans_23 : decode cX0_loans 23 = .ok (.iinc 1 1, 3) := by decide +kernel
theorem dX0_loans_26 : decode cX0_loans 26 = .ok (.iinc 2 1, 3) := by decide +kernel
theorem dX0_loans_29 : decode cX0_loans 29 = .ok (.goto (-25), 3) := by decide +kernel
theorem dX0_loans_32 : decode cX0_loans 32 = .ok (.iload_n 1, 1) := by decide +kernel
theorem dX0_loans_33 : decode cX0_loans 33 = .ok (.ireturn, 1) := by decide +kernel
theorem dX0_startLoan_0 : decode cX0_startLoan 0 = .ok (.aload_n 0, 1) := by decide +kernel
theorem dX0_startLoan_1 : decode cX0_startLoan 1 = .ok (.getfield 21, 3) := by decide +kernel
theorem dX0_startLoan_4 : decode cX0_startLoan 4 = .ok (.iload_n 1, 1) := by decide +kernel
theorem dX0_startLoan_5 : decode cX0_startLoan 5 = .ok (.iload_n 2, 1) := by decide +kernel
theorem dX0_startLoan_6 : decode cX0_startLoan 6 = .ok (.invokestatic 43, 3) := by decide +kernel
theorem dX0_startLoan_9 : decode cX0_startLoan 9 = .ok (.aload_n 0, 1) := by decide +kernel
theorem dX0_startLoan_10 : decode cX0_startLoan 10 = .ok (.getfield 24, 3) := by decide +kernel
theorem dX0_startLoan_13 : decode cX0_startLoan 13 = .ok (.iload_n 2, 1) := by decide +kernel
theorem dX0_startLoan_14 : decode cX0_startLoan 14 = .ok (.iload_n 1, 1) := by decide +kernel
theorem dX0_startLoan_15 : decode cX0_startLoan 15 = .ok (.invokestatic 43, 3) := by decide +kernel
theorem dX0_startLoan_18 : decode cX0_startLoan 18 = .ok (.return_, 1) := by decide +kernel
theorem dX0_endLoan_0 : decode cX0_endLoan 0 = .ok (.aload_n 0, 1) := by decide +kernel
theorem dX0_endLoan_1 : decode cX0_endLoan 1 = .ok (.getfield 21, 3) := by decide +kernel
theorem dX0_endLoan_4 : decode cX0_endLoan 4 = .ok (.iload_n 1, 1) := by decide +kernel
theorem dX0_endLoan_5 : decode cX0_endLoan 5 = .ok (.invokestatic 64, 3) := by decide +kernel
theorem dX0_endLoan_8 : decode cX0_endLoan 8 = .ok (.istore_n 2, 1) := by decide +kernel
theorem dX0_endLoan_9 : decode cX0_endLoan 9 = .ok (.aload_n 0, 1) := by decide +kernel
theorem dX0_endLoan_10 : decode cX0_endLoan 10 = .ok (.getfield 21, 3) := by decide +kernel
theorem dX0_endLoan_13 : decode cX0_endLoan 13 = .ok (.iload_n 1, 1) := by decide +kernel
theorem dX0_endLoan_14 : decode cX0_endLoan 14 = .ok (.iconst (-1), 1) := by decide +kernel
theorem dX0_endLoan_15 : decode cX0_endLoan 15 = .ok (.invokestatic 43, 3) := by decide +kernel
theorem dX0_endLoan_18 : decode cX0_endLoan 18 = .ok (.aload_n 0, 1) := by decide +kernel
theorem dX0_endLoan_19 : decode cX0_endLoan 19 = .ok (.getfield 24, 3) := by decide +kernel
theorem dX0_endLoan_22 : decode cX0_endLoan 22 = .ok (.iload_n 2, 1) := by decide +kernel
theorem dX0_endLoan_23 : decode cX0_endLoan 23 = .ok (.iconst (-1), 1) := by decide +kernel
theorem dX0_endLoan_24 : decode cX0_endLoan 24 = .ok (.invokestatic 43, 3) := by decide +kernel
theorem dX0_endLoan_27 : decode cX0_endLoan 27 = .ok (.return_, 1) := by decide +kernel
theorem dX0_endLoansOf_0 : decode cX0_endLoansOf 0 = .ok (.aload_n 0, 1) := by decide +kernel
theorem dX0_endLoansOf_1 : decode cX0_endLoansOf 1 = .ok (.iload_n 1, 1) := by decide +kernel
theorem dX0_endLoansOf_2 : decode cX0_endLoansOf 2 = .ok (.invokevirtual 130, 3) := by decide +kernel
theorem dX0_endLoansOf_5 : decode cX0_endLoansOf 5 = .ok (.iload_n 2, 1) := by decide +kernel
theorem dX0_endLoansOf_6 : decode cX0_endLoansOf 6 = .ok (.ifCond .eq 15, 3) := by decide +kernel
theorem dX0_endLoansOf_9 : decode cX0_endLoansOf 9 = .ok (.aload_n 0, 1) := by decide +kernel
theorem dX0_endLoansOf_10 : decode cX0_endLoansOf 10 = .ok (.aload_n 0, 1) := by decide +kernel
theorem dX0_endLoansOf_11 : decode cX0_endLoansOf 11 = .ok (.getfield 24, 3) := by decide +kernel
theorem dX0_endLoansOf_14 : decode cX0_endLoansOf 14 = .ok (.iload_n 1, 1) := by decide +kernel
theorem dX0_endLoansOf_15 : decode cX0_endLoansOf 15 = .ok (.invokestatic 64, 3) := by decide +kernel
theorem dX0_endLoansOf_18 : decode cX0_endLoansOf 18 = .ok (.invokevirtual 130, 3) := by decide +kernel
theorem dX0_endLoansOf_21 : decode cX0_endLoansOf 21 = .ok (.return_, 1) := by decide +kernel
theorem dX0_passNights_0 : decode cX0_passNights 0 = .ok (.aload_n 0, 1) := by decide +kernel
theorem dX0_passNights_1 : decode cX0_passNights 1 = .ok (.getfield 55, 3) := by decide +kernel
theorem dX0_passNights_4 : decode cX0_passNights 4 = .ok (.istore_n 2, 1) := by decide +kernel
theorem dX0_passNights_5 : decode cX0_passNights 5 = .ok (.iconst 0, 1) := by decide +kernel
theorem dX0_passNights_6 : decode cX0_passNights 6 = .ok (.istore_n 3, 1) := by decide +kernel
theorem dX0_passNights_7 : decode cX0_passNights 7 = .ok (.iload_n 3, 1) := by decide +kernel
theorem dX0_passNights_8 : decode cX0_passNights 8 = .ok (.iload_n 1, 1) := by decide +kernel
theorem dX0_passNights_9 : decode cX0_passNights 9 = .ok (.if_icmp .ge 47, 3) := by decide +kernel
theorem dX0_passNights_12 : decode cX0_passNights 12 = .ok (.aload_n 0, 1) := by decide +kernel
theorem dX0_passNights_13 : decode cX0_passNights 13 = .ok (.invokevirtual 133, 3) := by decide +kernel
theorem dX0_passNights_16 : decode cX0_passNights 16 = .ok (.istore 4, 2) := by decide +kernel
theorem dX0_passNights_18 : decode cX0_passNights 18 = .ok (.aload_n 0, 1) := by decide +kernel
theorem dX0_passNights_19 : decode cX0_passNights 19 = .ok (.dup, 1) := by decide +kernel
theorem dX0_passNights_20 : decode cX0_passNights 20 = .ok (.getfield 51, 3) := by decide +kernel
theorem dX0_passNights_23 : decode cX0_passNights 23 = .ok (.iconst 1, 1) := by decide +kernel
theorem dX0_passNights_24 : decode cX0_passNights 24 = .ok (.iadd, 1) := by decide +kernel
theorem dX0_passNights_25 : decode cX0_passNights 25 = .ok (.putfield 51, 3) := by decide +kernel
theorem dX0_passNights_28 : decode cX0_passNights 28 = .ok (.aload_n 0, 1) := by decide +kernel
theorem dX0_passNights_29 : decode cX0_passNights 29 = .ok (.invokevirtual 137, 3) := by decide +kernel
theorem dX0_passNights_32 : decode cX0_passNights 32 = .ok (.iload 4, 2) := by decide +kernel
theorem dX0_passNights_34 : decode cX0_passNights 34 = .ok (.iconst (-1), 1) := by decide +kernel
theorem dX0_passNights_35 : decode cX0_passNights 35 = .ok (.if_icmp .eq 15, 3) := by decide +kernel
theorem dX0_passNights_38 : decode cX0_passNights 38 = .ok (.aload_n 0, 1) := by decide +kernel
theorem dX0_passNights_39 : decode cX0_passNights 39 = .ok (.aload_n 0, 1) := by decide +kernel
theorem dX0_passNights_40 : decode cX0_passNights 40 = .ok (.iload 4, 2) := by decide +kernel
theorem dX0_passNights_42 : decode cX0_passNights 42 = .ok (.invokevirtual 140, 3) := by decide +kernel
theorem dX0_passNights_45 : decode cX0_passNights 45 = .ok (.iload 4, 2) := by decide +kernel
theorem dX0_passNights_47 : decode cX0_passNights 47 = .ok (.invokevirtual 143, 3) := by decide +kernel
theorem dX0_passNights_50 : decode cX0_passNights 50 = .ok (.iinc 3 1, 3) := by decide +kernel
theorem dX0_passNights_53 : decode cX0_passNights 53 = .ok (.goto (-46), 3) := by decide +kernel
theorem dX0_passNights_56 : decode cX0_passNights 56 = .ok (.aload_n 0, 1) := by decide +kernel
theorem dX0_passNights_57 : decode cX0_passNights 57 = .ok (.getfield 55, 3) := by decide +kernel
theorem dX0_passNights_60 : decode cX0_passNights 60 = .ok (.iload_n 2, 1) := by decide +kernel
theorem dX0_passNights_61 : decode cX0_passNights 61 = .ok (.isub, 1) := by decide +kernel
theorem dX0_passNights_62 : decode cX0_passNights 62 = .ok (.ireturn, 1) := by decide +kernel
theorem dX0_nextPrey_0 : decode cX0_nextPrey 0 = .ok (.aload_n 0, 1) := by decide +kernel
theorem dX0_nextPrey_1 : decode cX0_nextPrey 1 = .ok (.invokevirtual 133, 3) := by decide +kernel
theorem dX0_nextPrey_4 : decode cX0_nextPrey 4 = .ok (.istore_n 1, 1) := by decide +kernel
theorem dX0_nextPrey_5 : decode cX0_nextPrey 5 = .ok (.iload_n 1, 1) := by decide +kernel
theorem dX0_nextPrey_6 : decode cX0_nextPrey 6 = .ok (.iconst (-1), 1) := by decide +kernel
theorem dX0_nextPrey_7 : decode cX0_nextPrey 7 = .ok (.if_icmp .ne 7, 3) := by decide +kernel
theorem dX0_nextPrey_10 : decode cX0_nextPrey 10 = .ok (.iconst (-1), 1) := by decide +kernel
theorem dX0_nextPrey_11 : decode cX0_nextPrey 11 = .ok (.goto 8, 3) := by decide +kernel
theorem dX0_nextPrey_14 : decode cX0_nextPrey 14 = .ok (.aload_n 0, 1) := by decide +kernel
theorem dX0_nextPrey_15 : decode cX0_nextPrey 15 = .ok (.iload_n 1, 1) := by decide +kernel
theorem dX0_nextPrey_16 : decode cX0_nextPrey 16 = .ok (.invokevirtual 140, 3) := by decide +kernel
theorem dX0_nextPrey_19 : decode cX0_nextPrey 19 = .ok (.ireturn, 1) := by decide +kernel
theorem dX0_doorOfThief_0 : decode cX0_doorOfThief 0 = .ok (.iconst (-1), 1) := by decide +kernel
theorem dX0_doorOfThief_1 : decode cX0_doorOfThief 1 = .ok (.istore_n 1, 1) := by decide +kernel
theorem dX0_doorOfThief_2 : decode cX0_doorOfThief 2 = .ok (.iconst (-1), 1) := by decide +kernel
theorem dX0_doorOfThief_3 : decode cX0_doorOfThief 3 = .ok (.istore_n 2, 1) := by decide +kernel
theorem dX0_doorOfThief_4 : decode cX0_doorOfThief 4 = .ok (.iconst 0, 1) := by decide +kernel
theorem dX0_doorOfThief_5 : decode cX0_doorOfThief 5 = .ok (.istore_n 3, 1) := by decide +kernel
theorem dX0_doorOfThief_6 : decode cX0_doorOfThief 6 = .ok (.iload_n 3, 1) := by decide +kernel
theorem dX0_doorOfThief_7 : decode cX0_doorOfThief 7 = .ok (.aload_n 0, 1) := by decide +kernel
theorem dX0_doorOfThief_8 : decode cX0_doorOfThief 8 = .ok (.getfield 30, 3) := by decide +kernel
theorem dX0_doorOfThief_11 : decode cX0_doorOfThief 11 = .ok (.arraylength, 1) := by decide +kernel
theorem dX0_doorOfThief_12 : decode cX0_doorOfThief 12 = .ok (.if_icmp .ge 44, 3) := by decide +kernel
theorem dX0_doorOfThief_15 : decode cX0_doorOfThief 15 = .ok (.aload_n 0, 1) := by decide +kernel
theorem dX0_doorOfThief_16 : decode cX0_doorOfThief 16 = .ok (.getfield 30, 3) := by decide +kernel
theorem dX0_doorOfThief_19 : decode cX0_doorOfThief 19 = .ok (.iload_n 3, 1) := by decide +kernel
theorem dX0_doorOfThief_20 : decode cX0_doorOfThief 20 = .ok (.iaload, 1) := by decide +kernel
theorem dX0_doorOfThief_21 : decode cX0_doorOfThief 21 = .ok (.ifCond .ne 29, 3) := by decide +kernel
theorem dX0_doorOfThief_24 : decode cX0_doorOfThief 24 = .ok (.aload_n 0, 1) := by decide +kernel
theorem dX0_doorOfThief_25 : decode cX0_doorOfThief 25 = .ok (.iload_n 3, 1) := by decide +kernel
theorem dX0_doorOfThief_26 : decode cX0_doorOfThief 26 = .ok (.invokevirtual 147, 3) := by decide +kernel
theorem dX0_doorOfThief_29 : decode cX0_doorOfThief 29 = .ok (.ifCond .le 21, 3) := by decide +kernel
theorem dX0_doorOfThief_32 : decode cX0_doorOfThief 32 = .ok (.aload_n 0, 1) := by decide +kernel
theorem dX0_doorOfThief_33 : decode cX0_doorOfThief 33 = .ok (.iload_n 3, 1) := by decide +kernel
theorem dX0_doorOfThief_34 : decode cX0_doorOfThief 34 = .ok (.invokevirtual 120, 3) := by decide +kernel
theorem dX0_doorOfThief_37 : decode cX0_doorOfThief 37 = .ok (.istore 4, 2) := by decide +kernel
theorem dX0_doorOfThief_39 : decode cX0_doorOfThief 39 = .ok (.iload 4, 2) := by decide +kernel
theorem dX0_doorOfThief_41 : decode cX0_doorOfThief 41 = .ok (.iload_n 2, 1) := by decide +kernel
theorem dX0_doorOfThief_42 : decode cX0_doorOfThief 42 = .ok (.if_icmp .le 8, 3) := by decide +kernel
theorem dX0_doorOfThief_45 : decode cX0_doorOfThief 45 = .ok (.iload_n 3, 1) := by decide +kernel
theorem dX0_doorOfThief_46 : decode cX0_doorOfThief 46 = .ok (.istore_n 1, 1) := by decide +kernel
theorem dX0_doorOfThief_47 : decode cX0_doorOfThief 47 = .ok (.iload 4, 2) := by decide +kernel
theorem dX0_doorOfThief_49 : decode cX0_doorOfThief 49 = .ok (.istore_n 2, 1) := by decide +kernel
theorem dX0_doorOfThief_50 : decode cX0_doorOfThief 50 = .ok (.iinc 3 1, 3) := by decide +kernel
theorem dX0_doorOfThief_53 : decode cX0_doorOfThief 53 = .ok (.goto (-47), 3) := by decide +kernel
theorem dX0_doorOfThief_56 : decode cX0_doorOfThief 56 = .ok (.iload_n 2, 1) := by decide +kernel
theorem dX0_doorOfThief_57 : decode cX0_doorOfThief 57 = .ok (.aload_n 0, 1) := by decide +kernel
theorem dX0_doorOfThief_58 : decode cX0_doorOfThief 58 = .ok (.getfield 36, 3) := by decide +kernel
theorem dX0_doorOfThief_61 : decode cX0_doorOfThief 61 = .ok (.iconst 1, 1) := by decide +kernel
theorem dX0_doorOfThief_62 : decode cX0_doorOfThief 62 = .ok (.invokestatic 64, 3) := by decide +kernel
theorem dX0_doorOfThief_65 : decode cX0_doorOfThief 65 = .ok (.if_icmp .lt 7, 3) := by decide +kernel
theorem dX0_doorOfThief_68 : decode cX0_doorOfThief 68 = .ok (.iload_n 1, 1) := by decide +kernel
theorem dX0_doorOfThief_69 : decode cX0_doorOfThief 69 = .ok (.goto 4, 3) := by decide +kernel
theorem dX0_doorOfThief_72 : decode cX0_doorOfThief 72 = .ok (.iconst (-1), 1) := by decide +kernel
theorem dX0_doorOfThief_73 : decode cX0_doorOfThief 73 = .ok (.ireturn, 1) := by decide +kernel
theorem dX0_preyOn_0 : decode cX0_preyOn 0 = .ok (.iconst (-1), 1) := by decide +kernel
theorem dX0_preyOn_1 : decode cX0_preyOn 1 = .ok (.istore_n 2, 1) := by decide +kernel
theorem dX0_preyOn_2 : decode cX0_preyOn 2 = .ok (.iconst 0, 1) := by decide +kernel
theorem dX0_preyOn_3 : decode cX0_preyOn 3 = .ok (.istore_n 3, 1) := by decide +kernel
theorem dX0_preyOn_4 : decode cX0_preyOn 4 = .ok (.iconst 3, 1) := by decide +kernel
theorem dX0_preyOn_5 : decode cX0_preyOn 5 = .ok (.istore 4, 2) := by decide +kernel
theorem dX0_preyOn_7 : decode cX0_preyOn 7 = .ok (.iload 4, 2) := by decide +kernel
theorem dX0_preyOn_9 : decode cX0_preyOn 9 = .ok (.ifCond .lt 68, 3) := by decide +kernel
theorem dX0_preyOn_12 : decode cX0_preyOn 12 = .ok (.iload_n 1, 1) := by decide +kernel
theorem dX0_preyOn_13 : decode cX0_preyOn 13 = .ok (.iload 4, 2) := by decide +kernel
theorem dX0_preyOn_15 : decode cX0_preyOn 15 = .ok (.invokestatic 72, 3) := by decide +kernel
theorem dX0_preyOn_18 : decode cX0_preyOn 18 = .ok (.istore 5, 2) := by decide +kernel
theorem dX0_preyOn_20 : decode cX0_preyOn 20 = .ok (.iconst 0, 1) := by decide +kernel
theorem dX0_preyOn_21 : decode cX0_preyOn 21 = .ok (.istore 6, 2) := by decide +kernel
theorem dX0_preyOn_23 : decode cX0_preyOn 23 = .ok (.iload 6, 2) := by decide +kernel
theorem dX0_preyOn_25 : decode cX0_preyOn 25 = .ok (.aload_n 0, 1) := by decide +kernel
theorem dX0_preyOn_26 : decode cX0_preyOn 26 = .ok (.getfield 18, 3) := by decide +kernel
theorem dX0_preyOn_29 : decode cX0_preyOn 29 = .ok (.iload 5, 2) := by decide +kernel
theorem dX0_preyOn_31 : decode cX0_preyOn 31 = .ok (.invokestatic 64, 3) := by decide +kernel
theorem dX0_preyOn_34 : decode cX0_preyOn 34 = .ok (.if_icmp .ge 37, 3) := by decide +kernel
theorem dX0_preyOn_37 : decode cX0_preyOn 37 = .ok (.aload_n 0, 1) := by decide +kernel
theorem dX0_preyOn_38 : decode cX0_preyOn 38 = .ok (.iload 5, 2) := by decide +kernel
theorem dX0_preyOn_40 : decode cX0_preyOn 40 = .ok (.iload 6, 2) := by decide +kernel
theorem dX0_preyOn_42 : decode cX0_preyOn 42 = .ok (.invokevirtual 68, 3) := by decide +kernel
theorem dX0_preyOn_45 : decode cX0_preyOn 45 = .ok (.istore 7, 2) := by decide +kernel
theorem dX0_preyOn_47 : decode cX0_preyOn 47 = .ok (.iload 7, 2) := by decide +kernel
theorem dX0_preyOn_49 : decode cX0_preyOn 49 = .ok (.invokestatic 94, 3) := by decide +kernel
theorem dX0_preyOn_52 : decode cX0_preyOn 52 = .ok (.iload_n 3, 1) := by decide +kernel
theorem dX0_preyOn_53 : decode cX0_preyOn 53 = .ok (.if_icmp .le 12, 3) := by decide +kernel
theorem dX0_preyOn_56 : decode cX0_preyOn 56 = .ok (.iload 7, 2) := by decide +kernel
theorem dX0_preyOn_58 : decode cX0_preyOn 58 = .ok (.istore_n 2, 1) := by decide +kernel
theorem dX0_preyOn_59 : decode cX0_preyOn 59 = .ok (.iload 7, 2) := by decide +kernel
theorem dX0_preyOn_61 : decode cX0_preyOn 61 = .ok (.invokestatic 94, 3) := by decide +kernel
theorem dX0_preyOn_64 : decode cX0_preyOn 64 = .ok (.istore_n 3, 1) := by decide +kernel
theorem dX0_preyOn_65 : decode cX0_preyOn 65 = .ok (.iinc 6 1, 3) := by decide +kernel
theorem dX0_preyOn_68 : decode cX0_preyOn 68 = .ok (.goto (-45), 3) := by decide +kernel
theorem dX0_preyOn_71 : decode cX0_preyOn 71 = .ok (.iinc 4 (-1), 3) := by decide +kernel
theorem dX0_preyOn_74 : decode cX0_preyOn 74 = .ok (.goto (-67), 3) := by decide +kernel
theorem dX0_preyOn_77 : decode cX0_preyOn 77 = .ok (.iload_n 2, 1) := by decide +kernel
theorem dX0_preyOn_78 : decode cX0_preyOn 78 = .ok (.ireturn, 1) := by decide +kernel
theorem dX0_watchOneNightFewer_0 : decode cX0_watchOneNightFewer 0 = .ok (.iconst 0, 1) := by decide +kernel
theorem dX0_watchOneNightFewer_1 : decode cX0_watchOneNightFewer 1 = .ok (.istore_n 1, 1) := by decide +kernel
theorem dX0_watchOneNightFewer_2 : decode cX0_watchOneNightFewer 2 = .ok (.iload_n 1, 1) := by decide +kernel
theorem dX0_watchOneNightFewer_3 : decode cX0_watchOneNightFewer 3 = .ok (.aload_n 0, 1) := by decide +kernel
theorem dX0_watchOneNightFewer_4 : decode cX0_watchOneNightFewer 4 = .ok (.getfield 30, 3) := by decide +kernel
theorem dX0_watchOneNightFewer_7 : decode cX0_watchOneNightFewer 7 = .ok (.arraylength, 1) := by decide +kernel
theorem dX0_watchOneNightFewer_8 : decode cX0_watchOneNightFewer 8 = .ok (.if_icmp .ge 28, 3) := by decide +kernel
theorem dX0_watchOneNightFewer_11 : decode cX0_watchOneNightFewer 11 = .ok (.aload_n 0, 1) := by decide +kernel
theorem dX0_watchOneNightFewer_12 : decode cX0_watchOneNightFewer 12 = .ok (.getfield 30, 3) := by decide +kernel
theorem dX0_watchOneNightFewer_15 : decode cX0_watchOneNightFewer 15 = .ok (.iload_n 1, 1) := by decide +kernel
theorem dX0_watchOneNightFewer_16 : decode cX0_watchOneNightFewer 16 = .ok (.iaload, 1) := by decide +kernel
theorem dX0_watchOneNightFewer_17 : decode cX0_watchOneNightFewer 17 = .ok (.ifCond .le 13, 3) := by decide +kernel
theorem dX0_watchOneNightFewer_20 : decode cX0_watchOneNightFewer 20 = .ok (.aload_n 0, 1) := by decide +kernel
theorem dX0_watchOneNightFewer_21 : decode cX0_watchOneNightFewer 21 = .ok (.getfield 30, 3) := by decide +kernel
theorem dX0_watchOneNightFewer_24 : decode cX0_watchOneNightFewer 24 = .ok (.iload_n 1, 1) := by decide +kernel
theorem dX0_watchOneNightFewer_25 : decode cX0_watchOneNightFewer 25 = .ok (.dup2, 1) := by decide +kernel
theorem dX0_watchOneNightFewer_26 : decode cX0_watchOneNightFewer 26 = .ok (.iaload, 1) := by decide +kernel
theorem dX0_watchOneNightFewer_27 : decode cX0_watchOneNightFewer 27 = .ok (.iconst 1, 1) := by decide +kernel
theorem dX0_watchOneNightFewer_28 : decode cX0_watchOneNightFewer 28 = .ok (.isub, 1) := by decide +kernel
theorem dX0_watchOneNightFewer_29 : decode cX0_watchOneNightFewer 29 = .ok (.iastore, 1) := by decide +kernel
theorem dX0_watchOneNightFewer_30 : decode cX0_watchOneNightFewer 30 = .ok (.iinc 1 1, 3) := by decide +kernel
theorem dX0_watchOneNightFewer_33 : decode cX0_watchOneNightFewer 33 = .ok (.goto (-31), 3) := by decide +kernel
theorem dX0_watchOneNightFewer_36 : decode cX0_watchOneNightFewer 36 = .ok (.return_, 1) := by decide +kernel
theorem dX0_steal_0 : decode cX0_steal 0 = .ok (.aload_n 0, 1) := by decide +kernel
theorem dX0_steal_1 : decode cX0_steal 1 = .ok (.iload_n 1, 1) := by decide +kernel
theorem dX0_steal_2 : decode cX0_steal 2 = .ok (.invokevirtual 87, 3) := by decide +kernel
theorem dX0_steal_5 : decode cX0_steal 5 = .ok (.aload_n 0, 1) := by decide +kernel
theorem dX0_steal_6 : decode cX0_steal 6 = .ok (.dup, 1) := by decide +kernel
theorem dX0_steal_7 : decode cX0_steal 7 = .ok (.getfield 55, 3) := by decide +kernel
theorem dX0_steal_10 : decode cX0_steal 10 = .ok (.iconst 1, 1) := by decide +kernel
theorem dX0_steal_11 : decode cX0_steal 11 = .ok (.iadd, 1) := by decide +kernel
theorem dX0_steal_12 : decode cX0_steal 12 = .ok (.putfield 55, 3) := by decide +kernel
theorem dX0_steal_15 : decode cX0_steal 15 = .ok (.aload_n 0, 1) := by decide +kernel
theorem dX0_steal_16 : decode cX0_steal 16 = .ok (.getfield 27, 3) := by decide +kernel
theorem dX0_steal_19 : decode cX0_steal 19 = .ok (.iload_n 1, 1) := by decide +kernel
theorem dX0_steal_20 : decode cX0_steal 20 = .ok (.aload_n 0, 1) := by decide +kernel
theorem dX0_steal_21 : decode cX0_steal 21 = .ok (.getfield 27, 3) := by decide +kernel
theorem dX0_steal_24 : decode cX0_steal 24 = .ok (.iload_n 1, 1) := by decide +kernel
theorem dX0_steal_25 : decode cX0_steal 25 = .ok (.invokestatic 64, 3) := by decide +kernel
theorem dX0_steal_28 : decode cX0_steal 28 = .ok (.iconst 1, 1) := by decide +kernel
theorem dX0_steal_29 : decode cX0_steal 29 = .ok (.iadd, 1) := by decide +kernel
theorem dX0_steal_30 : decode cX0_steal 30 = .ok (.invokestatic 43, 3) := by decide +kernel
theorem dX0_steal_33 : decode cX0_steal 33 = .ok (.aload_n 0, 1) := by decide +kernel
theorem dX0_steal_34 : decode cX0_steal 34 = .ok (.getfield 33, 3) := by decide +kernel
theorem dX0_steal_37 : decode cX0_steal 37 = .ok (.iload_n 2, 1) := by decide +kernel
theorem dX0_steal_38 : decode cX0_steal 38 = .ok (.aload_n 0, 1) := by decide +kernel
theorem dX0_steal_39 : decode cX0_steal 39 = .ok (.getfield 33, 3) := by decide +kernel
theorem dX0_steal_42 : decode cX0_steal 42 = .ok (.iload_n 2, 1) := by decide +kernel
theorem dX0_steal_43 : decode cX0_steal 43 = .ok (.invokestatic 64, 3) := by decide +kernel
theorem dX0_steal_46 : decode cX0_steal 46 = .ok (.iconst 1, 1) := by decide +kernel
theorem dX0_steal_47 : decode cX0_steal 47 = .ok (.iadd, 1) := by decide +kernel
theorem dX0_steal_48 : decode cX0_steal 48 = .ok (.invokestatic 43, 3) := by decide +kernel
theorem dX0_steal_51 : decode cX0_steal 51 = .ok (.aload_n 0, 1) := by decide +kernel
theorem dX0_steal_52 : decode cX0_steal 52 = .ok (.getfield 30, 3) := by decide +kernel
theorem dX0_steal_55 : decode cX0_steal 55 = .ok (.iload_n 2, 1) := by decide +kernel
theorem dX0_steal_56 : decode cX0_steal 56 = .ok (.aload_n 0, 1) := by decide +kernel
theorem dX0_steal_57 : decode cX0_steal 57 = .ok (.getfield 36, 3) := by decide +kernel
theorem dX0_steal_60 : decode cX0_steal 60 = .ok (.iconst 2, 1) := by decide +kernel
theorem dX0_steal_61 : decode cX0_steal 61 = .ok (.invokestatic 64, 3) := by decide +kernel
theorem dX0_steal_64 : decode cX0_steal 64 = .ok (.invokestatic 43, 3) := by decide +kernel
theorem dX0_steal_67 : decode cX0_steal 67 = .ok (.return_, 1) := by decide +kernel
theorem dX0_settingValue_0 : decode cX0_settingValue 0 = .ok (.aload_n 0, 1) := by decide +kernel
theorem dX0_settingValue_1 : decode cX0_settingValue 1 = .ok (.getfield 36, 3) := by decide +kernel
theorem dX0_settingValue_4 : decode cX0_settingValue 4 = .ok (.iload_n 1, 1) := by decide +kernel
theorem dX0_settingValue_5 : decode cX0_settingValue 5 = .ok (.invokestatic 64, 3) := by decide +kernel
theorem dX0_settingValue_8 : decode cX0_settingValue 8 = .ok (.ireturn, 1) := by decide +kernel
theorem dX0_changeSetting_0 : decode cX0_changeSetting 0 = .ok (.aload_n 0, 1) := by decide +kernel
theorem dX0_changeSetting_1 : decode cX0_changeSetting 1 = .ok (.getfield 36, 3) := by decide +kernel
theorem dX0_changeSetting_4 : decode cX0_changeSetting 4 = .ok (.iload_n 1, 1) := by decide +kernel
theorem dX0_changeSetting_5 : decode cX0_changeSetting 5 = .ok (.iload_n 2, 1) := by decide +kernel
theorem dX0_changeSetting_6 : decode cX0_changeSetting 6 = .ok (.invokestatic 43, 3) := by decide +kernel
theorem dX0_changeSetting_9 : decode cX0_changeSetting 9 = .ok (.return_, 1) := by decide +kernel
theorem dX0_wordProperty_0 : decode cX0_wordProperty 0 = .ok (.aload_n 0, 1) := by decide +kernel
theorem dX0_wordProperty_1 : decode cX0_wordProperty 1 = .ok (.getfield 9, 3) := by decide +kernel
theorem dX0_wordProperty_4 : decode cX0_wordProperty 4 = .ok (.iload_n 1, 1) := by decide +kernel
theorem dX0_wordProperty_5 : decode cX0_wordProperty 5 = .ok (.invokestatic 64, 3) := by decide +kernel
theorem dX0_wordProperty_8 : decode cX0_wordProperty 8 = .ok (.istore_n 3, 1) := by decide +kernel
theorem dX0_wordProperty_9 : decode cX0_wordProperty 9 = .ok (.iload_n 2, 1) := by decide +kernel
theorem dX0_wordProperty_10 : decode cX0_wordProperty 10 = .ok (.tableswitch 85 0 5 #[38, 43, 48, 53, 66, 79], 38) := by decide +kernel
theorem dX0_wordProperty_48 : decode cX0_wordProperty 48 = .ok (.iload_n 1, 1) := by decide +kernel
theorem dX0_wordProperty_49 : decode cX0_wordProperty 49 = .ok (.invokestatic 101, 3) := by decide +kernel
theorem dX0_wordProperty_52 : decode cX0_wordProperty 52 = .ok (.ireturn, 1) := by decide +kernel
theorem dX0_wordProperty_53 : decode cX0_wordProperty 53 = .ok (.iload_n 1, 1) := by decide +kernel
theorem dX0_wordProperty_54 : decode cX0_wordProperty 54 = .ok (.invokestatic 108, 3) := by decide +kernel
theorem dX0_wordProperty_57 : decode cX0_wordProperty 57 = .ok (.ireturn, 1) := by decide +kernel
theorem dX0_wordProperty_58 : decode cX0_wordProperty 58 = .ok (.iload_n 1, 1) := by decide +kernel
theorem dX0_wordProperty_59 : decode cX0_wordProperty 59 = .ok (.invokestatic 94, 3) := by decide +kernel
theorem dX0_wordProperty_62 : decode cX0_wordProperty 62 = .ok (.ireturn, 1) := by decide +kernel
theorem dX0_wordProperty_63 : decode cX0_wordProperty 63 = .ok (.iload_n 3, 1) := by decide +kernel
theorem dX0_wordProperty_64 : decode cX0_wordProperty 64 = .ok (.iconst (-1), 1) := by decide +kernel
theorem dX0_wordProperty_65 : decode cX0_wordProperty 65 = .ok (.if_icmp .ne 7, 3) := by decide +kernel
theorem dX0_wordProperty_68 : decode cX0_wordProperty 68 = .ok (.iconst (-1), 1) := by decide +kernel
theorem dX0_wordProperty_69 : decode cX0_wordProperty 69 = .ok (.goto 6, 3) := by decide +kernel
theorem dX0_wordProperty_72 : decode cX0_wordProperty 72 = .ok (.iload_n 3, 1) := by decide +kernel
theorem dX0_wordProperty_73 : decode cX0_wordProperty 73 = .ok (.iconst 4, 1) := by decide +kernel
theorem dX0_wordProperty_74 : decode cX0_wordProperty 74 = .ok (.idiv, 1) := by decide +kernel
theorem dX0_wordProperty_75 : decode cX0_wordProperty 75 = .ok (.ireturn, 1) := by decide +kernel
theorem dX0_wordProperty_76 : decode cX0_wordProperty 76 = .ok (.iload_n 3, 1) := by decide +kernel
theorem dX0_wordProperty_77 : decode cX0_wordProperty 77 = .ok (.iconst (-1), 1) := by decide +kernel
theorem dX0_wordProperty_78 : decode cX0_wordProperty 78 = .ok (.if_icmp .ne 7, 3) := by decide +kernel
theorem dX0_wordProperty_81 : decode cX0_wordProperty 81 = .ok (.iconst (-1), 1) := by decide +kernel
theorem dX0_wordProperty_82 : decode cX0_wordProperty 82 = .ok (.goto 6, 3) := by decide +kernel
theorem dX0_wordProperty_85 : decode cX0_wordProperty 85 = .ok (.iload_n 3, 1) := by decide +kernel
theorem dX0_wordProperty_86 : decode cX0_wordProperty 86 = .ok (.iconst 4, 1) := by decide +kernel
theorem dX0_wordProperty_87 : decode cX0_wordProperty 87 = .ok (.irem, 1) := by decide +kernel
theorem dX0_wordProperty_88 : decode cX0_wordProperty 88 = .ok (.ireturn, 1) := by decide +kernel
theorem dX0_wordProperty_89 : decode cX0_wordProperty 89 = .ok (.aload_n 0, 1) := by decide +kernel
theorem dX0_wordProperty_90 : decode cX0_wordProperty 90 = .ok (.iload_n 1, 1) := by decide +kernel
theorem dX0_wordProperty_91 : decode cX0_wordProperty 91 = .ok (.invokevirtual 83, 3) := by decide +kernel
theorem dX0_wordProperty_94 : decode cX0_wordProperty 94 = .ok (.ireturn, 1) := by decide +kernel
theorem dX0_wordProperty_95 : decode cX0_wordProperty 95 = .ok (.aload_n 0, 1) := by decide +kernel
theorem dX0_wordProperty_96 : decode cX0_wordProperty 96 = .ok (.getfield 27, 3) := by decide +kernel
theorem dX0_wordProperty_99 : decode cX0_wordProperty 99 = .ok (.iload_n 1, 1) := by decide +kernel
theorem dX0_wordProperty_100 : decode cX0_wordProperty 100 = .ok (.invokestatic 64, 3) := by decide +kernel
theorem dX0_wordProperty_103 : decode cX0_wordProperty 103 = .ok (.ireturn, 1) := by decide +kernel
theorem dX0_lineProperty_0 : decode cX0_lineProperty 0 = .ok (.iload_n 2, 1) := by decide +kernel
theorem dX0_lineProperty_1 : decode cX0_lineProperty 1 = .ok (.tableswitch 106 0 6 #[43, 52, 58, 65, 71, 83, 95], 43) := by decide +kernel
theorem dX0_lineProperty_44 : decode cX0_lineProperty 44 = .ok (.aload_n 0, 1) := by decide +kernel
theorem dX0_lineProperty_45 : decode cX0_lineProperty 45 = .ok (.getfield 18, 3) := by decide +kernel
theorem dX0_lineProperty_48 : decode cX0_lineProperty 48 = .ok (.iload_n 1, 1) := by decide +kernel
theorem dX0_lineProperty_49 : decode cX0_lineProperty 49 = .ok (.invokestatic 64, 3) := by decide +kernel
theorem dX0_lineProperty_52 : decode cX0_lineProperty 52 = .ok (.ireturn, 1) := by decide +kernel
theorem dX0_lineProperty_53 : decode cX0_lineProperty 53 = .ok (.aload_n 0, 1) := by decide +kernel
theorem dX0_lineProperty_54 : decode cX0_lineProperty 54 = .ok (.iload_n 1, 1) := by decide +kernel
theorem dX0_lineProperty_55 : decode cX0_lineProperty 55 = .ok (.invokevirtual 91, 3) := by decide +kernel
theorem dX0_lineProperty_58 : decode cX0_lineProperty 58 = .ok (.ireturn, 1) := by decide +kernel
theorem dX0_lineProperty_59 : decode cX0_lineProperty 59 = .ok (.aload_n 0, 1) := by decide +kernel
theorem dX0_lineProperty_60 : decode cX0_lineProperty 60 = .ok (.iload_n 1, 1) := by decide +kernel
theorem dX0_lineProperty_61 : decode cX0_lineProperty 61 = .ok (.iconst (-1), 1) := by decide +kernel
theorem dX0_lineProperty_62 : decode cX0_lineProperty 62 = .ok (.invokevirtual 117, 3) := by decide +kernel
theorem dX0_lineProperty_65 : decode cX0_lineProperty 65 = .ok (.ireturn, 1) := by decide +kernel
theorem dX0_lineProperty_66 : decode cX0_lineProperty 66 = .ok (.aload_n 0, 1) := by decide +kernel
theorem dX0_lineProperty_67 : decode cX0_lineProperty 67 = .ok (.iload_n 1, 1) := by decide +kernel
theorem dX0_lineProperty_68 : decode cX0_lineProperty 68 = .ok (.invokevirtual 111, 3) := by decide +kernel
theorem dX0_lineProperty_71 : decode cX0_lineProperty 71 = .ok (.ireturn, 1) := by decide +kernel
theorem dX0_lineProperty_72 : decode cX0_lineProperty 72 = .ok (.aload_n 0, 1) := by decide +kernel
theorem dX0_lineProperty_73 : decode cX0_lineProperty 73 = .ok (.getfield 21, 3) := by decide +kernel
theorem dX0_lineProperty_76 : decode cX0_lineProperty 76 = .ok (.iload_n 1, 1) := by decide +kernel
theorem dX0_lineProperty_77 : decode cX0_lineProperty 77 = .ok (.invokestatic 64, 3) := by decide +kernel
theorem dX0_lineProperty_80 : decode cX0_lineProperty 80 = .ok (.invokestatic 150, 3) := by decide +kernel
theorem dX0_lineProperty_83 : decode cX0_lineProperty 83 = .ok (.ireturn, 1) := by decide +kernel
theorem dX0_lineProperty_84 : decode cX0_lineProperty 84 = .ok (.aload_n 0, 1) := by decide +kernel
theorem dX0_lineProperty_85 : decode cX0_lineProperty 85 = .ok (.getfield 24, 3) := by decide +kernel
theorem dX0_lineProperty_88 : decode cX0_lineProperty 88 = .ok (.iload_n 1, 1) := by decide +kernel
theorem dX0_lineProperty_89 : decode cX0_lineProperty 89 = .ok (.invokestatic 64, 3) := by decide +kernel
theorem dX0_lineProperty_92 : decode cX0_lineProperty 92 = .ok (.invokestatic 150, 3) := by decide +kernel
theorem dX0_lineProperty_95 : decode cX0_lineProperty 95 = .ok (.ireturn, 1) := by decide +kernel
theorem dX0_lineProperty_96 : decode cX0_lineProperty 96 = .ok (.aload_n 0, 1) := by decide +kernel
theorem dX0_lineProperty_97 : decode cX0_lineProperty 97 = .ok (.iload_n 1, 1) := by decide +kernel
theorem dX0_lineProperty_98 : decode cX0_lineProperty 98 = .ok (.aload_n 0, 1) := by decide +kernel
theorem dX0_lineProperty_99 : decode cX0_lineProperty 99 = .ok (.iload_n 1, 1) := by decide +kernel
theorem dX0_lineProperty_100 : decode cX0_lineProperty 100 = .ok (.invokevirtual 111, 3) := by decide +kernel
theorem dX0_lineProperty_103 : decode cX0_lineProperty 103 = .ok (.invokevirtual 127, 3) := by decide +kernel
theorem dX0_lineProperty_106 : decode cX0_lineProperty 106 = .ok (.ireturn, 1) := by decide +kernel
theorem dX0_lineProperty_107 : decode cX0_lineProperty 107 = .ok (.aload_n 0, 1) := by decide +kernel
theorem dX0_lineProperty_108 : decode cX0_lineProperty 108 = .ok (.iload_n 1, 1) := by decide +kernel
theorem dX0_lineProperty_109 : decode cX0_lineProperty 109 = .ok (.invokevirtual 153, 3) := by decide +kernel
theorem dX0_lineProperty_112 : decode cX0_lineProperty 112 = .ok (.ifCond .eq 7, 3) := by decide +kernel
theorem dX0_lineProperty_115 : decode cX0_lineProperty 115 = .ok (.iconst 0, 1) := by decide +kernel
theorem dX0_lineProperty_116 : decode cX0_lineProperty 116 = .ok (.goto 4, 3) := by decide +kernel
theorem dX0_lineProperty_119 : decode cX0_lineProperty 119 = .ok (.iconst 1, 1) := by decide +kernel
theorem dX0_lineProperty_120 : decode cX0_lineProperty 120 = .ok (.ireturn, 1) := by decide +kernel
theorem dX0_doorProperty_0 : decode cX0_doorProperty 0 = .ok (.iload_n 2, 1) := by decide +kernel
theorem dX0_doorProperty_1 : decode cX0_doorProperty 1 = .ok (.tableswitch 58 0 3 #[31, 37, 43, 49], 31) := by decide +kernel
theorem dX0_doorProperty_32 : decode cX0_doorProperty 32 = .ok (.aload_n 0, 1) := by decide +kernel
theorem dX0_doorProperty_33 : decode cX0_doorProperty 33 = .ok (.iload_n 1, 1) := by decide +kernel
theorem dX0_doorProperty_34 : decode cX0_doorProperty 34 = .ok (.invokevirtual 120, 3) := by decide +kernel
theorem dX0_doorProperty_37 : decode cX0_doorProperty 37 = .ok (.ireturn, 1) := by decide +kernel
theorem dX0_doorProperty_38 : decode cX0_doorProperty 38 = .ok (.aload_n 0, 1) := by decide +kernel
theorem dX0_doorProperty_39 : decode cX0_doorProperty 39 = .ok (.iload_n 1, 1) := by decide +kernel
theorem dX0_doorProperty_40 : decode cX0_doorProperty 40 = .ok (.invokevirtual 147, 3) := by decide +kernel
theorem dX0_doorProperty_43 : decode cX0_doorProperty 43 = .ok (.ireturn, 1) := by decide +kernel
theorem dX0_doorProperty_44 : decode cX0_doorProperty 44 = .ok (.aload_n 0, 1) := by decide +kernel
theorem dX0_doorProperty_45 : decode cX0_doorProperty 45 = .ok (.iload_n 1, 1) := by decide +kernel
theorem dX0_doorProperty_46 : decode cX0_doorProperty 46 = .ok (.invokevirtual 114, 3) := by decide +kernel
theorem dX0_doorProperty_49 : decode cX0_doorProperty 49 = .ok (.ireturn, 1) := by decide +kernel
theorem dX0_doorProperty_50 : decode cX0_doorProperty 50 = .ok (.aload_n 0, 1) := by decide +kernel
theorem dX0_doorProperty_51 : decode cX0_doorProperty 51 = .ok (.getfield 30, 3) := by decide +kernel
theorem dX0_doorProperty_54 : decode cX0_doorProperty 54 = .ok (.iload_n 1, 1) := by decide +kernel
theorem dX0_doorProperty_55 : decode cX0_doorProperty 55 = .ok (.invokestatic 64, 3) := by decide +kernel
theorem dX0_doorProperty_58 : decode cX0_doorProperty 58 = .ok (.ireturn, 1) := by decide +kernel
theorem dX0_doorProperty_59 : decode cX0_doorProperty 59 = .ok (.aload_n 0, 1) := by decide +kernel
theorem dX0_doorProperty_60 : decode cX0_doorProperty 60 = .ok (.getfield 33, 3) := by decide +kernel
theorem dX0_doorProperty_63 : decode cX0_doorProperty 63 = .ok (.iload_n 1, 1) := by decide +kernel
theorem dX0_doorProperty_64 : decode cX0_doorProperty 64 = .ok (.invokestatic 64, 3) := by decide +kernel
theorem dX0_doorProperty_67 : decode cX0_doorProperty 67 = .ok (.ireturn, 1) := by decide +kernel
theorem dX1_init_0 : decode cX1_init 0 = .ok (.aload_n 0, 1) := by decide +kernel
theorem dX1_init_1 : decode cX1_init 1 = .ok (.invokespecial 3, 3) := by decide +kernel
theorem dX1_init_4 : decode cX1_init 4 = .ok (.aload_n 0, 1) := by decide +kernel
theorem dX1_init_5 : decode cX1_init 5 = .ok (.bipush 6, 2) := by decide +kernel
theorem dX1_init_7 : decode cX1_init 7 = .ok (.anewarray 9, 3) := by decide +kernel
theorem dX1_init_10 : decode cX1_init 10 = .ok (.putfield 11, 3) := by decide +kernel
theorem dX1_init_13 : decode cX1_init 13 = .ok (.iconst 0, 1) := by decide +kernel
theorem dX1_init_14 : decode cX1_init 14 = .ok (.istore_n 1, 1) := by decide +kernel
theorem dX1_init_15 : decode cX1_init 15 = .ok (.iload_n 1, 1) := by decide +kernel
theorem dX1_init_16 : decode cX1_init 16 = .ok (.aload_n 0, 1) := by decide +kernel
theorem dX1_init_17 : decode cX1_init 17 = .ok (.getfield 11, 3) := by decide +kernel
theorem dX1_init_20 : decode cX1_init 20 = .ok (.arraylength, 1) := by decide +kernel
theorem dX1_init_21 : decode cX1_init 21 = .ok (.if_icmp .ge 22, 3) := by decide +kernel
theorem dX1_init_24 : decode cX1_init 24 = .ok (.aload_n 0, 1) := by decide +kernel
theorem dX1_init_25 : decode cX1_init 25 = .ok (.getfield 11, 3) := by decide +kernel
theorem dX1_init_28 : decode cX1_init 28 = .ok (.iload_n 1, 1) := by decide +kernel
theorem dX1_init_29 : decode cX1_init 29 = .ok (.new 9, 3) := by decide +kernel
theorem dX1_init_32 : decode cX1_init 32 = .ok (.dup, 1) := by decide +kernel
theorem dX1_init_33 : decode cX1_init 33 = .ok (.invokespecial 17, 3) := by decide +kernel
theorem dX1_init_36 : decode cX1_init 36 = .ok (.aastore, 1) := by decide +kernel
theorem dX1_init_37 : decode cX1_init 37 = .ok (.iinc 1 1, 3) := by decide +kernel
theorem dX1_init_40 : decode cX1_init 40 = .ok (.goto (-25), 3) := by decide +kernel
theorem dX1_init_43 : decode cX1_init 43 = .ok (.return_, 1) := by decide +kernel
theorem dX1_save_0 : decode cX1_save 0 = .ok (.aload_n 0, 1) := by decide +kernel
theorem dX1_save_1 : decode cX1_save 1 = .ok (.getfield 18, 3) := by decide +kernel
theorem dX1_save_4 : decode cX1_save 4 = .ok (.bipush 6, 2) := by decide +kernel
theorem dX1_save_6 : decode cX1_save 6 = .ok (.if_icmp .lt 26, 3) := by decide +kernel
theorem dX1_save_9 : decode cX1_save 9 = .ok (.aload_n 0, 1) := by decide +kernel
theorem dX1_save_10 : decode cX1_save 10 = .ok (.aload_n 0, 1) := by decide +kernel
theorem dX1_save_11 : decode cX1_save 11 = .ok (.getfield 22, 3) := by decide +kernel
theorem dX1_save_14 : decode cX1_save 14 = .ok (.iconst 1, 1) := by decide +kernel
theorem dX1_save_15 : decode cX1_save 15 = .ok (.iadd, 1) := by decide +kernel
theorem dX1_save_16 : decode cX1_save 16 = .ok (.bipush 6, 2) := by decide +kernel
theorem dX1_save_18 : decode cX1_save 18 = .ok (.irem, 1) := by decide +kernel
theorem dX1_save_19 : decode cX1_save 19 = .ok (.putfield 22, 3) := by decide +kernel
theorem dX1_save_22 : decode cX1_save 22 = .ok (.aload_n 0, 1) := by decide +kernel
theorem dX1_save_23 : decode cX1_save 23 = .ok (.dup, 1) := by decide +kernel
theorem dX1_save_24 : decode cX1_save 24 = .ok (.getfield 18, 3) := by decide +kernel
theorem dX1_save_27 : decode cX1_save 27 = .ok (.iconst 1, 1) := by decide +kernel
theorem dX1_save_28 : decode cX1_save 28 = .ok (.isub, 1) := by decide +kernel
theorem dX1_save_29 : decode cX1_save 29 = .ok (.putfield 18, 3) := by decide +kernel
theorem dX1_save_32 : decode cX1_save 32 = .ok (.aload_n 0, 1) := by decide +kernel
theorem dX1_save_33 : decode cX1_save 33 = .ok (.aload_n 0, 1) := by decide +kernel
theorem dX1_save_34 : decode cX1_save 34 = .ok (.getfield 18, 3) := by decide +kernel
theorem dX1_save_37 : decode cX1_save 37 = .ok (.invokevirtual 25, 3) := by decide +kernel
theorem dX1_save_40 : decode cX1_save 40 = .ok (.astore_n 2, 1) := by decide +kernel
theorem dX1_save_41 : decode cX1_save 41 = .ok (.aload_n 2, 1) := by decide +kernel
theorem dX1_save_42 : decode cX1_save 42 = .ok (.ifnull 18, 3) := by decide +kernel
theorem dX1_save_45 : decode cX1_save 45 = .ok (.aload_n 2, 1) := by decide +kernel
theorem dX1_save_46 : decode cX1_save 46 = .ok (.aload_n 1, 1) := by decide +kernel
theorem dX1_save_47 : decode cX1_save 47 = .ok (.invokevirtual 29, 3) := by decide +kernel
theorem dX1_save_50 : decode cX1_save 50 = .ok (.aload_n 0, 1) := by decide +kernel
theorem dX1_save_51 : decode cX1_save 51 = .ok (.dup, 1) := by decide +kernel
theorem dX1_save_52 : decode cX1_save 52 = .ok (.getfield 18, 3) := by decide +kernel
theorem dX1_save_55 : decode cX1_save 55 = .ok (.iconst 1, 1) := by decide +kernel
theorem dX1_save_56 : decode cX1_save 56 = .ok (.iadd, 1) := by decide +kernel
theorem dX1_save_57 : decode cX1_save 57 = .ok (.putfield 18, 3) := by decide +kernel
theorem dX1_save_60 : decode cX1_save 60 = .ok (.return_, 1) := by decide +kernel
theorem dX1_restore_0 : decode cX1_restore 0 = .ok (.aload_n 0, 1) := by decide +kernel
theorem dX1_restore_1 : decode cX1_restore 1 = .ok (.aload_n 0, 1) := by decide +kernel
theorem dX1_restore_2 : decode cX1_restore 2 = .ok (.getfield 18, 3) := by decide +kernel
theorem dX1_restore_5 : decode cX1_restore 5 = .ok (.iconst 1, 1) := by decide +kernel
theorem dX1_restore_6 : decode cX1_restore 6 = .ok (.isub, 1) := by decide +kernel
theorem dX1_restore_7 : decode cX1_restore 7 = .ok (.invokevirtual 25, 3) := by decide +kernel
theorem dX1_restore_10 : decode cX1_restore 10 = .ok (.astore_n 2, 1) := by decide +kernel
theorem dX1_restore_11 : decode cX1_restore 11 = .ok (.aload_n 2, 1) := by decide +kernel
theorem dX1_restore_12 : decode cX1_restore 12 = .ok (.ifnull 18, 3) := by decide +kernel
theorem dX1_restore_15 : decode cX1_restore 15 = .ok (.aload_n 1, 1) := by decide +kernel
theorem dX1_restore_16 : decode cX1_restore 16 = .ok (.aload_n 2, 1) := by decide +kernel
theorem dX1_restore_17 : decode cX1_restore 17 = .ok (.invokevirtual 29, 3) := by decide +kernel
theorem dX1_restore_20 : decode cX1_restore 20 = .ok (.aload_n 0, 1) := by decide +kernel
theorem dX1_restore_21 : decode cX1_restore 21 = .ok (.dup, 1) := by decide +kernel
theorem dX1_restore_22 : decode cX1_restore 22 = .ok (.getfield 18, 3) := by decide +kernel
theorem dX1_restore_25 : decode cX1_restore 25 = .ok (.iconst 1, 1) := by decide +kernel
theorem dX1_restore_26 : decode cX1_restore 26 = .ok (.isub, 1) := by decide +kernel
theorem dX1_restore_27 : decode cX1_restore 27 = .ok (.putfield 18, 3) := by decide +kernel
theorem dX1_restore_30 : decode cX1_restore 30 = .ok (.return_, 1) := by decide +kernel
theorem dX1_stateAt_0 : decode cX1_stateAt 0 = .ok (.aload_n 0, 1) := by decide +kernel
theorem dX1_stateAt_1 : decode cX1_stateAt 1 = .ok (.getfield 22, 3) := by decide +kernel
theorem dX1_stateAt_4 : decode cX1_stateAt 4 = .ok (.iload_n 1, 1) := by decide +kernel
theorem dX1_stateAt_5 : decode cX1_stateAt 5 = .ok (.iadd, 1) := by decide +kernel
theorem dX1_stateAt_6 : decode cX1_stateAt 6 = .ok (.bipush 6, 2) := by decide +kernel
theorem dX1_stateAt_8 : decode cX1_stateAt 8 = .ok (.irem, 1) := by decide +kernel
theorem dX1_stateAt_9 : decode cX1_stateAt 9 = .ok (.istore_n 2, 1) := by decide +kernel
theorem dX1_stateAt_10 : decode cX1_stateAt 10 = .ok (.iload_n 1, 1) := by decide +kernel
theorem dX1_stateAt_11 : decode cX1_stateAt 11 = .ok (.ifCond .lt 25, 3) := by decide +kernel
theorem dX1_stateAt_14 : decode cX1_stateAt 14 = .ok (.iload_n 2, 1) := by decide +kernel
theorem dX1_stateAt_15 : decode cX1_stateAt 15 = .ok (.ifCond .lt 21, 3) := by decide +kernel
theorem dX1_stateAt_18 : decode cX1_stateAt 18 = .ok (.iload_n 2, 1) := by decide +kernel
theorem dX1_stateAt_19 : decode cX1_stateAt 19 = .ok (.aload_n 0, 1) := by decide +kernel
theorem dX1_stateAt_20 : decode cX1_stateAt 20 = .ok (.getfield 11, 3) := by decide +kernel
theorem dX1_stateAt_23 : decode cX1_stateAt 23 = .ok (.arraylength, 1) := by decide +kernel
theorem dX1_stateAt_24 : decode cX1_stateAt 24 = .ok (.if_icmp .ge 12, 3) := by decide +kernel
theorem dX1_stateAt_27 : decode cX1_stateAt 27 = .ok (.aload_n 0, 1) := by decide +kernel
theorem dX1_stateAt_28 : decode cX1_stateAt 28 = .ok (.getfield 11, 3) := by decide +kernel
theorem dX1_stateAt_31 : decode cX1_stateAt 31 = .ok (.iload_n 2, 1) := by decide +kernel
theorem dX1_stateAt_32 : decode cX1_stateAt 32 = .ok (.aaload, 1) := by decide +kernel
theorem dX1_stateAt_33 : decode cX1_stateAt 33 = .ok (.goto 4, 3) := by decide +kernel
theorem dX1_stateAt_36 : decode cX1_stateAt 36 = .ok (.aconst_null, 1) := by decide +kernel
theorem dX1_stateAt_37 : decode cX1_stateAt 37 = .ok (.areturn, 1) := by decide +kernel
theorem dX2_init_0 : decode cX2_init 0 = .ok (.aload_n 0, 1) := by decide +kernel
theorem dX2_init_1 : decode cX2_init 1 = .ok (.invokespecial 3, 3) := by decide +kernel
theorem dX2_init_4 : decode cX2_init 4 = .ok (.aload_n 0, 1) := by decide +kernel
theorem dX2_init_5 : decode cX2_init 5 = .ok (.bipush 40, 2) := by decide +kernel
theorem dX2_init_7 : decode cX2_init 7 = .ok (.newarray .boolean, 2) := by decide +kernel
theorem dX2_init_9 : decode cX2_init 9 = .ok (.putfield 9, 3) := by decide +kernel
theorem dX2_init_12 : decode cX2_init 12 = .ok (.aload_n 0, 1) := by decide +kernel
theorem dX2_init_13 : decode cX2_init 13 = .ok (.bipush 24, 2) := by decide +kernel
theorem dX2_init_15 : decode cX2_init 15 = .ok (.newarray .int, 2) := by decide +kernel
theorem dX2_init_17 : decode cX2_init 17 = .ok (.putfield 15, 3) := by decide +kernel
theorem dX2_init_20 : decode cX2_init 20 = .ok (.aload_n 0, 1) := by decide +kernel
theorem dX2_init_21 : decode cX2_init 21 = .ok (.bipush 24, 2) := by decide +kernel
theorem dX2_init_23 : decode cX2_init 23 = .ok (.newarray .int, 2) := by decide +kernel
theorem dX2_init_25 : decode cX2_init 25 = .ok (.putfield 19, 3) := by decide +kernel
theorem dX2_init_28 : decode cX2_init 28 = .ok (.return_, 1) := by decide +kernel
theorem dX2_restart_0 : decode cX2_restart 0 = .ok (.iconst 0, 1) := by decide +kernel
theorem dX2_restart_1 : decode cX2_restart 1 = .ok (.istore_n 1, 1) := by decide +kernel
theorem dX2_restart_2 : decode cX2_restart 2 = .ok (.iload_n 1, 1) := by decide +kernel
theorem dX2_restart_3 : decode cX2_restart 3 = .ok (.aload_n 0, 1) := by decide +kernel
theorem dX2_restart_4 : decode cX2_restart 4 = .ok (.getfield 9, 3) := by decide +kernel
theorem dX2_restart_7 : decode cX2_restart 7 = .ok (.arraylength, 1) := by decide +kernel
theorem dX2_restart_8 : decode cX2_restart 8 = .ok (.if_icmp .ge 16, 3) := by decide +kernel
theorem dX2_restart_11 : decode cX2_restart 11 = .ok (.aload_n 0, 1) := by decide +kernel
theorem dX2_restart_12 : decode cX2_restart 12 = .ok (.getfield 9, 3) := by decide +kernel
theorem dX2_restart_15 : decode cX2_restart 15 = .ok (.iload_n 1, 1) := by decide +kernel
theorem dX2_restart_16 : decode cX2_restart 16 = .ok (.iconst 0, 1) := by decide +kernel
theorem dX2_restart_17 : decode cX2_restart 17 = .ok (.bastore, 1) := by decide +kernel
theorem dX2_restart_18 : decode cX2_restart 18 = .ok (.iinc 1 1, 3) := by decide +kernel
theorem dX2_restart_21 : decode cX2_restart 21 = .ok (.goto (-19), 3) := by decide +kernel
theorem dX2_restart_24 : decode cX2_restart 24 = .ok (.aload_n 0, 1) := by decide +kernel
theorem dX2_restart_25 : decode cX2_restart 25 = .ok (.iconst 0, 1) := by decide +kernel
theorem dX2_restart_26 : decode cX2_restart 26 = .ok (.putfield 22, 3) := by decide +kernel
theorem dX2_restart_29 : decode cX2_restart 29 = .ok (.aload_n 0, 1) := by decide +kernel
theorem dX2_restart_30 : decode cX2_restart 30 = .ok (.iconst 0, 1) := by decide +kernel
theorem dX2_restart_31 : decode cX2_restart 31 = .ok (.putfield 26, 3) := by decide +kernel
theorem dX2_restart_34 : decode cX2_restart 34 = .ok (.aload_n 0, 1) := by decide +kernel
theorem dX2_restart_35 : decode cX2_restart 35 = .ok (.iconst 0, 1) := by decide +kernel
theorem dX2_restart_36 : decode cX2_restart 36 = .ok (.putfield 29, 3) := by decide +kernel
theorem dX2_restart_39 : decode cX2_restart 39 = .ok (.aload_n 0, 1) := by decide +kernel
theorem dX2_restart_40 : decode cX2_restart 40 = .ok (.iconst (-1), 1) := by decide +kernel
theorem dX2_restart_41 : decode cX2_restart 41 = .ok (.putfield 32, 3) := by decide +kernel
theorem dX2_restart_44 : decode cX2_restart 44 = .ok (.return_, 1) := by decide +kernel
theorem dX2_wordTold_0 : decode cX2_wordTold 0 = .ok (.aload_n 0, 1) := by decide +kernel
theorem dX2_wordTold_1 : decode cX2_wordTold 1 = .ok (.getfield 15, 3) := by decide +kernel
theorem dX2_wordTold_4 : decode cX2_wordTold 4 = .ok (.iload_n 1, 1) := by decide +kernel
theorem dX2_wordTold_5 : decode cX2_wordTold 5 = .ok (.invokestatic 35, 3) := by decide +kernel
theorem dX2_wordTold_8 : decode cX2_wordTold 8 = .ok (.ireturn, 1) := by decide +kernel
theorem dX2_lineTold_0 : decode cX2_lineTold 0 = .ok (.aload_n 0, 1) := by decide +kernel
theorem dX2_lineTold_1 : decode cX2_lineTold 1 = .ok (.getfield 19, 3) := by decide +kernel
theorem dX2_lineTold_4 : decode cX2_lineTold 4 = .ok (.iload_n 1, 1) := by decide +kernel
theorem dX2_lineTold_5 : decode cX2_lineTold 5 = .ok (.invokestatic 35, 3) := by decide +kernel
theorem dX2_lineTold_8 : decode cX2_lineTold 8 = .ok (.ireturn, 1) := by decide +kernel
theorem dX2_takes_0 : decode cX2_takes 0 = .ok (.iload_n 1, 1) := by decide +kernel
theorem dX2_takes_1 : decode cX2_takes 1 = .ok (.bipush 48, 2) := by decide +kernel
theorem dX2_takes_3 : decode cX2_takes 3 = .ok (.if_icmp .lt 18, 3) := by decide +kernel
theorem dX2_takes_6 : decode cX2_takes 6 = .ok (.iload_n 1, 1) := by decide +kernel
theorem dX2_takes_7 : decode cX2_takes 7 = .ok (.bipush 57, 2) := by decide +kernel
theorem dX2_takes_9 : decode cX2_takes 9 = .ok (.if_icmp .gt 12, 3) := by decide +kernel
theorem dX2_takes_12 : decode cX2_takes 12 = .ok (.aload_n 0, 1) := by decide +kernel
theorem dX2_takes_13 : decode cX2_takes 13 = .ok (.iload_n 1, 1) := by decide +kernel
theorem dX2_takes_14 : decode cX2_takes 14 = .ok (.bipush 48, 2) := by decide +kernel
theorem dX2_takes_16 : decode cX2_takes 16 = .ok (.isub, 1) := by decide +kernel
theorem dX2_takes_17 : decode cX2_takes 17 = .ok (.invokevirtual 39, 3) := by decide +kernel
theorem dX2_takes_20 : decode cX2_takes 20 = .ok (.ireturn, 1) := by decide +kernel
theorem dX2_takes_21 : decode cX2_takes 21 = .ok (.iload_n 1, 1) := by decide +kernel
theorem dX2_takes_22 : decode cX2_takes 22 = .ok (.bipush 44, 2) := by decide +kernel
theorem dX2_takes_24 : decode cX2_takes 24 = .ok (.if_icmp .ne 24, 3) := by decide +kernel
theorem dX2_takes_27 : decode cX2_takes 27 = .ok (.aload_n 0, 1) := by decide +kernel
theorem dX2_takes_28 : decode cX2_takes 28 = .ok (.getfield 29, 3) := by decide +kernel
theorem dX2_takes_31 : decode cX2_takes 31 = .ok (.iconst 5, 1) := by decide +kernel
theorem dX2_takes_32 : decode cX2_takes 32 = .ok (.if_icmp .ge 14, 3) := by decide +kernel
theorem dX2_takes_35 : decode cX2_takes 35 = .ok (.aload_n 0, 1) := by decide +kernel
theorem dX2_takes_36 : decode cX2_takes 36 = .ok (.invokevirtual 43, 3) := by decide +kernel
theorem dX2_takes_39 : decode cX2_takes 39 = .ok (.ifCond .eq 7, 3) := by decide +kernel
theorem dX2_takes_42 : decode cX2_takes 42 = .ok (.iconst 1, 1) := by decide +kernel
theorem dX2_takes_43 : decode cX2_takes 43 = .ok (.goto 4, 3) := by decide +kernel
theorem dX2_takes_46 : decode cX2_takes 46 = .ok (.iconst 0, 1) := by decide +kernel
theorem dX2_takes_47 : decode cX2_takes 47 = .ok (.ireturn, 1) := by decide +kernel
theorem dX2_takes_48 : decode cX2_takes 48 = .ok (.iload_n 1, 1) := by decide +kernel
theorem dX2_takes_49 : decode cX2_takes 49 = .ok (.bipush 47, 2) := by decide +kernel
theorem dX2_takes_51 : decode cX2_takes 51 = .ok (.if_icmp .ne 18, 3) := by decide +kernel
theorem dX2_takes_54 : decode cX2_takes 54 = .ok (.aload_n 0, 1) := by decide +kernel
theorem dX2_takes_55 : decode cX2_takes 55 = .ok (.getfield 26, 3) := by decide +kernel
theorem dX2_takes_58 : decode cX2_takes 58 = .ok (.iconst 3, 1) := by decide +kernel
theorem dX2_takes_59 : decode cX2_takes 59 = .ok (.if_icmp .ge 10, 3) := by decide +kernel
theorem dX2_takes_62 : decode cX2_takes 62 = .ok (.aload_n 0, 1) := by decide +kernel
theorem dX2_takes_63 : decode cX2_takes 63 = .ok (.invokevirtual 43, 3) := by decide +kernel
theorem dX2_takes_66 : decode cX2_takes 66 = .ok (.ifCond .ne 5, 3) := by decide +kernel
theorem dX2_takes_69 : decode cX2_takes 69 = .ok (.iconst 0, 1) := by decide +kernel
theorem dX2_takes_70 : decode cX2_takes 70 = .ok (.ireturn, 1) := by decide +kernel
theorem dX2_takes_71 : decode cX2_takes 71 = .ok (.aload_n 0, 1) := by decide +kernel
theorem dX2_takes_72 : decode cX2_takes 72 = .ok (.dup, 1) := by decide +kernel
theorem dX2_takes_73 : decode cX2_takes 73 = .ok (.getfield 26, 3) := by decide +kernel
theorem dX2_takes_76 : decode cX2_takes 76 = .ok (.iconst 1, 1) := by decide +kernel
theorem dX2_takes_77 : decode cX2_takes 77 = .ok (.iadd, 1) := by decide +kernel
theorem dX2_takes_78 : decode cX2_takes 78 = .ok (.putfield 26, 3) := by decide +kernel
theorem dX2_takes_81 : decode cX2_takes 81 = .ok (.aload_n 0, 1) := by decide +kernel
theorem dX2_takes_82 : decode cX2_takes 82 = .ok (.iconst 0, 1) := by decide +kernel
theorem dX2_takes_83 : decode cX2_takes 83 = .ok (.putfield 29, 3) := by decide +kernel
theorem dX2_takes_86 : decode cX2_takes 86 = .ok (.iconst 1, 1) := by decide +kernel
theorem dX2_takes_87 : decode cX2_takes 87 = .ok (.ireturn, 1) := by decide +kernel
theorem dX2_closesNumber_0 : decode cX2_closesNumber 0 = .ok (.aload_n 0, 1) := by decide +kernel
theorem dX2_closesNumber_1 : decode cX2_closesNumber 1 = .ok (.aload_n 0, 1) := by decide +kernel
theorem dX2_closesNumber_2 : decode cX2_closesNumber 2 = .ok (.getfield 32, 3) := by decide +kernel
theorem dX2_closesNumber_5 : decode cX2_closesNumber 5 = .ok (.invokevirtual 47, 3) := by decide +kernel
theorem dX2_closesNumber_8 : decode cX2_closesNumber 8 = .ok (.ifCond .eq 19, 3) := by decide +kernel
theorem dX2_closesNumber_11 : decode cX2_closesNumber 11 = .ok (.aload_n 0, 1) := by decide +kernel
theorem dX2_closesNumber_12 : decode cX2_closesNumber 12 = .ok (.getfield 22, 3) := by decide +kernel
theorem dX2_closesNumber_15 : decode cX2_closesNumber 15 = .ok (.ifCond .lt 12, 3) := by decide +kernel
theorem dX2_closesNumber_18 : decode cX2_closesNumber 18 = .ok (.aload_n 0, 1) := by decide +kernel
theorem dX2_closesNumber_19 : decode cX2_closesNumber 19 = .ok (.getfield 22, 3) := by decide +kernel
theorem dX2_closesNumber_22 : decode cX2_closesNumber 22 = .ok (.bipush 24, 2) := by decide +kernel
theorem dX2_closesNumber_24 : decode cX2_closesNumber 24 = .ok (.if_icmp .lt 5, 3) := by decide +kernel
theorem dX2_closesNumber_27 : decode cX2_closesNumber 27 = .ok (.iconst 0, 1) := by decide +kernel
theorem dX2_closesNumber_28 : decode cX2_closesNumber 28 = .ok (.ireturn, 1) := by decide +kernel
theorem dX2_closesNumber_29 : decode cX2_closesNumber 29 = .ok (.aload_n 0, 1) := by decide +kernel
theorem dX2_closesNumber_30 : decode cX2_closesNumber 30 = .ok (.aload_n 0, 1) := by decide +kernel
theorem dX2_closesNumber_31 : decode cX2_closesNumber 31 = .ok (.getfield 32, 3) := by decide +kernel
theorem dX2_closesNumber_34 : decode cX2_closesNumber 34 = .ok (.invokevirtual 50, 3) := by decide +kernel
theorem dX2_closesNumber_37 : decode cX2_closesNumber 37 = .ok (.aload_n 0, 1) := by decide +kernel
theorem dX2_closesNumber_38 : decode cX2_closesNumber 38 = .ok (.getfield 15, 3) := by decide +kernel
theorem dX2_closesNumber_41 : decode cX2_closesNumber 41 = .ok (.aload_n 0, 1) := by decide +kernel
theorem dX2_closesNumber_42 : decode cX2_closesNumber 42 = .ok (.getfield 22, 3) := by decide +kernel
theorem dX2_closesNumber_45 : decode cX2_closesNumber 45 = .ok (.aload_n 0, 1) := by decide +kernel
theorem dX2_closesNumber_46 : decode cX2_closesNumber 46 = .ok (.getfield 32, 3) := by decide +kernel
theorem dX2_closesNumber_49 : decode cX2_closesNumber 49 = .ok (.invokestatic 54, 3) := by decide +kernel
theorem dX2_closesNumber_52 : decode cX2_closesNumber 52 = .ok (.aload_n 0, 1) := by decide +kernel
theorem dX2_closesNumber_53 : decode cX2_closesNumber 53 = .ok (.getfield 19, 3) := by decide +kernel
theorem dX2_closesNumber_56 : decode cX2_closesNumber 56 = .ok (.aload_n 0, 1) := by decide +kernel
theorem dX2_closesNumber_57 : decode cX2_closesNumber 57 = .ok (.getfield 22, 3) := by decide +kernel
theorem dX2_closesNumber_60 : decode cX2_closesNumber 60 = .ok (.aload_n 0, 1) := by decide +kernel
theorem dX2_closesNumber_61 : decode cX2_closesNumber 61 = .ok (.getfield 26, 3) := by decide +kernel
theorem dX2_closesNumber_64 : decode cX2_closesNumber 64 = .ok (.invokestatic 54, 3) := by decide +kernel
theorem dX2_closesNumber_67 : decode cX2_closesNumber 67 = .ok (.aload_n 0, 1) := by decide +kernel
theorem dX2_closesNumber_68 : decode cX2_closesNumber 68 = .ok (.dup, 1) := by decide +kernel
theorem dX2_closesNumber_69 : decode cX2_closesNumber 69 = .ok (.getfield 22, 3) := by decide +kernel
theorem dX2_closesNumber_72 : decode cX2_closesNumber 72 = .ok (.iconst 1, 1) := by decide +kernel
theorem dX2_closesNumber_73 : decode cX2_closesNumber 73 = .ok (.iadd, 1) := by decide +kernel
theorem dX2_closesNumber_74 : decode cX2_closesNumber 74 = .ok (.putfield 22, 3) := by decide +kernel
theorem dX2_closesNumber_77 : decode cX2_closesNumber 77 = .ok (.aload_n 0, 1) := by decide +kernel
theorem dX2_closesNumber_78 : decode cX2_closesNumber 78 = .ok (.dup, 1) := by decide +kernel
theorem dX2_closesNumber_79 : decode cX2_closesNumber 79 = .ok (.getfield 29, 3) := by decide +kernel
theorem dX2_closesNumber_82 : decode cX2_closesNumber 82 = .ok (.iconst 1, 1) := by decide +kernel
theorem dX2_closesNumber_83 : decode cX2_closesNumber 83 = .ok (.iadd, 1) := by decide +kernel
theorem dX2_closesNumber_84 : decode cX2_closesNumber 84 = .ok (.putfield 29, 3) := by decide +kernel
theorem dX2_closesNumber_87 : decode cX2_closesNumber 87 = .ok (.aload_n 0, 1) := by decide +kernel
theorem dX2_closesNumber_88 : decode cX2_closesNumber 88 = .ok (.iconst (-1), 1) := by decide +kernel
theorem dX2_closesNumber_89 : decode cX2_closesNumber 89 = .ok (.putfield 32, 3) := by decide +kernel
theorem dX2_closesNumber_92 : decode cX2_closesNumber 92 = .ok (.iconst 1, 1) := by decide +kernel
theorem dX2_closesNumber_93 : decode cX2_closesNumber 93 = .ok (.ireturn, 1) := by decide +kernel
theorem dX2_takesDigit_0 : decode cX2_takesDigit 0 = .ok (.aload_n 0, 1) := by decide +kernel
theorem dX2_takesDigit_1 : decode cX2_takesDigit 1 = .ok (.getfield 32, 3) := by decide +kernel
theorem dX2_takesDigit_4 : decode cX2_takesDigit 4 = .ok (.iconst (-1), 1) := by decide +kernel
theorem dX2_takesDigit_5 : decode cX2_takesDigit 5 = .ok (.if_icmp .ne 7, 3) := by decide +kernel
theorem dX2_takesDigit_8 : decode cX2_takesDigit 8 = .ok (.iload_n 1, 1) := by decide +kernel
theorem dX2_takesDigit_9 : decode cX2_takesDigit 9 = .ok (.goto 12, 3) := by decide +kernel
theorem dX2_takesDigit_12 : decode cX2_takesDigit 12 = .ok (.bipush 10, 2) := by decide +kernel
theorem dX2_takesDigit_14 : decode cX2_takesDigit 14 = .ok (.aload_n 0, 1) := by decide +kernel
theorem dX2_takesDigit_15 : decode cX2_takesDigit 15 = .ok (.getfield 32, 3) := by decide +kernel
theorem dX2_takesDigit_18 : decode cX2_takesDigit 18 = .ok (.imul, 1) := by decide +kernel
theorem dX2_takesDigit_19 : decode cX2_takesDigit 19 = .ok (.iload_n 1, 1) := by decide +kernel
theorem dX2_takesDigit_20 : decode cX2_takesDigit 20 = .ok (.iadd, 1) := by decide +kernel
theorem dX2_takesDigit_21 : decode cX2_takesDigit 21 = .ok (.istore_n 2, 1) := by decide +kernel
theorem dX2_takesDigit_22 : decode cX2_takesDigit 22 = .ok (.aload_n 0, 1) := by decide +kernel
theorem dX2_takesDigit_23 : decode cX2_takesDigit 23 = .ok (.getfield 32, 3) := by decide +kernel
theorem dX2_takesDigit_26 : decode cX2_takesDigit 26 = .ok (.iconst (-1), 1) := by decide +kernel
theorem dX2_takesDigit_27 : decode cX2_takesDigit 27 = .ok (.if_icmp .ne 11, 3) := by decide +kernel
theorem dX2_takesDigit_30 : decode cX2_takesDigit 30 = .ok (.aload_n 0, 1) := by decide +kernel
theorem dX2_takesDigit_31 : decode cX2_takesDigit 31 = .ok (.iload_n 1, 1) := by decide +kernel
theorem dX2_takesDigit_32 : decode cX2_takesDigit 32 = .ok (.invokevirtual 58, 3) := by decide +kernel
theorem dX2_takesDigit_35 : decode cX2_takesDigit 35 = .ok (.goto 23, 3) := by decide +kernel
theorem dX2_takesDigit_38 : decode cX2_takesDigit 38 = .ok (.aload_n 0, 1) := by decide +kernel
theorem dX2_takesDigit_39 : decode cX2_takesDigit 39 = .ok (.getfield 32, 3) := by decide +kernel
theorem dX2_takesDigit_42 : decode cX2_takesDigit 42 = .ok (.ifCond .eq 15, 3) := by decide +kernel
theorem dX2_takesDigit_45 : decode cX2_takesDigit 45 = .ok (.aload_n 0, 1) := by decide +kernel
theorem dX2_takesDigit_46 : decode cX2_takesDigit 46 = .ok (.iload_n 2, 1) := by decide +kernel
theorem dX2_takesDigit_47 : decode cX2_takesDigit 47 = .ok (.invokevirtual 47, 3) := by decide +kernel
theorem dX2_takesDigit_50 : decode cX2_takesDigit 50 = .ok (.ifCond .eq 7, 3) := by decide +kernel
theorem dX2_takesDigit_53 : decode cX2_takesDigit 53 = .ok (.iconst 1, 1) := by decide +kernel
theorem dX2_takesDigit_54 : decode cX2_takesDigit 54 = .ok (.goto 4, 3) := by decide +kernel
theorem dX2_takesDigit_57 : decode cX2_takesDigit 57 = .ok (.iconst 0, 1) := by decide +kernel
theorem dX2_takesDigit_58 : decode cX2_takesDigit 58 = .ok (.istore_n 3, 1) := by decide +kernel
theorem dX2_takesDigit_59 : decode cX2_takesDigit 59 = .ok (.iload_n 3, 1) := by decide +kernel
theorem dX2_takesDigit_60 : decode cX2_takesDigit 60 = .ok (.ifCond .eq 8, 3) := by decide +kernel
theorem dX2_takesDigit_63 : decode cX2_takesDigit 63 = .ok (.aload_n 0, 1) := by decide +kernel
theorem dX2_takesDigit_64 : decode cX2_takesDigit 64 = .ok (.iload_n 2, 1) := by decide +kernel
theorem dX2_takesDigit_65 : decode cX2_takesDigit 65 = .ok (.putfield 32, 3) := by decide +kernel
theorem dX2_takesDigit_68 : decode cX2_takesDigit 68 = .ok (.iload_n 3, 1) := by decide +kernel
theorem dX2_takesDigit_69 : decode cX2_takesDigit 69 = .ok (.ireturn, 1) := by decide +kernel
theorem dX2_canBegin_0 : decode cX2_canBegin 0 = .ok (.aload_n 0, 1) := by decide +kernel
theorem dX2_canBegin_1 : decode cX2_canBegin 1 = .ok (.iload_n 1, 1) := by decide +kernel
theorem dX2_canBegin_2 : decode cX2_canBegin 2 = .ok (.invokevirtual 47, 3) := by decide +kernel
theorem dX2_canBegin_5 : decode cX2_canBegin 5 = .ok (.ifCond .eq 5, 3) := by decide +kernel
theorem dX2_canBegin_8 : decode cX2_canBegin 8 = .ok (.iconst 1, 1) := by decide +kernel
theorem dX2_canBegin_9 : decode cX2_canBegin 9 = .ok (.ireturn, 1) := by decide +kernel
theorem dX2_canBegin_10 : decode cX2_canBegin 10 = .ok (.iconst 0, 1) := by decide +kernel
theorem dX2_canBegin_11 : decode cX2_canBegin 11 = .ok (.istore_n 2, 1) := by decide +kernel
theorem dX2_canBegin_12 : decode cX2_canBegin 12 = .ok (.iconst 0, 1) := by decide +kernel
theorem dX2_canBegin_13 : decode cX2_canBegin 13 = .ok (.istore_n 3, 1) := by decide +kernel
theorem dX2_canBegin_14 : decode cX2_canBegin 14 = .ok (.iload_n 3, 1) := by decide +kernel
theorem dX2_canBegin_15 : decode cX2_canBegin 15 = .ok (.bipush 10, 2) := by decide +kernel
theorem dX2_canBegin_17 : decode cX2_canBegin 17 = .ok (.if_icmp .ge 36, 3) := by decide +kernel
theorem dX2_canBegin_20 : decode cX2_canBegin 20 = .ok (.iload_n 1, 1) := by decide +kernel
theorem dX2_canBegin_21 : decode cX2_canBegin 21 = .ok (.ifCond .le 32, 3) := by decide +kernel
theorem dX2_canBegin_24 : decode cX2_canBegin 24 = .ok (.iload_n 2, 1) := by decide +kernel
theorem dX2_canBegin_25 : decode cX2_canBegin 25 = .ok (.ifCond .ne 16, 3) := by decide +kernel
theorem dX2_canBegin_28 : decode cX2_canBegin 28 = .ok (.aload_n 0, 1) := by decide +kernel
theorem dX2_canBegin_29 : decode cX2_canBegin 29 = .ok (.bipush 10, 2) := by decide +kernel
theorem dX2_canBegin_31 : decode cX2_canBegin 31 = .ok (.iload_n 1, 1) := by decide +kernel
theorem dX2_canBegin_32 : decode cX2_canBegin 32 = .ok (.imul, 1) := by decide +kernel
theorem dX2_canBegin_33 : decode cX2_canBegin 33 = .ok (.iload_n 3, 1) := by decide +kernel
theorem dX2_canBegin_34 : decode cX2_canBegin 34 = .ok (.iadd, 1) := by decide +kernel
theorem dX2_canBegin_35 : decode cX2_canBegin 35 = .ok (.invokevirtual 47, 3) := by decide +kernel
theorem dX2_canBegin_38 : decode cX2_canBegin 38 = .ok (.ifCond .eq 7, 3) := by decide +kernel
theorem dX2_canBegin_41 : decode cX2_canBegin 41 = .ok (.iconst 1, 1) := by decide +kernel
theorem dX2_canBegin_42 : decode cX2_canBegin 42 = .ok (.goto 4, 3) := by decide +kernel
theorem dX2_canBegin_45 : decode cX2_canBegin 45 = .ok (.iconst 0, 1) := by decide +kernel
theorem dX2_canBegin_46 : decode cX2_canBegin 46 = .ok (.istore_n 2, 1) := by decide +kernel
theorem dX2_canBegin_47 : decode cX2_canBegin 47 = .ok (.iinc 3 1, 3) := by decide +kernel
theorem dX2_canBegin_50 : decode cX2_canBegin 50 = .ok (.goto (-36), 3) := by decide +kernel
theorem dX2_canBegin_53 : decode cX2_canBegin 53 = .ok (.iload_n 2, 1) := by decide +kernel
theorem dX2_canBegin_54 : decode cX2_canBegin 54 = .ok (.ireturn, 1) := by decide +kernel
theorem dX2_isFree_0 : decode cX2_isFree 0 = .ok (.iload_n 1, 1) := by decide +kernel
theorem dX2_isFree_1 : decode cX2_isFree 1 = .ok (.ifCond .lt 25, 3) := by decide +kernel
theorem dX2_isFree_4 : decode cX2_isFree 4 = .ok (.iload_n 1, 1) := by decide +kernel
theorem dX2_isFree_5 : decode cX2_isFree 5 = .ok (.aload_n 0, 1) := by decide +kernel
theorem dX2_isFree_6 : decode cX2_isFree 6 = .ok (.getfield 9, 3) := by decide +kernel
theorem dX2_isFree_9 : decode cX2_isFree 9 = .ok (.arraylength, 1) := by decide +kernel
theorem dX2_isFree_10 : decode cX2_isFree 10 = .ok (.if_icmp .ge 16, 3) := by decide +kernel
theorem dX2_isFree_13 : decode cX2_isFree 13 = .ok (.aload_n 0, 1) := by decide +kernel
theorem dX2_isFree_14 : decode cX2_isFree 14 = .ok (.getfield 9, 3) := by decide +kernel
theorem dX2_isFree_17 : decode cX2_isFree 17 = .ok (.iload_n 1, 1) := by decide +kernel
theorem dX2_isFree_18 : decode cX2_isFree 18 = .ok (.baload, 1) := by decide +kernel
theorem dX2_isFree_19 : decode cX2_isFree 19 = .ok (.ifCond .ne 7, 3) := by decide +kernel
theorem dX2_isFree_22 : decode cX2_isFree 22 = .ok (.iconst 1, 1) := by decide +kernel
theorem dX2_isFree_23 : decode cX2_isFree 23 = .ok (.goto 4, 3) := by decide +kernel
theorem dX2_isFree_26 : decode cX2_isFree 26 = .ok (.iconst 0, 1) := by decide +kernel
theorem dX2_isFree_27 : decode cX2_isFree 27 = .ok (.ireturn, 1) := by decide +kernel
theorem dX2_setTold_0 : decode cX2_setTold 0 = .ok (.iload_n 1, 1) := by decide +kernel
theorem dX2_setTold_1 : decode cX2_setTold 1 = .ok (.ifCond .lt 19, 3) := by decide +kernel
theorem dX2_setTold_4 : decode cX2_setTold 4 = .ok (.iload_n 1, 1) := by decide +kernel
theorem dX2_setTold_5 : decode cX2_setTold 5 = .ok (.aload_n 0, 1) := by decide +kernel
theorem dX2_setTold_6 : decode cX2_setTold 6 = .ok (.getfield 9, 3) := by decide +kernel
theorem dX2_setTold_9 : decode cX2_setTold 9 = .ok (.arraylength, 1) := by decide +kernel
theorem dX2_setTold_10 : decode cX2_setTold 10 = .ok (.if_icmp .ge 10, 3) := by decide +kernel
theorem dX2_setTold_13 : decode cX2_setTold 13 = .ok (.aload_n 0, 1) := by decide +kernel
theorem dX2_setTold_14 : decode cX2_setTold 14 = .ok (.getfield 9, 3) := by decide +kernel
theorem dX2_setTold_17 : decode cX2_setTold 17 = .ok (.iload_n 1, 1) := by decide +kernel
theorem dX2_setTold_18 : decode cX2_setTold 18 = .ok (.iconst 1, 1) := by decide +kernel
theorem dX2_setTold_19 : decode cX2_setTold 19 = .ok (.bastore, 1) := by decide +kernel
theorem dX2_setTold_20 : decode cX2_setTold 20 = .ok (.return_, 1) := by decide +kernel
theorem dX3_init_0 : decode cX3_init 0 = .ok (.aload_n 0, 1) := by decide +kernel
theorem dX3_init_1 : decode cX3_init 1 = .ok (.invokespecial 1, 3) := by decide +kernel
theorem dX3_init_4 : decode cX3_init 4 = .ok (.aload_n 0, 1) := by decide +kernel
theorem dX3_init_5 : decode cX3_init 5 = .ok (.new 7, 3) := by decide +kernel
theorem dX3_init_8 : decode cX3_init 8 = .ok (.dup, 1) := by decide +kernel
theorem dX3_init_9 : decode cX3_init 9 = .ok (.invokespecial 9, 3) := by decide +kernel
theorem dX3_init_12 : decode cX3_init 12 = .ok (.putfield 10, 3) := by decide +kernel
theorem dX3_init_15 : decode cX3_init 15 = .ok (.aload_n 0, 1) := by decide +kernel
theorem dX3_init_16 : decode cX3_init 16 = .ok (.new 7, 3) := by decide +kernel
theorem dX3_init_19 : decode cX3_init 19 = .ok (.dup, 1) := by decide +kernel
theorem dX3_init_20 : decode cX3_init 20 = .ok (.invokespecial 9, 3) := by decide +kernel
theorem dX3_init_23 : decode cX3_init 23 = .ok (.putfield 16, 3) := by decide +kernel
theorem dX3_init_26 : decode cX3_init 26 = .ok (.aload_n 0, 1) := by decide +kernel
theorem dX3_init_27 : decode cX3_init 27 = .ok (.new 19, 3) := by decide +kernel
theorem dX3_init_30 : decode cX3_init 30 = .ok (.dup, 1) := by decide +kernel
theorem dX3_init_31 : decode cX3_init 31 = .ok (.invokespecial 21, 3) := by decide +kernel
theorem dX3_init_34 : decode cX3_init 34 = .ok (.putfield 22, 3) := by decide +kernel
theorem dX3_init_37 : decode cX3_init 37 = .ok (.aload_n 0, 1) := by decide +kernel
theorem dX3_init_38 : decode cX3_init 38 = .ok (.iconst 2, 1) := by decide +kernel
theorem dX3_init_39 : decode cX3_init 39 = .ok (.anewarray 7, 3) := by decide +kernel
theorem dX3_init_42 : decode cX3_init 42 = .ok (.putfield 26, 3) := by decide +kernel
theorem dX3_init_45 : decode cX3_init 45 = .ok (.aload_n 0, 1) := by decide +kernel
theorem dX3_init_46 : decode cX3_init 46 = .ok (.iconst 2, 1) := by decide +kernel
theorem dX3_init_47 : decode cX3_init 47 = .ok (.newarray .boolean, 2) := by decide +kernel
theorem dX3_init_49 : decode cX3_init 49 = .ok (.putfield 30, 3) := by decide +kernel
theorem dX3_init_52 : decode cX3_init 52 = .ok (.aload_n 0, 1) := by decide +kernel
theorem dX3_init_53 : decode cX3_init 53 = .ok (.bipush 60, 2) := by decide +kernel
theorem dX3_init_55 : decode cX3_init 55 = .ok (.newarray .int, 2) := by decide +kernel
theorem dX3_init_57 : decode cX3_init 57 = .ok (.putfield 34, 3) := by decide +kernel
theorem dX3_init_60 : decode cX3_init 60 = .ok (.aload_n 0, 1) := by decide +kernel
theorem dX3_init_61 : decode cX3_init 61 = .ok (.new 38, 3) := by decide +kernel
theorem dX3_init_64 : decode cX3_init 64 = .ok (.dup, 1) := by decide +kernel
theorem dX3_init_65 : decode cX3_init 65 = .ok (.invokespecial 40, 3) := by decide +kernel
theorem dX3_init_68 : decode cX3_init 68 = .ok (.putfield 41, 3) := by decide +kernel
theorem dX3_init_71 : decode cX3_init 71 = .ok (.iconst 0, 1) := by decide +kernel
theorem dX3_init_72 : decode cX3_init 72 = .ok (.istore_n 1, 1) := by decide +kernel
theorem dX3_init_73 : decode cX3_init 73 = .ok (.iload_n 1, 1) := by decide +kernel
theorem dX3_init_74 : decode cX3_init 74 = .ok (.aload_n 0, 1) := by decide +kernel
theorem dX3_init_75 : decode cX3_init 75 = .ok (.getfield 26, 3) := by decide +kernel
theorem dX3_init_78 : decode cX3_init 78 = .ok (.arraylength, 1) := by decide +kernel
theorem dX3_init_79 : decode cX3_init 79 = .ok (.if_icmp .ge 22, 3) := by decide +kernel
theorem dX3_init_82 : decode cX3_init 82 = .ok (.aload_n 0, 1) := by decide +kernel
theorem dX3_init_83 : decode cX3_init 83 = .ok (.getfield 26, 3) := by decide +kernel
theorem dX3_init_86 : decode cX3_init 86 = .ok (.iload_n 1, 1) := by decide +kernel
theorem dX3_init_87 : decode cX3_init 87 = .ok (.new 7, 3) := by decide +kernel
theorem dX3_init_90 : decode cX3_init 90 = .ok (.dup, 1) := by decide +kernel
theorem dX3_init_91 : decode cX3_init 91 = .ok (.invokespecial 9, 3) := by decide +kernel
theorem dX3_init_94 : decode cX3_init 94 = .ok (.aastore, 1) := by decide +kernel
theorem dX3_init_95 : decode cX3_init 95 = .ok (.iinc 1 1, 3) := by decide +kernel
theorem dX3_init_98 : decode cX3_init 98 = .ok (.goto (-25), 3) := by decide +kernel
theorem dX3_init_101 : decode cX3_init 101 = .ok (.return_, 1) := by decide +kernel
theorem dX3_put_0 : decode cX3_put 0 = .ok (.iload_n 1, 1) := by decide +kernel
theorem dX3_put_1 : decode cX3_put 1 = .ok (.invokestatic 45, 3) := by decide +kernel
theorem dX3_put_4 : decode cX3_put 4 = .ok (.ifCond .eq 14, 3) := by decide +kernel
theorem dX3_put_7 : decode cX3_put 7 = .ok (.aload_n 0, 1) := by decide +kernel
theorem dX3_put_8 : decode cX3_put 8 = .ok (.iload_n 2, 1) := by decide +kernel
theorem dX3_put_9 : decode cX3_put 9 = .ok (.iload_n 3, 1) := by decide +kernel
theorem dX3_put_10 : decode cX3_put 10 = .ok (.iload 4, 2) := by decide +kernel
theorem dX3_put_12 : decode cX3_put 12 = .ok (.invokevirtual 49, 3) := by decide +kernel
theorem dX3_put_15 : decode cX3_put 15 = .ok (.ifCond .ne 13, 3) := by decide +kernel
theorem dX3_put_18 : decode cX3_put 18 = .ok (.new 53, 3) := by decide +kernel
theorem dX3_put_21 : decode cX3_put 21 = .ok (.dup, 1) := by decide +kernel
theorem dX3_put_22 : decode cX3_put 22 = .ok (.ldc 55, 2) := by decide +kernel
theorem dX3_put_24 : decode cX3_put 24 = .ok (.invokespecial 57, 3) := by decide +kernel
theorem dX3_put_27 : decode cX3_put 27 = .ok (.athrow, 1) := by decide +kernel
theorem dX3_put_28 : decode cX3_put 28 = .ok (.aload_n 0, 1) := by decide +kernel
theorem dX3_put_29 : decode cX3_put 29 = .ok (.getfield 10, 3) := by decide +kernel
theorem dX3_put_32 : decode cX3_put 32 = .ok (.iload_n 1, 1) := by decide +kernel
theorem dX3_put_33 : decode cX3_put 33 = .ok (.invokevirtual 60, 3) := by decide +kernel
theorem dX3_put_36 : decode cX3_put 36 = .ok (.ifCond .ne 13, 3) := by decide +kernel
theorem dX3_put_39 : decode cX3_put 39 = .ok (.new 63, 3) := by decide +kernel
theorem dX3_put_42 : decode cX3_put 42 = .ok (.dup, 1) := by decide +kernel
theorem dX3_put_43 : decode cX3_put 43 = .ok (.ldc 65, 2) := by decide +kernel
theorem dX3_put_45 : decode cX3_put 45 = .ok (.invokespecial 67, 3) := by decide +kernel
theorem dX3_put_48 : decode cX3_put 48 = .ok (.athrow, 1) := by decide +kernel
theorem dX3_put_49 : decode cX3_put 49 = .ok (.aload_n 0, 1) := by decide +kernel
theorem dX3_put_50 : decode cX3_put 50 = .ok (.getfield 22, 3) := by decide +kernel
theorem dX3_put_53 : decode cX3_put 53 = .ok (.aload_n 0, 1) := by decide +kernel
theorem dX3_put_54 : decode cX3_put 54 = .ok (.getfield 10, 3) := by decide +kernel
theorem dX3_put_57 : decode cX3_put 57 = .ok (.invokevirtual 68, 3) := by decide +kernel
theorem dX3_put_60 : decode cX3_put 60 = .ok (.iload_n 2, 1) := by decide +kernel
theorem dX3_put_61 : decode cX3_put 61 = .ok (.iload_n 3, 1) := by decide +kernel
theorem dX3_put_62 : decode cX3_put 62 = .ok (.invokestatic 72, 3) := by decide +kernel
theorem dX3_put_65 : decode cX3_put 65 = .ok (.istore 5, 2) := by decide +kernel
theorem dX3_put_67 : decode cX3_put 67 = .ok (.aload_n 0, 1) := by decide +kernel
theorem dX3_put_68 : decode cX3_put 68 = .ok (.getfield 10, 3) := by decide +kernel
theorem dX3_put_71 : decode cX3_put 71 = .ok (.iload_n 1, 1) := by decide +kernel
theorem dX3_put_72 : decode cX3_put 72 = .ok (.iload 5, 2) := by decide +kernel
theorem dX3_put_74 : decode cX3_put 74 = .ok (.iload 4, 2) := by decide +kernel
theorem dX3_put_76 : decode cX3_put 76 = .ok (.invokevirtual 76, 3) := by decide +kernel
theorem dX3_put_79 : decode cX3_put 79 = .ok (.istore 6, 2) := by decide +kernel
theorem dX3_put_81 : decode cX3_put 81 = .ok (.iload 6, 2) := by decide +kernel
theorem dX3_put_83 : decode cX3_put 83 = .ok (.ifCond .eq 19, 3) := by decide +kernel
theorem dX3_put_86 : decode cX3_put 86 = .ok (.aload_n 0, 1) := by decide +kernel
theorem dX3_put_87 : decode cX3_put 87 = .ok (.getfield 10, 3) := by decide +kernel
theorem dX3_put_90 : decode cX3_put 90 = .ok (.dup, 1) := by decide +kernel
theorem dX3_put_91 : decode cX3_put 91 = .ok (.getfield 80, 3) := by decide +kernel
theorem dX3_put_94 : decode cX3_put 94 = .ok (.iconst 1, 1) := by decide +kernel
theorem dX3_put_95 : decode cX3_put 95 = .ok (.iadd, 1) := by decide +kernel
theorem dX3_put_96 : decode cX3_put 96 = .ok (.putfield 80, 3) := by decide +kernel
theorem dX3_put_99 : decode cX3_put 99 = .ok (.iload 6, 2) := by decide +kernel
theorem dX3_put_101 : decode cX3_put 101 = .ok (.ireturn, 1) := by decide +kernel
theorem dX3_put_102 : decode cX3_put 102 = .ok (.aload_n 0, 1) := by decide +kernel
theorem dX3_put_103 : decode cX3_put 103 = .ok (.getfield 10, 3) := by decide +kernel
theorem dX3_put_106 : decode cX3_put 106 = .ok (.iload_n 1, 1) := by decide +kernel
theorem dX3_put_107 : decode cX3_put 107 = .ok (.iload 5, 2) := by decide +kernel
theorem dX3_put_109 : decode cX3_put 109 = .ok (.iload 4, 2) := by decide +kernel
theorem dX3_put_111 : decode cX3_put 111 = .ok (.invokevirtual 84, 3) := by decide +kernel
theorem dX3_put_114 : decode cX3_put 114 = .ok (.aload_n 0, 1) := by decide +kernel
theorem dX3_put_115 : decode cX3_put 115 = .ok (.getfield 10, 3) := by decide +kernel
theorem dX3_put_118 : decode cX3_put 118 = .ok (.dup, 1) := by decide +kernel
theorem dX3_put_119 : decode cX3_put 119 = .ok (.getfield 88, 3) := by decide +kernel
theorem dX3_put_122 : decode cX3_put 122 = .ok (.iconst 1, 1) := by decide +kernel
theorem dX3_put_123 : decode cX3_put 123 = .ok (.iadd, 1) := by decide +kernel
theorem dX3_put_124 : decode cX3_put 124 = .ok (.putfield 88, 3) := by decide +kernel
theorem dX3_put_127 : decode cX3_put 127 = .ok (.iconst 0, 1) := by decide +kernel
theorem dX3_put_128 : decode cX3_put 128 = .ok (.ireturn, 1) := by decide +kernel
theorem dX3_takeOff_0 : decode cX3_takeOff 0 = .ok (.iload_n 1, 1) := by decide +kernel
theorem dX3_takeOff_1 : decode cX3_takeOff 1 = .ok (.invokestatic 45, 3) := by decide +kernel
theorem dX3_takeOff_4 : decode cX3_takeOff 4 = .ok (.ifCond .ne 13, 3) := by decide +kernel
theorem dX3_takeOff_7 : decode cX3_takeOff 7 = .ok (.new 53, 3) := by decide +kernel
theorem dX3_takeOff_10 : decode cX3_takeOff 10 = .ok (.dup, 1) := by decide +kernel
theorem dX3_takeOff_11 : decode cX3_takeOff 11 = .ok (.ldc 91, 2) := by decide +kernel
theorem dX3_takeOff_13 : decode cX3_takeOff 13 = .ok (.invokespecial 57, 3) := by decide +kernel
theorem dX3_takeOff_16 : decode cX3_takeOff 16 = .ok (.athrow, 1) := by decide +kernel
theorem dX3_takeOff_17 : decode cX3_takeOff 17 = .ok (.aload_n 0, 1) := by decide +kernel
theorem dX3_takeOff_18 : decode cX3_takeOff 18 = .ok (.getfield 10, 3) := by decide +kernel
theorem dX3_takeOff_21 : decode cX3_takeOff 21 = .ok (.iload_n 1, 1) := by decide +kernel
theorem dX3_takeOff_22 : decode cX3_takeOff 22 = .ok (.invokevirtual 60, 3) := by decide +kernel
theorem dX3_takeOff_25 : decode cX3_takeOff 25 = .ok (.ifCond .eq 13, 3) := by decide +kernel
theorem dX3_takeOff_28 : decode cX3_takeOff 28 = .ok (.new 63, 3) := by decide +kernel
theorem dX3_takeOff_31 : decode cX3_takeOff 31 = .ok (.dup, 1) := by decide +kernel
theorem dX3_takeOff_32 : decode cX3_takeOff 32 = .ok (.ldc 93, 2) := by decide +kernel
theorem dX3_takeOff_34 : decode cX3_takeOff 34 = .ok (.invokespecial 67, 3) := by decide +kernel
theorem dX3_takeOff_37 : decode cX3_takeOff 37 = .ok (.athrow, 1) := by decide +kernel
theorem dX3_takeOff_38 : decode cX3_takeOff 38 = .ok (.aload_n 0, 1) := by decide +kernel
theorem dX3_takeOff_39 : decode cX3_takeOff 39 = .ok (.getfield 22, 3) := by decide +kernel
theorem dX3_takeOff_42 : decode cX3_takeOff 42 = .ok (.aload_n 0, 1) := by decide +kernel
theorem dX3_takeOff_43 : decode cX3_takeOff 43 = .ok (.getfield 10, 3) := by decide +kernel
theorem dX3_takeOff_46 : decode cX3_takeOff 46 = .ok (.invokevirtual 68, 3) := by decide +kernel
theorem dX3_takeOff_49 : decode cX3_takeOff 49 = .ok (.aload_n 0, 1) := by decide +kernel
theorem dX3_takeOff_50 : decode cX3_takeOff 50 = .ok (.getfield 10, 3) := by decide +kernel
theorem dX3_takeOff_53 : decode cX3_takeOff 53 = .ok (.iload_n 1, 1) := by decide +kernel
theorem dX3_takeOff_54 : decode cX3_takeOff 54 = .ok (.invokevirtual 95, 3) := by decide +kernel
theorem dX3_takeOff_57 : decode cX3_takeOff 57 = .ok (.istore_n 2, 1) := by decide +kernel
theorem dX3_takeOff_58 : decode cX3_takeOff 58 = .ok (.aload_n 0, 1) := by decide +kernel
theorem dX3_takeOff_59 : decode cX3_takeOff 59 = .ok (.getfield 10, 3) := by decide +kernel
theorem dX3_takeOff_62 : decode cX3_takeOff 62 = .ok (.iload_n 1, 1) := by decide +kernel
theorem dX3_takeOff_63 : decode cX3_takeOff 63 = .ok (.invokevirtual 99, 3) := by decide +kernel
theorem dX3_takeOff_66 : decode cX3_takeOff 66 = .ok (.iload_n 2, 1) := by decide +kernel
theorem dX3_takeOff_67 : decode cX3_takeOff 67 = .ok (.invokestatic 103, 3) := by decide +kernel
theorem dX3_takeOff_70 : decode cX3_takeOff 70 = .ok (.ireturn, 1) := by decide +kernel
theorem dX3_move_0 : decode cX3_move 0 = .ok (.iload_n 1, 1) := by decide +kernel
theorem dX3_move_1 : decode cX3_move 1 = .ok (.invokestatic 45, 3) := by decide +kernel
theorem dX3_move_4 : decode cX3_move 4 = .ok (.ifCond .eq 11, 3) := by decide +kernel
theorem dX3_move_7 : decode cX3_move 7 = .ok (.iload_n 2, 1) := by decide +kernel
theorem dX3_move_8 : decode cX3_move 8 = .ok (.iload_n 3, 1) := by decide +kernel
theorem dX3_move_9 : decode cX3_move 9 = .ok (.invokestatic 106, 3) := by decide +kernel
theorem dX3_move_12 : decode cX3_move 12 = .ok (.ifCond .ne 13, 3) := by decide +kernel
theorem dX3_move_15 : decode cX3_move 15 = .ok (.new 53, 3) := by decide +kernel
theorem dX3_move_18 : decode cX3_move 18 = .ok (.dup, 1) := by decide +kernel
theorem dX3_move_19 : decode cX3_move 19 = .ok (.ldc 110, 2) := by decide +kernel
theorem dX3_move_21 : decode cX3_move 21 = .ok (.invokespecial 57, 3) := by decide +kernel
theorem dX3_move_24 : decode cX3_move 24 = .ok (.athrow, 1) := by decide +kernel
theorem dX3_move_25 : decode cX3_move 25 = .ok (.iload_n 2, 1) := by decide +kernel
theorem dX3_move_26 : decode cX3_move 26 = .ok (.iload_n 3, 1) := by decide +kernel
theorem dX3_move_27 : decode cX3_move 27 = .ok (.invokestatic 72, 3) := by decide +kernel
theorem dX3_move_30 : decode cX3_move 30 = .ok (.istore 4, 2) := by decide +kernel
theorem dX3_move_32 : decode cX3_move 32 = .ok (.aload_n 0, 1) := by decide +kernel
theorem dX3_move_33 : decode cX3_move 33 = .ok (.getfield 10, 3) := by decide +kernel
theorem dX3_move_36 : decode cX3_move 36 = .ok (.iload_n 1, 1) := by decide +kernel
theorem dX3_move_37 : decode cX3_move 37 = .ok (.invokevirtual 60, 3) := by decide +kernel
theorem dX3_move_40 : decode cX3_move 40 = .ok (.ifCond .ne 16, 3) := by decide +kernel
theorem dX3_move_43 : decode cX3_move 43 = .ok (.aload_n 0, 1) := by decide +kernel
theorem dX3_move_44 : decode cX3_move 44 = .ok (.getfield 10, 3) := by decide +kernel
theorem dX3_move_47 : decode cX3_move 47 = .ok (.iload_n 1, 1) := by decide +kernel
theorem dX3_move_48 : decode cX3_move 48 = .ok (.invokevirtual 95, 3) := by decide +kernel
theorem dX3_move_51 : decode cX3_move 51 = .ok (.iload 4, 2) := by decide +kernel
theorem dX3_move_53 : decode cX3_move 53 = .ok (.if_icmp .ne 13, 3) := by decide +kernel
theorem dX3_move_56 : decode cX3_move 56 = .ok (.new 63, 3) := by decide +kernel
theorem dX3_move_59 : decode cX3_move 59 = .ok (.dup, 1) := by decide +kernel
theorem dX3_move_60 : decode cX3_move 60 = .ok (.ldc 112, 2) := by decide +kernel
theorem dX3_move_62 : decode cX3_move 62 = .ok (.invokespecial 67, 3) := by decide +kernel
theorem dX3_move_65 : decode cX3_move 65 = .ok (.athrow, 1) := by decide +kernel
theorem dX3_move_66 : decode cX3_move 66 = .ok (.aload_n 0, 1) := by decide +kernel
theorem dX3_move_67 : decode cX3_move 67 = .ok (.getfield 22, 3) := by decide +kernel
theorem dX3_move_70 : decode cX3_move 70 = .ok (.aload_n 0, 1) := by decide +kernel
theorem dX3_move_71 : decode cX3_move 71 = .ok (.getfield 10, 3) := by decide +kernel
theorem dX3_move_74 : decode cX3_move 74 = .ok (.invokevirtual 68, 3) := by decide +kernel
theorem dX3_move_77 : decode cX3_move 77 = .ok (.aload_n 0, 1) := by decide +kernel
theorem dX3_move_78 : decode cX3_move 78 = .ok (.getfield 10, 3) := by decide +kernel
theorem dX3_move_81 : decode cX3_move 81 = .ok (.iload 4, 2) := by decide +kernel
theorem dX3_move_83 : decode cX3_move 83 = .ok (.invokevirtual 114, 3) := by decide +kernel
theorem dX3_move_86 : decode cX3_move 86 = .ok (.istore 5, 2) := by decide +kernel
theorem dX3_move_88 : decode cX3_move 88 = .ok (.aload_n 0, 1) := by decide +kernel
theorem dX3_move_89 : decode cX3_move 89 = .ok (.getfield 10, 3) := by decide +kernel
theorem dX3_move_92 : decode cX3_move 92 = .ok (.iload_n 1, 1) := by decide +kernel
theorem dX3_move_93 : decode cX3_move 93 = .ok (.iload 4, 2) := by decide +kernel
theorem dX3_move_95 : decode cX3_move 95 = .ok (.iload 5, 2) := by decide +kernel
theorem dX3_move_97 : decode cX3_move 97 = .ok (.invokevirtual 76, 3) := by decide +kernel
theorem dX3_move_100 : decode cX3_move 100 = .ok (.istore 6, 2) := by decide +kernel
theorem dX3_move_102 : decode cX3_move 102 = .ok (.iload 6, 2) := by decide +kernel
theorem dX3_move_104 : decode cX3_move 104 = .ok (.ifCond .eq 19, 3) := by decide +kernel
theorem dX3_move_107 : decode cX3_move 107 = .ok (.aload_n 0, 1) := by decide +kernel
theorem dX3_move_108 : decode cX3_move 108 = .ok (.getfield 10, 3) := by decide +kernel
theorem dX3_move_111 : decode cX3_move 111 = .ok (.dup, 1) := by decide +kernel
theorem dX3_move_112 : decode cX3_move 112 = .ok (.getfield 80, 3) := by decide +kernel
theorem dX3_move_115 : decode cX3_move 115 = .ok (.iconst 1, 1) := by decide +kernel
theorem dX3_move_116 : decode cX3_move 116 = .ok (.iadd, 1) := by decide +kernel
theorem dX3_move_117 : decode cX3_move 117 = .ok (.putfield 80, 3) := by decide +kernel
theorem dX3_move_120 : decode cX3_move 120 = .ok (.iload 6, 2) := by decide +kernel
theorem dX3_move_122 : decode cX3_move 122 = .ok (.ireturn, 1) := by decide +kernel
theorem dX3_move_123 : decode cX3_move 123 = .ok (.aload_n 0, 1) := by decide +kernel
theorem dX3_move_124 : decode cX3_move 124 = .ok (.getfield 10, 3) := by decide +kernel
theorem dX3_move_127 : decode cX3_move 127 = .ok (.iload_n 1, 1) := by decide +kernel
theorem dX3_move_128 : decode cX3_move 128 = .ok (.invokevirtual 99, 3) := by decide +kernel
theorem dX3_move_131 : decode cX3_move 131 = .ok (.aload_n 0, 1) := by decide +kernel
theorem dX3_move_132 : decode cX3_move 132 = .ok (.getfield 10, 3) := by decide +kernel
theorem dX3_move_135 : decode cX3_move 135 = .ok (.iload_n 1, 1) := by decide +kernel
theorem dX3_move_136 : decode cX3_move 136 = .ok (.iload 4, 2) := by decide +kernel
theorem dX3_move_138 : decode cX3_move 138 = .ok (.iload 5, 2) := by decide +kernel
theorem dX3_move_140 : decode cX3_move 140 = .ok (.invokevirtual 84, 3) := by decide +kernel
theorem dX3_move_143 : decode cX3_move 143 = .ok (.aload_n 0, 1) := by decide +kernel
theorem dX3_move_144 : decode cX3_move 144 = .ok (.getfield 10, 3) := by decide +kernel
theorem dX3_move_147 : decode cX3_move 147 = .ok (.dup, 1) := by decide +kernel
theorem dX3_move_148 : decode cX3_move 148 = .ok (.getfield 88, 3) := by decide +kernel
theorem dX3_move_151 : decode cX3_move 151 = .ok (.iconst 1, 1) := by decide +kernel
theorem dX3_move_152 : decode cX3_move 152 = .ok (.iadd, 1) := by decide +kernel
theorem dX3_move_153 : decode cX3_move 153 = .ok (.putfield 88, 3) := by decide +kernel
theorem dX3_move_156 : decode cX3_move 156 = .ok (.iconst 0, 1) := by decide +kernel
theorem dX3_move_157 : decode cX3_move 157 = .ok (.ireturn, 1) := by decide +kernel
theorem dX3_clearDoor_0 : decode cX3_clearDoor 0 = .ok (.iload_n 1, 1) := by decide +kernel
theorem dX3_clearDoor_1 : decode cX3_clearDoor 1 = .ok (.invokestatic 117, 3) := by decide +kernel
theorem dX3_clearDoor_4 : decode cX3_clearDoor 4 = .ok (.ifCond .ne 13, 3) := by decide +kernel
theorem dX3_clearDoor_7 : decode cX3_clearDoor 7 = .ok (.new 53, 3) := by decide +kernel
theorem dX3_clearDoor_10 : decode cX3_clearDoor 10 = .ok (.dup, 1) := by decide +kernel
theorem dX3_clearDoor_11 : decode cX3_clearDoor 11 = .ok (.ldc 120, 2) := by decide +kernel
theorem dX3_clearDoor_13 : decode cX3_clearDoor 13 = .ok (.invokespecial 57, 3) := by decide +kernel
theorem dX3_clearDoor_16 : decode cX3_clearDoor 16 = .ok (.athrow, 1) := by decide +kernel
theorem dX3_clearDoor_17 : decode cX3_clearDoor 17 = .ok (.aload_n 0, 1) := by decide +kernel
theorem dX3_clearDoor_18 : decode cX3_clearDoor 18 = .ok (.getfield 22, 3) := by decide +kernel
theorem dX3_clearDoor_21 : decode cX3_clearDoor 21 = .ok (.aload_n 0, 1) := by decide +kernel
theorem dX3_clearDoor_22 : decode cX3_clearDoor 22 = .ok (.getfield 10, 3) := by decide +kernel
theorem dX3_clearDoor_25 : decode cX3_clearDoor 25 = .ok (.invokevirtual 68, 3) := by decide +kernel
theorem dX3_clearDoor_28 : decode cX3_clearDoor 28 = .ok (.aload_n 0, 1) := by decide +kernel
theorem dX3_clearDoor_29 : decode cX3_clearDoor 29 = .ok (.getfield 10, 3) := by decide +kernel
theorem dX3_clearDoor_32 : decode cX3_clearDoor 32 = .ok (.iload_n 1, 1) := by decide +kernel
theorem dX3_clearDoor_33 : decode cX3_clearDoor 33 = .ok (.invokevirtual 122, 3) := by decide +kernel
theorem dX3_clearDoor_36 : decode cX3_clearDoor 36 = .ok (.ireturn, 1) := by decide +kernel
theorem dX3_borrow_0 : decode cX3_borrow 0 = .ok (.iload_n 1, 1) := by decide +kernel
theorem dX3_borrow_1 : decode cX3_borrow 1 = .ok (.iload_n 2, 1) := by decide +kernel
theorem dX3_borrow_2 : decode cX3_borrow 2 = .ok (.invokestatic 106, 3) := by decide +kernel
theorem dX3_borrow_5 : decode cX3_borrow 5 = .ok (.ifCond .eq 12, 3) := by decide +kernel
theorem dX3_borrow_8 : decode cX3_borrow 8 = .ok (.iload_n 3, 1) := by decide +kernel
theorem dX3_borrow_9 : decode cX3_borrow 9 = .ok (.iload 4, 2) := by decide +kernel
theorem dX3_borrow_11 : decode cX3_borrow 11 = .ok (.invokestatic 106, 3) := by decide +kernel
theorem dX3_borrow_14 : decode cX3_borrow 14 = .ok (.ifCond .ne 13, 3) := by decide +kernel
theorem dX3_borrow_17 : decode cX3_borrow 17 = .ok (.new 53, 3) := by decide +kernel
theorem dX3_borrow_20 : decode cX3_borrow 20 = .ok (.dup, 1) := by decide +kernel
theorem dX3_borrow_21 : decode cX3_borrow 21 = .ok (.ldc 125, 2) := by decide +kernel
theorem dX3_borrow_23 : decode cX3_borrow 23 = .ok (.invokespecial 57, 3) := by decide +kernel
theorem dX3_borrow_26 : decode cX3_borrow 26 = .ok (.athrow, 1) := by decide +kernel
theorem dX3_borrow_27 : decode cX3_borrow 27 = .ok (.iload_n 1, 1) := by decide +kernel
theorem dX3_borrow_28 : decode cX3_borrow 28 = .ok (.iload_n 3, 1) := by decide +kernel
theorem dX3_borrow_29 : decode cX3_borrow 29 = .ok (.if_icmp .ne 13, 3) := by decide +kernel
theorem dX3_borrow_32 : decode cX3_borrow 32 = .ok (.new 127, 3) := by decide +kernel
theorem dX3_borrow_35 : decode cX3_borrow 35 = .ok (.dup, 1) := by decide +kernel
theorem dX3_borrow_36 : decode cX3_borrow 36 = .ok (.ldc 129, 2) := by decide +kernel
theorem dX3_borrow_38 : decode cX3_borrow 38 = .ok (.invokespecial 131, 3) := by decide +kernel
theorem dX3_borrow_41 : decode cX3_borrow 41 = .ok (.athrow, 1) := by decide +kernel
theorem dX3_borrow_42 : decode cX3_borrow 42 = .ok (.iload_n 1, 1) := by decide +kernel
theorem dX3_borrow_43 : decode cX3_borrow 43 = .ok (.iload_n 2, 1) := by decide +kernel
theorem dX3_borrow_44 : decode cX3_borrow 44 = .ok (.invokestatic 72, 3) := by decide +kernel
theorem dX3_borrow_47 : decode cX3_borrow 47 = .ok (.istore 5, 2) := by decide +kernel
theorem dX3_borrow_49 : decode cX3_borrow 49 = .ok (.iload_n 3, 1) := by decide +kernel
theorem dX3_borrow_50 : decode cX3_borrow 50 = .ok (.iload 4, 2) := by decide +kernel
theorem dX3_borrow_52 : decode cX3_borrow 52 = .ok (.invokestatic 72, 3) := by decide +kernel
theorem dX3_borrow_55 : decode cX3_borrow 55 = .ok (.istore 6, 2) := by decide +kernel
theorem dX3_borrow_57 : decode cX3_borrow 57 = .ok (.aload_n 0, 1) := by decide +kernel
theorem dX3_borrow_58 : decode cX3_borrow 58 = .ok (.getfield 10, 3) := by decide +kernel
theorem dX3_borrow_61 : decode cX3_borrow 61 = .ok (.iload 5, 2) := by decide +kernel
theorem dX3_borrow_63 : decode cX3_borrow 63 = .ok (.invokevirtual 132, 3) := by decide +kernel
theorem dX3_borrow_66 : decode cX3_borrow 66 = .ok (.ifCond .eq 15, 3) := by decide +kernel
theorem dX3_borrow_69 : decode cX3_borrow 69 = .ok (.aload_n 0, 1) := by decide +kernel
theorem dX3_borrow_70 : decode cX3_borrow 70 = .ok (.getfield 10, 3) := by decide +kernel
theorem dX3_borrow_73 : decode cX3_borrow 73 = .ok (.iload 6, 2) := by decide +kernel
theorem dX3_borrow_75 : decode cX3_borrow 75 = .ok (.invokevirtual 132, 3) := by decide +kernel
theorem dX3_borrow_78 : decode cX3_borrow 78 = .ok (.ifCond .ne 13, 3) := by decide +kernel
theorem dX3_borrow_81 : decode cX3_borrow 81 = .ok (.new 63, 3) := by decide +kernel
theorem dX3_borrow_84 : decode cX3_borrow 84 = .ok (.dup, 1) := by decide +kernel
theorem dX3_borrow_85 : decode cX3_borrow 85 = .ok (.ldc 135, 2) := by decide +kernel
theorem dX3_borrow_87 : decode cX3_borrow 87 = .ok (.invokespecial 67, 3) := by decide +kernel
theorem dX3_borrow_90 : decode cX3_borrow 90 = .ok (.athrow, 1) := by decide +kernel
theorem dX3_borrow_91 : decode cX3_borrow 91 = .ok (.aload_n 0, 1) := by decide +kernel
theorem dX3_borrow_92 : decode cX3_borrow 92 = .ok (.getfield 22, 3) := by decide +kernel
theorem dX3_borrow_95 : decode cX3_borrow 95 = .ok (.aload_n 0, 1) := by decide +kernel

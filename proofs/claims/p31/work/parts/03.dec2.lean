theorem dX0_steal_33 : decode cX0_steal 33 = .ok (.aload_n 0, 1) := by decide +kernel
theorem dX0_steal_34 : decode cX0_steal 34 = .ok (.getfield 33, 3) := by decide +kernel
theorem dX0_steal_37 : decode cX0_steal 37 = .ok (.iload_n 2, 1) := by decide +kernel
theorem dX0_steal_38 : decode cX0_steal 38 = .ok (.aload_n 0, 1) := by decide +kernel
theorem dX0_steal_39 : decode cX0_steal 39 = .ok (.getfield 33, 3) := by decide +kernel
theorem dX0_steal_42 : decode cX0_steal 42 = .ok (.iload_n 2, 1) := by decide +kernel
theorem dX0_steal_43 : decode cX0_steal 43 = .ok (.invokestatic 64, 3) := by decide +kernel
theorem dX0_steal_46 : decode cX0_steal 46 = .ok (.iconst 1, 1) := by decide +kernel
theorem dX0_steal_47 : decode cX0_steal 47 = .ok (.iadd, 1) := by decide +kernel
theorem dX0_steal_48 : decode cX0_steal 48 = .ok (.invokestatic 43, 3) := by decide +kernel
theorem dX0_steal_51 : decode cX0_steal 51 = .ok (.aload_n 0, 1) := by decide +kernel
theorem dX0_steal_52 : decode cX0_steal 52 = .ok (.getfield 30, 3) := by decide +kernel
theorem dX0_steal_55 : decode cX0_steal 55 = .ok (.iload_n 2, 1) := by decide +kernel
theorem dX0_steal_56 : decode cX0_steal 56 = .ok (.aload_n 0, 1) := by decide +kernel
theorem dX0_steal_57 : decode cX0_steal 57 = .ok (.getfield 36, 3) := by decide +kernel
theorem dX0_steal_60 : decode cX0_steal 60 = .ok (.iconst 2, 1) := by decide +kernel
theorem dX0_steal_61 : decode cX0_steal 61 = .ok (.invokestatic 64, 3) := by decide +kernel
theorem dX0_steal_64 : decode cX0_steal 64 = .ok (.invokestatic 43, 3) := by decide +kernel
theorem dX0_steal_67 : decode cX0_steal 67 = .ok (.return_, 1) := by decide +kernel
theorem dX0_settingValue_0 : decode cX0_settingValue 0 = .ok (.aload_n 0, 1) := by decide +kernel
theorem dX0_settingValue_1 : decode cX0_settingValue 1 = .ok (.getfield 36, 3) := by decide +kernel
theorem dX0_settingValue_4 : decode cX0_settingValue 4 = .ok (.iload_n 1, 1) := by decide +kernel
theorem dX0_settingValue_5 : decode cX0_settingValue 5 = .ok (.invokestatic 64, 3) := by decide +kernel
theorem dX0_settingValue_8 : decode cX0_settingValue 8 = .ok (.ireturn, 1) := by decide +kernel
theorem dX0_changeSetting_0 : decode cX0_changeSetting 0 = .ok (.aload_n 0, 1) := by decide +kernel
theorem dX0_changeSetting_1 : decode cX0_changeSetting 1 = .ok (.getfield 36, 3) := by decide +kernel
theorem dX0_changeSetting_4 : decode cX0_changeSetting 4 = .ok (.iload_n 1, 1) := by decide +kernel
theorem dX0_changeSetting_5 : decode cX0_changeSetting 5 = .ok (.iload_n 2, 1) := by decide +kernel
theorem dX0_changeSetting_6 : decode cX0_changeSetting 6 = .ok (.invokestatic 43, 3) := by decide +kernel
theorem dX0_changeSetting_9 : decode cX0_changeSetting 9 = .ok (.return_, 1) := by decide +kernel
theorem dX0_wordProperty_0 : decode cX0_wordProperty 0 = .ok (.aload_n 0, 1) := by decide +kernel
theorem dX0_wordProperty_1 : decode cX0_wordProperty 1 = .ok (.getfield 9, 3) := by decide +kernel
theorem dX0_wordProperty_4 : decode cX0_wordProperty 4 = .ok (.iload_n 1, 1) := by decide +kernel
theorem dX0_wordProperty_5 : decode cX0_wordProperty 5 = .ok (.invokestatic 64, 3) := by decide +kernel
theorem dX0_wordProperty_8 : decode cX0_wordProperty 8 = .ok (.istore_n 3, 1) := by decide +kernel
theorem dX0_wordProperty_9 : decode cX0_wordProperty 9 = .ok (.iload_n 2, 1) := by decide +kernel
theorem dX0_wordProperty_10 : decode cX0_wordProperty 10 = .ok (.tableswitch 85 0 5 #[38, 43, 48, 53, 66, 79], 38) := by decide +kernel
theorem dX0_wordProperty_48 : decode cX0_wordProperty 48 = .ok (.iload_n 1, 1) := by decide +kernel
theorem dX0_wordProperty_49 : decode cX0_wordProperty 49 = .ok (.invokestatic 101, 3) := by decide +kernel
theorem dX0_wordProperty_52 : decode cX0_wordProperty 52 = .ok (.ireturn, 1) := by decide +kernel
theorem dX0_wordProperty_53 : decode cX0_wordProperty 53 = .ok (.iload_n 1, 1) := by decide +kernel
theorem dX0_wordProperty_54 : decode cX0_wordProperty 54 = .ok (.invokestatic 108, 3) := by decide +kernel
theorem dX0_wordProperty_57 : decode cX0_wordProperty 57 = .ok (.ireturn, 1) := by decide +kernel
theorem dX0_wordProperty_58 : decode cX0_wordProperty 58 = .ok (.iload_n 1, 1) := by decide +kernel
theorem dX0_wordProperty_59 : decode cX0_wordProperty 59 = .ok (.invokestatic 94, 3) := by decide +kernel
theorem dX0_wordProperty_62 : decode cX0_wordProperty 62 = .ok (.ireturn, 1) := by decide +kernel
theorem dX0_wordProperty_63 : decode cX0_wordProperty 63 = .ok (.iload_n 3, 1) := by decide +kernel
theorem dX0_wordProperty_64 : decode cX0_wordProperty 64 = .ok (.iconst (-1), 1) := by decide +kernel
theorem dX0_wordProperty_65 : decode cX0_wordProperty 65 = .ok (.if_icmp .ne 7, 3) := by decide +kernel
theorem dX0_wordProperty_68 : decode cX0_wordProperty 68 = .ok (.iconst (-1), 1) := by decide +kernel
theorem dX0_wordProperty_69 : decode cX0_wordProperty 69 = .ok (.goto 6, 3) := by decide +kernel
theorem dX0_wordProperty_72 : decode cX0_wordProperty 72 = .ok (.iload_n 3, 1) := by decide +kernel
theorem dX0_wordProperty_73 : decode cX0_wordProperty 73 = .ok (.iconst 4, 1) := by decide +kernel
theorem dX0_wordProperty_74 : decode cX0_wordProperty 74 = .ok (.idiv, 1) := by decide +kernel
theorem dX0_wordProperty_75 : decode cX0_wordProperty 75 = .ok (.ireturn, 1) := by decide +kernel
theorem dX0_wordProperty_76 : decode cX0_wordProperty 76 = .ok (.iload_n 3, 1) := by decide +kernel
theorem dX0_wordProperty_77 : decode cX0_wordProperty 77 = .ok (.iconst (-1), 1) := by decide +kernel
theorem dX0_wordProperty_78 : decode cX0_wordProperty 78 = .ok (.if_icmp .ne 7, 3) := by decide +kernel
theorem dX0_wordProperty_81 : decode cX0_wordProperty 81 = .ok (.iconst (-1), 1) := by decide +kernel
theorem dX0_wordProperty_82 : decode cX0_wordProperty 82 = .ok (.goto 6, 3) := by decide +kernel
theorem dX0_wordProperty_85 : decode cX0_wordProperty 85 = .ok (.iload_n 3, 1) := by decide +kernel
theorem dX0_wordProperty_86 : decode cX0_wordProperty 86 = .ok (.iconst 4, 1) := by decide +kernel
theorem dX0_wordProperty_87 : decode cX0_wordProperty 87 = .ok (.irem, 1) := by decide +kernel
theorem dX0_wordProperty_88 : decode cX0_wordProperty 88 = .ok (.ireturn, 1) := by decide +kernel
theorem dX0_wordProperty_89 : decode cX0_wordProperty 89 = .ok (.aload_n 0, 1) := by decide +kernel
theorem dX0_wordProperty_90 : decode cX0_wordProperty 90 = .ok (.iload_n 1, 1) := by decide +kernel
theorem dX0_wordProperty_91 : decode cX0_wordProperty 91 = .ok (.invokevirtual 83, 3) := by decide +kernel
theorem dX0_wordProperty_94 : decode cX0_wordProperty 94 = .ok (.ireturn, 1) := by decide +kernel
theorem dX0_wordProperty_95 : decode cX0_wordProperty 95 = .ok (.aload_n 0, 1) := by decide +kernel
theorem dX0_wordProperty_96 : decode cX0_wordProperty 96 = .ok (.getfield 27, 3) := by decide +kernel
theorem dX0_wordProperty_99 : decode cX0_wordProperty 99 = .ok (.iload_n 1, 1) := by decide +kernel
theorem dX0_wordProperty_100 : decode cX0_wordProperty 100 = .ok (.invokestatic 64, 3) := by decide +kernel
theorem dX0_wordProperty_103 : decode cX0_wordProperty 103 = .ok (.ireturn, 1) := by decide +kernel
theorem dX0_lineProperty_0 : decode cX0_lineProperty 0 = .ok (.iload_n 2, 1) := by decide +kernel
theorem dX0_lineProperty_1 : decode cX0_lineProperty 1 = .ok (.tableswitch 106 0 6 #[43, 52, 58, 65, 71, 83, 95], 43) := by decide +kernel
theorem dX0_lineProperty_44 : decode cX0_lineProperty 44 = .ok (.aload_n 0, 1) := by decide +kernel
theorem dX0_lineProperty_45 : decode cX0_lineProperty 45 = .ok (.getfield 18, 3) := by decide +kernel
theorem dX0_lineProperty_48 : decode cX0_lineProperty 48 = .ok (.iload_n 1, 1) := by decide +kernel
theorem dX0_lineProperty_49 : decode cX0_lineProperty 49 = .ok (.invokestatic 64, 3) := by decide +kernel
theorem dX0_lineProperty_52 : decode cX0_lineProperty 52 = .ok (.ireturn, 1) := by decide +kernel
theorem dX0_lineProperty_53 : decode cX0_lineProperty 53 = .ok (.aload_n 0, 1) := by decide +kernel
theorem dX0_lineProperty_54 : decode cX0_lineProperty 54 = .ok (.iload_n 1, 1) := by decide +kernel
theorem dX0_lineProperty_55 : decode cX0_lineProperty 55 = .ok (.invokevirtual 91, 3) := by decide +kernel
theorem dX0_lineProperty_58 : decode cX0_lineProperty 58 = .ok (.ireturn, 1) := by decide +kernel
theorem dX0_lineProperty_59 : decode cX0_lineProperty 59 = .ok (.aload_n 0, 1) := by decide +kernel
theorem dX0_lineProperty_60 : decode cX0_lineProperty 60 = .ok (.iload_n 1, 1) := by decide +kernel
theorem dX0_lineProperty_61 : decode cX0_lineProperty 61 = .ok (.iconst (-1), 1) := by decide +kernel
theorem dX0_lineProperty_62 : decode cX0_lineProperty 62 = .ok (.invokevirtual 117, 3) := by decide +kernel
theorem dX0_lineProperty_65 : decode cX0_lineProperty 65 = .ok (.ireturn, 1) := by decide +kernel
theorem dX0_lineProperty_66 : decode cX0_lineProperty 66 = .ok (.aload_n 0, 1) := by decide +kernel
theorem dX0_lineProperty_67 : decode cX0_lineProperty 67 = .ok (.iload_n 1, 1) := by decide +kernel
theorem dX0_lineProperty_68 : decode cX0_lineProperty 68 = .ok (.invokevirtual 111, 3) := by decide +kernel
theorem dX0_lineProperty_71 : decode cX0_lineProperty 71 = .ok (.ireturn, 1) := by decide +kernel
theorem dX0_lineProperty_72 : decode cX0_lineProperty 72 = .ok (.aload_n 0, 1) := by decide +kernel
theorem dX0_lineProperty_73 : decode cX0_lineProperty 73 = .ok (.getfield 21, 3) := by decide +kernel
theorem dX0_lineProperty_76 : decode cX0_lineProperty 76 = .ok (.iload_n 1, 1) := by decide +kernel
theorem dX0_lineProperty_77 : decode cX0_lineProperty 77 = .ok (.invokestatic 64, 3) := by decide +kernel
theorem dX0_lineProperty_80 : decode cX0_lineProperty 80 = .ok (.invokestatic 150, 3) := by decide +kernel
theorem dX0_lineProperty_83 : decode cX0_lineProperty 83 = .ok (.ireturn, 1) := by decide +kernel
theorem dX0_lineProperty_84 : decode cX0_lineProperty 84 = .ok (.aload_n 0, 1) := by decide +kernel
theorem dX0_lineProperty_85 : decode cX0_lineProperty 85 = .ok (.getfield 24, 3) := by decide +kernel
theorem dX0_lineProperty_88 : decode cX0_lineProperty 88 = .ok (.iload_n 1, 1) := by decide +kernel
theorem dX0_lineProperty_89 : decode cX0_lineProperty 89 = .ok (.invokestatic 64, 3) := by decide +kernel
theorem dX0_lineProperty_92 : decode cX0_lineProperty 92 = .ok (.invokestatic 150, 3) := by decide +kernel
theorem dX0_lineProperty_95 : decode cX0_lineProperty 95 = .ok (.ireturn, 1) := by decide +kernel
theorem dX0_lineProperty_96 : decode cX0_lineProperty 96 = .ok (.aload_n 0, 1) := by decide +kernel
theorem dX0_lineProperty_97 : decode cX0_lineProperty 97 = .ok (.iload_n 1, 1) := by decide +kernel
theorem dX0_lineProperty_98 : decode cX0_lineProperty 98 = .ok (.aload_n 0, 1) := by decide +kernel
theorem dX0_lineProperty_99 : decode cX0_lineProperty 99 = .ok (.iload_n 1, 1) := by decide +kernel
theorem dX0_lineProperty_100 : decode cX0_lineProperty 100 = .ok (.invokevirtual 111, 3) := by decide +kernel
theorem dX0_lineProperty_103 : decode cX0_lineProperty 103 = .ok (.invokevirtual 127, 3) := by decide +kernel
theorem dX0_lineProperty_106 : decode cX0_lineProperty 106 = .ok (.ireturn, 1) := by decide +kernel
theorem dX0_lineProperty_107 : decode cX0_lineProperty 107 = .ok (.aload_n 0, 1) := by decide +kernel
theorem dX0_lineProperty_108 : decode cX0_lineProperty 108 = .ok (.iload_n 1, 1) := by decide +kernel
theorem dX0_lineProperty_109 : decode cX0_lineProperty 109 = .ok (.invokevirtual 153, 3) := by decide +kernel
theorem dX0_lineProperty_112 : decode cX0_lineProperty 112 = .ok (.ifCond .eq 7, 3) := by decide +kernel
theorem dX0_lineProperty_115 : decode cX0_lineProperty 115 = .ok (.iconst 0, 1) := by decide +kernel
theorem dX0_lineProperty_116 : decode cX0_lineProperty 116 = .ok (.goto 4, 3) := by decide +kernel
theorem dX0_lineProperty_119 : decode cX0_lineProperty 119 = .ok (.iconst 1, 1) := by decide +kernel
theorem dX0_lineProperty_120 : decode cX0_lineProperty 120 = .ok (.ireturn, 1) := by decide +kernel
theorem dX0_doorProperty_0 : decode cX0_doorProperty 0 = .ok (.iload_n 2, 1) := by decide +kernel
theorem dX0_doorProperty_1 : decode cX0_doorProperty 1 = .ok (.tableswitch 58 0 3 #[31, 37, 43, 49], 31) := by decide +kernel
theorem dX0_doorProperty_32 : decode cX0_doorProperty 32 = .ok (.aload_n 0, 1) := by decide +kernel
theorem dX0_doorProperty_33 : decode cX0_doorProperty 33 = .ok (.iload_n 1, 1) := by decide +kernel
theorem dX0_doorProperty_34 : decode cX0_doorProperty 34 = .ok (.invokevirtual 120, 3) := by decide +kernel
theorem dX0_doorProperty_37 : decode cX0_doorProperty 37 = .ok (.ireturn, 1) := by decide +kernel
theorem dX0_doorProperty_38 : decode cX0_doorProperty 38 = .ok (.aload_n 0, 1) := by decide +kernel
theorem dX0_doorProperty_39 : decode cX0_doorProperty 39 = .ok (.iload_n 1, 1) := by decide +kernel
theorem dX0_doorProperty_40 : decode cX0_doorProperty 40 = .ok (.invokevirtual 147, 3) := by decide +kernel
theorem dX0_doorProperty_43 : decode cX0_doorProperty 43 = .ok (.ireturn, 1) := by decide +kernel
theorem dX0_doorProperty_44 : decode cX0_doorProperty 44 = .ok (.aload_n 0, 1) := by decide +kernel
theorem dX0_doorProperty_45 : decode cX0_doorProperty 45 = .ok (.iload_n 1, 1) := by decide +kernel
theorem dX0_doorProperty_46 : decode cX0_doorProperty 46 = .ok (.invokevirtual 114, 3) := by decide +kernel
theorem dX0_doorProperty_49 : decode cX0_doorProperty 49 = .ok (.ireturn, 1) := by decide +kernel
theorem dX0_doorProperty_50 : decode cX0_doorProperty 50 = .ok (.aload_n 0, 1) := by decide +kernel
theorem dX0_doorProperty_51 : decode cX0_doorProperty 51 = .ok (.getfield 30, 3) := by decide +kernel
theorem dX0_doorProperty_54 : decode cX0_doorProperty 54 = .ok (.iload_n 1, 1) := by decide +kernel
theorem dX0_doorProperty_55 : decode cX0_doorProperty 55 = .ok (.invokestatic 64, 3) := by decide +kernel
theorem dX0_doorProperty_58 : decode cX0_doorProperty 58 = .ok (.ireturn, 1) := by decide +kernel
theorem dX0_doorProperty_59 : decode cX0_doorProperty 59 = .ok (.aload_n 0, 1) := by decide +kernel
theorem dX0_doorProperty_60 : decode cX0_doorProperty 60 = .ok (.getfield 33, 3) := by decide +kernel
theorem dX0_doorProperty_63 : decode cX0_doorProperty 63 = .ok (.iload_n 1, 1) := by decide +kernel
theorem dX0_doorProperty_64 : decode cX0_doorProperty 64 = .ok (.invokestatic 64, 3) := by decide +kernel
theorem dX0_doorProperty_67 : decode cX0_doorProperty 67 = .ok (.ireturn, 1) := by decide +kernel
theorem dX1_init_0 : decode cX1_init 0 = .ok (.aload_n 0, 1) := by decide +kernel
theorem dX1_init_1 : decode cX1_init 1 = .ok (.invokespecial 3, 3) := by decide +kernel
theorem dX1_init_4 : decode cX1_init 4 = .ok (.aload_n 0, 1) := by decide +kernel
theorem dX1_init_5 : decode cX1_init 5 = .ok (.bipush 6, 2) := by decide +kernel
theorem dX1_init_7 : decode cX1_init 7 = .ok (.anewarray 9, 3) := by decide +kernel
theorem dX1_init_10 : decode cX1_init 10 = .ok (.putfield 11, 3) := by decide +kernel
theorem dX1_init_13 : decode cX1_init 13 = .ok (.iconst 0, 1) := by decide +kernel
theorem dX1_init_14 : decode cX1_init 14 = .ok (.istore_n 1, 1) := by decide +kernel
theorem dX1_init_15 : decode cX1_init 15 = .ok (.iload_n 1, 1) := by decide +kernel
theorem dX1_init_16 : decode cX1_init 16 = .ok (.aload_n 0, 1) := by decide +kernel
theorem dX1_init_17 : decode cX1_init 17 = .ok (.getfield 11, 3) := by decide +kernel
theorem dX1_init_20 : decode cX1_init 20 = .ok (.arraylength, 1) := by decide +kernel
theorem dX1_init_21 : decode cX1_init 21 = .ok (.if_icmp .ge 22, 3) := by decide +kernel
theorem dX1_init_24 : decode cX1_init 24 = .ok (.aload_n 0, 1) := by decide +kernel
theorem dX1_init_25 : decode cX1_init 25 = .ok (.getfield 11, 3) := by decide +kernel
theorem dX1_init_28 : decode cX1_init 28 = .ok (.iload_n 1, 1) := by decide +kernel
theorem dX1_init_29 : decode cX1_init 29 = .ok (.new 9, 3) := by decide +kernel
theorem dX1_init_32 : decode cX1_init 32 = .ok (.dup, 1) := by decide +kernel
theorem dX1_init_33 : decode cX1_init 33 = .ok (.invokespecial 17, 3) := by decide +kernel
theorem dX1_init_36 : decode cX1_init 36 = .ok (.aastore, 1) := by decide +kernel
theorem dX1_init_37 : decode cX1_init 37 = .ok (.iinc 1 1, 3) := by decide +kernel
theorem dX1_init_40 : decode cX1_init 40 = .ok (.goto (-25), 3) := by decide +kernel
theorem dX1_init_43 : decode cX1_init 43 = .ok (.return_, 1) := by decide +kernel
theorem dX1_save_0 : decode cX1_save 0 = .ok (.aload_n 0, 1) := by decide +kernel
theorem dX1_save_1 : decode cX1_save 1 = .ok (.getfield 18, 3) := by decide +kernel
theorem dX1_save_4 : decode cX1_save 4 = .ok (.bipush 6, 2) := by decide +kernel
theorem dX1_save_6 : decode cX1_save 6 = .ok (.if_icmp .lt 26, 3) := by decide +kernel
theorem dX1_save_9 : decode cX1_save 9 = .ok (.aload_n 0, 1) := by decide +kernel
theorem dX1_save_10 : decode cX1_save 10 = .ok (.aload_n 0, 1) := by decide +kernel
theorem dX1_save_11 : decode cX1_save 11 = .ok (.getfield 22, 3) := by decide +kernel
theorem dX1_save_14 : decode cX1_save 14 = .ok (.iconst 1, 1) := by decide +kernel
theorem dX1_save_15 : decode cX1_save 15 = .ok (.iadd, 1) := by decide +kernel
theorem dX1_save_16 : decode cX1_save 16 = .ok (.bipush 6, 2) := by decide +kernel
theorem dX1_save_18 : decode cX1_save 18 = .ok (.irem, 1) := by decide +kernel
theorem dX1_save_19 : decode cX1_save 19 = .ok (.putfield 22, 3) := by decide +kernel
theorem dX1_save_22 : decode cX1_save 22 = .ok (.aload_n 0, 1) := by decide +kernel
theorem dX1_save_23 : decode cX1_save 23 = .ok (.dup, 1) := by decide +kernel
theorem dX1_save_24 : decode cX1_save 24 = .ok (.getfield 18, 3) := by decide +kernel
theorem dX1_save_27 : decode cX1_save 27 = .ok (.iconst 1, 1) := by decide +kernel
theorem dX1_save_28 : decode cX1_save 28 = .ok (.isub, 1) := by decide +kernel
theorem dX1_save_29 : decode cX1_save 29 = .ok (.putfield 18, 3) := by decide +kernel
theorem dX1_save_32 : decode cX1_save 32 = .ok (.aload_n 0, 1) := by decide +kernel
theorem dX1_save_33 : decode cX1_save 33 = .ok (.aload_n 0, 1) := by decide +kernel
theorem dX1_save_34 : decode cX1_save 34 = .ok (.getfield 18, 3) := by decide +kernel
theorem dX1_save_37 : decode cX1_save 37 = .ok (.invokevirtual 25, 3) := by decide +kernel
theorem dX1_save_40 : decode cX1_save 40 = .ok (.astore_n 2, 1) := by decide +kernel
theorem dX1_save_41 : decode cX1_save 41 = .ok (.aload_n 2, 1) := by decide +kernel
theorem dX1_save_42 : decode cX1_save 42 = .ok (.ifnull 18, 3) := by decide +kernel
theorem dX1_save_45 : decode cX1_save 45 = .ok (.aload_n 2, 1) := by decide +kernel
theorem dX1_save_46 : decode cX1_save 46 = .ok (.aload_n 1, 1) := by decide +kernel
theorem dX1_save_47 : decode cX1_save 47 = .ok (.invokevirtual 29, 3) := by decide +kernel
theorem dX1_save_50 : decode cX1_save 50 = .ok (.aload_n 0, 1) := by decide +kernel
theorem dX1_save_51 : decode cX1_save 51 = .ok (.dup, 1) := by decide +kernel
theorem dX1_save_52 : decode cX1_save 52 = .ok (.getfield 18, 3) := by decide +kernel
theorem dX1_save_55 : decode cX1_save 55 = .ok (.iconst 1, 1) := by decide +kernel
theorem dX1_save_56 : decode cX1_save 56 = .ok (.iadd, 1) := by decide +kernel
theorem dX1_save_57 : decode cX1_save 57 = .ok (.putfield 18, 3) := by decide +kernel
theorem dX1_save_60 : decode cX1_save 60 = .ok (.return_, 1) := by decide +kernel
theorem dX1_stateAt_0 : decode cX1_stateAt 0 = .ok (.aload_n 0, 1) := by decide +kernel
theorem dX1_stateAt_1 : decode cX1_stateAt 1 = .ok (.getfield 22, 3) := by decide +kernel
theorem dX1_stateAt_4 : decode cX1_stateAt 4 = .ok (.iload_n 1, 1) := by decide +kernel
theorem dX1_stateAt_5 : decode cX1_stateAt 5 = .ok (.iadd, 1) := by decide +kernel
theorem dX1_stateAt_6 : decode cX1_stateAt 6 = .ok (.bipush 6, 2) := by decide +kernel
theorem dX1_stateAt_8 : decode cX1_stateAt 8 = .ok (.irem, 1) := by decide +kernel
theorem dX1_stateAt_9 : decode cX1_stateAt 9 = .ok (.istore_n 2, 1) := by decide +kernel
theorem dX1_stateAt_10 : decode cX1_stateAt 10 = .ok (.iload_n 1, 1) := by decide +kernel
theorem dX1_stateAt_11 : decode cX1_stateAt 11 = .ok (.ifCond .lt 25, 3) := by decide +kernel
theorem dX1_stateAt_14 : decode cX1_stateAt 14 = .ok (.iload_n 2, 1) := by decide +kernel
theorem dX1_stateAt_15 : decode cX1_stateAt 15 = .ok (.ifCond .lt 21, 3) := by decide +kernel
theorem dX1_stateAt_18 : decode cX1_stateAt 18 = .ok (.iload_n 2, 1) := by decide +kernel
theorem dX1_stateAt_19 : decode cX1_stateAt 19 = .ok (.aload_n 0, 1) := by decide +kernel
theorem dX1_stateAt_20 : decode cX1_stateAt 20 = .ok (.getfield 11, 3) := by decide +kernel
theorem dX1_stateAt_23 : decode cX1_stateAt 23 = .ok (.arraylength, 1) := by decide +kernel
theorem dX1_stateAt_24 : decode cX1_stateAt 24 = .ok (.if_icmp .ge 12, 3) := by decide +kernel
theorem dX1_stateAt_27 : decode cX1_stateAt 27 = .ok (.aload_n 0, 1) := by decide +kernel
theorem dX1_stateAt_28 : decode cX1_stateAt 28 = .ok (.getfield 11, 3) := by decide +kernel
theorem dX1_stateAt_31 : decode cX1_stateAt 31 = .ok (.iload_n 2, 1) := by decide +kernel
theorem dX1_stateAt_32 : decode cX1_stateAt 32 = .ok (.aaload, 1) := by decide +kernel
theorem dX1_stateAt_33 : decode cX1_stateAt 33 = .ok (.goto 4, 3) := by decide +kernel
theorem dX1_stateAt_36 : decode cX1_stateAt 36 = .ok (.aconst_null, 1) := by decide +kernel
theorem dX1_stateAt_37 : decode cX1_stateAt 37 = .ok (.areturn, 1) := by decide +kernel
theorem dX2_init_0 : decode cX2_init 0 = .ok (.aload_n 0, 1) := by decide +kernel
theorem dX2_init_1 : decode cX2_init 1 = .ok (.invokespecial 3, 3) := by decide +kernel
theorem dX2_init_4 : decode cX2_init 4 = .ok (.aload_n 0, 1) := by decide +kernel
theorem dX2_init_5 : decode cX2_init 5 = .ok (.bipush 40, 2) := by decide +kernel
theorem dX2_init_7 : decode cX2_init 7 = .ok (.newarray .boolean, 2) := by decide +kernel
theorem dX2_init_9 : decode cX2_init 9 = .ok (.putfield 9, 3) := by decide +kernel
theorem dX2_init_12 : decode cX2_init 12 = .ok (.aload_n 0, 1) := by decide +kernel
theorem dX2_init_13 : decode cX2_init 13 = .ok (.bipush 24, 2) := by decide +kernel
theorem dX2_init_15 : decode cX2_init 15 = .ok (.newarray .int, 2) := by decide +kernel
theorem dX2_init_17 : decode cX2_init 17 = .ok (.putfield 15, 3) := by decide +kernel
theorem dX2_init_20 : decode cX2_init 20 = .ok (.aload_n 0, 1) := by decide +kernel
theorem dX2_init_21 : decode cX2_init 21 = .ok (.bipush 24, 2) := by decide +kernel
theorem dX2_init_23 : decode cX2_init 23 = .ok (.newarray .int, 2) := by decide +kernel
theorem dX2_init_25 : decode cX2_init 25 = .ok (.putfield 19, 3) := by decide +kernel
theorem dX2_init_28 : decode cX2_init 28 = .ok (.return_, 1) := by decide +kernel
theorem dX3_init_0 : decode cX3_init 0 = .ok (.aload_n 0, 1) := by decide +kernel
theorem dX3_init_1 : decode cX3_init 1 = .ok (.invokespecial 1, 3) := by decide +kernel
theorem dX3_init_4 : decode cX3_init 4 = .ok (.aload_n 0, 1) := by decide +kernel
theorem dX3_init_5 : decode cX3_init 5 = .ok (.new 7, 3) := by decide +kernel
theorem dX3_init_8 : decode cX3_init 8 = .ok (.dup, 1) := by decide +kernel
theorem dX3_init_9 : decode cX3_init 9 = .ok (.invokespecial 9, 3) := by decide +kernel
theorem dX3_init_12 : decode cX3_init 12 = .ok (.putfield 10, 3) := by decide +kernel
theorem dX3_init_15 : decode cX3_init 15 = .ok (.aload_n 0, 1) := by decide +kernel
theorem dX3_init_16 : decode cX3_init 16 = .ok (.new 7, 3) := by decide +kernel
theorem dX3_init_19 : decode cX3_init 19 = .ok (.dup, 1) := by decide +kernel
theorem dX3_init_20 : decode cX3_init 20 = .ok (.invokespecial 9, 3) := by decide +kernel
theorem dX3_init_23 : decode cX3_init 23 = .ok (.putfield 16, 3) := by decide +kernel
theorem dX3_init_26 : decode cX3_init 26 = .ok (.aload_n 0, 1) := by decide +kernel
theorem dX3_init_27 : decode cX3_init 27 = .ok (.new 19, 3) := by decide +kernel
theorem dX3_init_30 : decode cX3_init 30 = .ok (.dup, 1) := by decide +kernel
theorem dX3_init_31 : decode cX3_init 31 = .ok (.invokespecial 21, 3) := by decide +kernel
theorem dX3_init_34 : decode cX3_init 34 = .ok (.putfield 22, 3) := by decide +kernel
theorem dX3_init_37 : decode cX3_init 37 = .ok (.aload_n 0, 1) := by decide +kernel
theorem dX3_init_38 : decode cX3_init 38 = .ok (.iconst 2, 1) := by decide +kernel
theorem dX3_init_39 : decode cX3_init 39 = .ok (.anewarray 7, 3) := by decide +kernel
theorem dX3_init_42 : decode cX3_init 42 = .ok (.putfield 26, 3) := by decide +kernel
theorem dX3_init_45 : decode cX3_init 45 = .ok (.aload_n 0, 1) := by decide +kernel
theorem dX3_init_46 : decode cX3_init 46 = .ok (.iconst 2, 1) := by decide +kernel
theorem dX3_init_47 : decode cX3_init 47 = .ok (.newarray .boolean, 2) := by decide +kernel
theorem dX3_init_49 : decode cX3_init 49 = .ok (.putfield 30, 3) := by decide +kernel
theorem dX3_init_52 : decode cX3_init 52 = .ok (.aload_n 0, 1) := by decide +kernel
theorem dX3_init_53 : decode cX3_init 53 = .ok (.bipush 60, 2) := by decide +kernel
theorem dX3_init_55 : decode cX3_init 55 = .ok (.newarray .int, 2) := by decide +kernel
theorem dX3_init_57 : decode cX3_init 57 = .ok (.putfield 34, 3) := by decide +kernel
theorem dX3_init_60 : decode cX3_init 60 = .ok (.aload_n 0, 1) := by decide +kernel
theorem dX3_init_61 : decode cX3_init 61 = .ok (.new 38, 3) := by decide +kernel
theorem dX3_init_64 : decode cX3_init 64 = .ok (.dup, 1) := by decide +kernel
theorem dX3_init_65 : decode cX3_init 65 = .ok (.invokespecial 40, 3) := by decide +kernel
theorem dX3_init_68 : decode cX3_init 68 = .ok (.putfield 41, 3) := by decide +kernel
theorem dX3_init_71 : decode cX3_init 71 = .ok (.iconst 0, 1) := by decide +kernel
theorem dX3_init_72 : decode cX3_init 72 = .ok (.istore_n 1, 1) := by decide +kernel
theorem dX3_init_73 : decode cX3_init 73 = .ok (.iload_n 1, 1) := by decide +kernel
theorem dX3_init_74 : decode cX3_init 74 = .ok (.aload_n 0, 1) := by decide +kernel
theorem dX3_init_75 : decode cX3_init 75 = .ok (.getfield 26, 3) := by decide +kernel
theorem dX3_init_78 : decode cX3_init 78 = .ok (.arraylength, 1) := by decide +kernel
theorem dX3_init_79 : decode cX3_init 79 = .ok (.if_icmp .ge 22, 3) := by decide +kernel
theorem dX3_init_82 : decode cX3_init 82 = .ok (.aload_n 0, 1) := by decide +kernel
theorem dX3_init_83 : decode cX3_init 83 = .ok (.getfield 26, 3) := by decide +kernel
theorem dX3_init_86 : decode cX3_init 86 = .ok (.iload_n 1, 1) := by decide +kernel
theorem dX3_init_87 : decode cX3_init 87 = .ok (.new 7, 3) := by decide +kernel
theorem dX3_init_90 : decode cX3_init 90 = .ok (.dup, 1) := by decide +kernel
theorem dX3_init_91 : decode cX3_init 91 = .ok (.invokespecial 9, 3) := by decide +kernel
theorem dX3_init_94 : decode cX3_init 94 = .ok (.aastore, 1) := by decide +kernel
theorem dX3_init_95 : decode cX3_init 95 = .ok (.iinc 1 1, 3) := by decide +kernel
theorem dX3_init_98 : decode cX3_init 98 = .ok (.goto (-25), 3) := by decide +kernel
theorem dX3_init_101 : decode cX3_init 101 = .ok (.return_, 1) := by decide +kernel
theorem dX3_put_0 : decode cX3_put 0 = .ok (.iload_n 1, 1) := by decide +kernel
theorem dX3_put_1 : decode cX3_put 1 = .ok (.invokestatic 45, 3) := by decide +kernel
theorem dX3_put_4 : decode cX3_put 4 = .ok (.ifCond .eq 14, 3) := by decide +kernel
theorem dX3_put_7 : decode cX3_put 7 = .ok (.aload_n 0, 1) := by decide +kernel
theorem dX3_put_8 : decode cX3_put 8 = .ok (.iload_n 2, 1) := by decide +kernel
theorem dX3_put_9 : decode cX3_put 9 = .ok (.iload_n 3, 1) := by decide +kernel
theorem dX3_put_10 : decode cX3_put 10 = .ok (.iload 4, 2) := by decide +kernel
theorem dX3_put_12 : decode cX3_put 12 = .ok (.invokevirtual 49, 3) := by decide +kernel
theorem dX3_put_15 : decode cX3_put 15 = .ok (.ifCond .ne 13, 3) := by decide +kernel
theorem dX3_put_18 : decode cX3_put 18 = .ok (.new 53, 3) := by decide +kernel
theorem dX3_put_21 : decode cX3_put 21 = .ok (.dup, 1) := by decide +kernel
theorem dX3_put_22 : decode cX3_put 22 = .ok (.ldc 55, 2) := by decide +kernel
theorem dX3_put_24 : decode cX3_put 24 = .ok (.invokespecial 57, 3) := by decide +kernel
theorem dX3_put_27 : decode cX3_put 27 = .ok (.athrow, 1) := by decide +kernel
theorem dX3_put_28 : decode cX3_put 28 = .ok (.aload_n 0, 1) := by decide +kernel
theorem dX3_put_29 : decode cX3_put 29 = .ok (.getfield 10, 3) := by decide +kernel
theorem dX3_put_32 : decode cX3_put 32 = .ok (.iload_n 1, 1) := by decide +kernel
theorem dX3_put_33 : decode cX3_put 33 = .ok (.invokevirtual 60, 3) := by decide +kernel
theorem dX3_put_36 : decode cX3_put 36 = .ok (.ifCond .ne 13, 3) := by decide +kernel
theorem dX3_put_39 : decode cX3_put 39 = .ok (.new 63, 3) := by decide +kernel
theorem dX3_put_42 : decode cX3_put 42 = .ok (.dup, 1) := by decide +kernel
theorem dX3_put_43 : decode cX3_put 43 = .ok (.ldc 65, 2) := by decide +kernel
theorem dX3_put_45 : decode cX3_put 45 = .ok (.invokespecial 67, 3) := by decide +kernel
theorem dX3_put_48 : decode cX3_put 48 = .ok (.athrow, 1) := by decide +kernel
theorem dX3_put_49 : decode cX3_put 49 = .ok (.aload_n 0, 1) := by decide +kernel
theorem dX3_put_50 : decode cX3_put 50 = .ok (.getfield 22, 3) := by decide +kernel
theorem dX3_put_53 : decode cX3_put 53 = .ok (.aload_n 0, 1) := by decide +kernel
theorem dX3_put_54 : decode cX3_put 54 = .ok (.getfield 10, 3) := by decide +kernel
theorem dX3_put_57 : decode cX3_put 57 = .ok (.invokevirtual 68, 3) := by decide +kernel
theorem dX3_put_60 : decode cX3_put 60 = .ok (.iload_n 2, 1) := by decide +kernel
theorem dX3_put_61 : decode cX3_put 61 = .ok (.iload_n 3, 1) := by decide +kernel
theorem dX3_put_62 : decode cX3_put 62 = .ok (.invokestatic 72, 3) := by decide +kernel
theorem dX3_put_65 : decode cX3_put 65 = .ok (.istore 5, 2) := by decide +kernel
theorem dX3_put_67 : decode cX3_put 67 = .ok (.aload_n 0, 1) := by decide +kernel
theorem dX3_put_68 : decode cX3_put 68 = .ok (.getfield 10, 3) := by decide +kernel
theorem dX3_put_71 : decode cX3_put 71 = .ok (.iload_n 1, 1) := by decide +kernel
theorem dX3_put_72 : decode cX3_put 72 = .ok (.iload 5, 2) := by decide +kernel
theorem dX3_put_74 : decode cX3_put 74 = .ok (.iload 4, 2) := by decide +kernel
theorem dX3_put_76 : decode cX3_put 76 = .ok (.invokevirtual 76, 3) := by decide +kernel
theorem dX3_put_79 : decode cX3_put 79 = .ok (.istore 6, 2) := by decide +kernel
theorem dX3_put_81 : decode cX3_put 81 = .ok (.iload 6, 2) := by decide +kernel
theorem dX3_put_83 : decode cX3_put 83 = .ok (.ifCond .eq 19, 3) := by decide +kernel
theorem dX3_put_86 : decode cX3_put 86 = .ok (.aload_n 0, 1) := by decide +kernel
theorem dX3_put_87 : decode cX3_put 87 = .ok (.getfield 10, 3) := by decide +kernel
theorem dX3_put_90 : decode cX3_put 90 = .ok (.dup, 1) := by decide +kernel
theorem dX3_put_91 : decode cX3_put 91 = .ok (.getfield 80, 3) := by decide +kernel
theorem dX3_put_94 : decode cX3_put 94 = .ok (.iconst 1, 1) := by decide +kernel
theorem dX3_put_95 : decode cX3_put 95 = .ok (.iadd, 1) := by decide +kernel
theorem dX3_put_96 : decode cX3_put 96 = .ok (.putfield 80, 3) := by decide +kernel
theorem dX3_put_99 : decode cX3_put 99 = .ok (.iload 6, 2) := by decide +kernel
theorem dX3_put_101 : decode cX3_put 101 = .ok (.ireturn, 1) := by decide +kernel
theorem dX3_put_102 : decode cX3_put 102 = .ok (.aload_n 0, 1) := by decide +kernel
theorem dX3_put_103 : decode cX3_put 103 = .ok (.getfield 10, 3) := by decide +kernel
theorem dX3_put_106 : decode cX3_put 106 = .ok (.iload_n 1, 1) := by decide +kernel
theorem dX3_put_107 : decode cX3_put 107 = .ok (.iload 5, 2) := by decide +kernel
theorem dX3_put_109 : decode cX3_put 109 = .ok (.iload 4, 2) := by decide +kernel
theorem dX3_put_111 : decode cX3_put 111 = .ok (.invokevirtual 84, 3) := by decide +kernel
theorem dX3_put_114 : decode cX3_put 114 = .ok (.aload_n 0, 1) := by decide +kernel
theorem dX3_put_115 : decode cX3_put 115 = .ok (.getfield 10, 3) := by decide +kernel
theorem dX3_put_118 : decode cX3_put 118 = .ok (.dup, 1) := by decide +kernel
theorem dX3_put_119 : decode cX3_put 119 = .ok (.getfield 88, 3) := by decide +kernel
theorem dX3_put_122 : decode cX3_put 122 = .ok (.iconst 1, 1) := by decide +kernel
theorem dX3_put_123 : decode cX3_put 123 = .ok (.iadd, 1) := by decide +kernel
theorem dX3_put_124 : decode cX3_put 124 = .ok (.putfield 88, 3) := by decide +kernel
theorem dX3_put_127 : decode cX3_put 127 = .ok (.iconst 0, 1) := by decide +kernel
theorem dX3_put_128 : decode cX3_put 128 = .ok (.ireturn, 1) := by decide +kernel
theorem dX3_takeOff_0 : decode cX3_takeOff 0 = .ok (.iload_n 1, 1) := by decide +kernel
theorem dX3_takeOff_1 : decode cX3_takeOff 1 = .ok (.invokestatic 45, 3) := by decide +kernel
theorem dX3_takeOff_4 : decode cX3_takeOff 4 = .ok (.ifCond .ne 13, 3) := by decide +kernel
theorem dX3_takeOff_7 : decode cX3_takeOff 7 = .ok (.new 53, 3) := by decide +kernel
theorem dX3_takeOff_10 : decode cX3_takeOff 10 = .ok (.dup, 1) := by decide +kernel
theorem dX3_takeOff_11 : decode cX3_takeOff 11 = .ok (.ldc 91, 2) := by decide +kernel
theorem dX3_takeOff_13 : decode cX3_takeOff 13 = .ok (.invokespecial 57, 3) := by decide +kernel
theorem dX3_takeOff_16 : decode cX3_takeOff 16 = .ok (.athrow, 1) := by decide +kernel
theorem dX3_takeOff_17 : decode cX3_takeOff 17 = .ok (.aload_n 0, 1) := by decide +kernel
theorem dX3_takeOff_18 : decode cX3_takeOff 18 = .ok (.getfield 10, 3) := by decide +kernel
theorem dX3_takeOff_21 : decode cX3_takeOff 21 = .ok (.iload_n 1, 1) := by decide +kernel
theorem dX3_takeOff_22 : decode cX3_takeOff 22 = .ok (.invokevirtual 60, 3) := by decide +kernel
theorem dX3_takeOff_25 : decode cX3_takeOff 25 = .ok (.ifCond .eq 13, 3) := by decide +kernel
theorem dX3_takeOff_28 : decode cX3_takeOff 28 = .ok (.new 63, 3) := by decide +kernel
theorem dX3_takeOff_31 : decode cX3_takeOff 31 = .ok (.dup, 1) := by decide +kernel
theorem dX3_takeOff_32 : decode cX3_takeOff 32 = .ok (.ldc 93, 2) := by decide +kernel
theorem dX3_takeOff_34 : decode cX3_takeOff 34 = .ok (.invokespecial 67, 3) := by decide +kernel
theorem dX3_takeOff_37 : decode cX3_takeOff 37 = .ok (.athrow, 1) := by decide +kernel
theorem dX3_takeOff_38 : decode cX3_takeOff 38 = .ok (.aload_n 0, 1) := by decide +kernel
theorem dX3_takeOff_39 : decode cX3_takeOff 39 = .ok (.getfield 22, 3) := by decide +kernel
theorem dX3_takeOff_42 : decode cX3_takeOff 42 = .ok (.aload_n 0, 1) := by decide +kernel
theorem dX3_takeOff_43 : decode cX3_takeOff 43 = .ok (.getfield 10, 3) := by decide +kernel
theorem dX3_takeOff_46 : decode cX3_takeOff 46 = .ok (.invokevirtual 68, 3) := by decide +kernel
theorem dX3_takeOff_49 : decode cX3_takeOff 49 = .ok (.aload_n 0, 1) := by decide +kernel
theorem dX3_takeOff_50 : decode cX3_takeOff 50 = .ok (.getfield 10, 3) := by decide +kernel
theorem dX3_takeOff_53 : decode cX3_takeOff 53 = .ok (.iload_n 1, 1) := by decide +kernel
theorem dX3_takeOff_54 : decode cX3_takeOff 54 = .ok (.invokevirtual 95, 3) := by decide +kernel
theorem dX3_takeOff_57 : decode cX3_takeOff 57 = .ok (.istore_n 2, 1) := by decide +kernel
theorem dX3_takeOff_58 : decode cX3_takeOff 58 = .ok (.aload_n 0, 1) := by decide +kernel
theorem dX3_takeOff_59 : decode cX3_takeOff 59 = .ok (.getfield 10, 3) := by decide +kernel
theorem dX3_takeOff_62 : decode cX3_takeOff 62 = .ok (.iload_n 1, 1) := by decide +kernel
theorem dX3_takeOff_63 : decode cX3_takeOff 63 = .ok (.invokevirtual 99, 3) := by decide +kernel
theorem dX3_takeOff_66 : decode cX3_takeOff 66 = .ok (.iload_n 2, 1) := by decide +kernel
theorem dX3_takeOff_67 : decode cX3_takeOff 67 = .ok (.invokestatic 103, 3) := by decide +kernel
theorem dX3_takeOff_70 : decode cX3_takeOff 70 = .ok (.ireturn, 1) := by decide +kernel
theorem dX3_move_0 : decode cX3_move 0 = .ok (.iload_n 1, 1) := by decide +kernel
theorem dX3_move_1 : decode cX3_move 1 = .ok (.invokestatic 45, 3) := by decide +kernel
theorem dX3_move_4 : decode cX3_move 4 = .ok (.ifCond .eq 11, 3) := by decide +kernel
theorem dX3_move_7 : decode cX3_move 7 = .ok (.iload_n 2, 1) := by decide +kernel
theorem dX3_move_8 : decode cX3_move 8 = .ok (.iload_n 3, 1) := by decide +kernel
theorem dX3_move_9 : decode cX3_move 9 = .ok (.invokestatic 106, 3) := by decide +kernel
theorem dX3_move_12 : decode cX3_move 12 = .ok (.ifCond .ne 13, 3) := by decide +kernel
theorem dX3_move_15 : decode cX3_move 15 = .ok (.new 53, 3) := by decide +kernel
theorem dX3_move_18 : decode cX3_move 18 = .ok (.dup, 1) := by decide +kernel
theorem dX3_move_19 : decode cX3_move 19 = .ok (.ldc 110, 2) := by decide +kernel
theorem dX3_move_21 : decode cX3_move 21 = .ok (.invokespecial 57, 3) := by decide +kernel
theorem dX3_move_24 : decode cX3_move 24 = .ok (.athrow, 1) := by decide +kernel
theorem dX3_move_25 : decode cX3_move 25 = .ok (.iload_n 2, 1) := by decide +kernel
theorem dX3_move_26 : decode cX3_move 26 = .ok (.iload_n 3, 1) := by decide +kernel
theorem dX3_move_27 : decode cX3_move 27 = .ok (.invokestatic 72, 3) := by decide +kernel
theorem dX3_move_30 : decode cX3_move 30 = .ok (.istore 4, 2) := by decide +kernel
theorem dX3_move_32 : decode cX3_move 32 = .ok (.aload_n 0, 1) := by decide +kernel
theorem dX3_move_33 : decode cX3_move 33 = .ok (.getfield 10, 3) := by decide +kernel
theorem dX3_move_36 : decode cX3_move 36 = .ok (.iload_n 1, 1) := by decide +kernel
theorem dX3_move_37 : decode cX3_move 37 = .ok (.invokevirtual 60, 3) := by decide +kernel
theorem dX3_move_40 : decode cX3_move 40 = .ok (.ifCond .ne 16, 3) := by decide +kernel
theorem dX3_move_43 : decode cX3_move 43 = .ok (.aload_n 0, 1) := by decide +kernel
theorem dX3_move_44 : decode cX3_move 44 = .ok (.getfield 10, 3) := by decide +kernel
theorem dX3_move_47 : decode cX3_move 47 = .ok (.iload_n 1, 1) := by decide +kernel
theorem dX3_move_48 : decode cX3_move 48 = .ok (.invokevirtual 95, 3) := by decide +kernel
theorem dX3_move_51 : decode cX3_move 51 = .ok (.iload 4, 2) := by decide +kernel
theorem dX3_move_53 : decode cX3_move 53 = .ok (.if_icmp .ne 13, 3) := by decide +kernel
theorem dX3_move_56 : decode cX3_move 56 = .ok (.new 63, 3) := by decide +kernel
theorem dX3_move_59 : decode cX3_move 59 = .ok (.dup, 1) := by decide +kernel
theorem dX3_move_60 : decode cX3_move 60 = .ok (.ldc 112, 2) := by decide +kernel
theorem dX3_move_62 : decode cX3_move 62 = .ok (.invokespecial 67, 3) := by decide +kernel
theorem dX3_move_65 : decode cX3_move 65 = .ok (.athrow, 1) := by decide +kernel
theorem dX3_move_66 : decode cX3_move 66 = .ok (.aload_n 0, 1) := by decide +kernel
theorem dX3_move_67 : decode cX3_move 67 = .ok (.getfield 22, 3) := by decide +kernel
theorem dX3_move_70 : decode cX3_move 70 = .ok (.aload_n 0, 1) := by decide +kernel
theorem dX3_move_71 : decode cX3_move 71 = .ok (.getfield 10, 3) := by decide +kernel
theorem dX3_move_74 : decode cX3_move 74 = .ok (.invokevirtual 68, 3) := by decide +kernel
theorem dX3_move_77 : decode cX3_move 77 = .ok (.aload_n 0, 1) := by decide +kernel
theorem dX3_move_78 : decode cX3_move 78 = .ok (.getfield 10, 3) := by decide +kernel
theorem dX3_move_81 : decode cX3_move 81 = .ok (.iload 4, 2) := by decide +kernel
theorem dX3_move_83 : decode cX3_move 83 = .ok (.invokevirtual 114, 3) := by decide +kernel
theorem dX3_move_86 : decode cX3_move 86 = .ok (.istore 5, 2) := by decide +kernel
theorem dX3_move_88 : decode cX3_move 88 = .ok (.aload_n 0, 1) := by decide +kernel
theorem dX3_move_89 : decode cX3_move 89 = .ok (.getfield 10, 3) := by decide +kernel
theorem dX3_move_92 : decode cX3_move 92 = .ok (.iload_n 1, 1) := by decide +kernel
theorem dX3_move_93 : decode cX3_move 93 = .ok (.iload 4, 2) := by decide +kernel
theorem dX3_move_95 : decode cX3_move 95 = .ok (.iload 5, 2) := by decide +kernel
theorem dX3_move_97 : decode cX3_move 97 = .ok (.invokevirtual 76, 3) := by decide +kernel
theorem dX3_move_100 : decode cX3_move 100 = .ok (.istore 6, 2) := by decide +kernel
theorem dX3_move_102 : decode cX3_move 102 = .ok (.iload 6, 2) := by decide +kernel
theorem dX3_move_104 : decode cX3_move 104 = .ok (.ifCond .eq 19, 3) := by decide +kernel
theorem dX3_move_107 : decode cX3_move 107 = .ok (.aload_n 0, 1) := by decide +kernel
theorem dX3_move_108 : decode cX3_move 108 = .ok (.getfield 10, 3) := by decide +kernel
theorem dX3_move_111 : decode cX3_move 111 = .ok (.dup, 1) := by decide +kernel
theorem dX3_move_112 : decode cX3_move 112 = .ok (.getfield 80, 3) := by decide +kernel
theorem dX3_move_115 : decode cX3_move 115 = .ok (.iconst 1, 1) := by decide +kernel
theorem dX3_move_116 : decode cX3_move 116 = .ok (.iadd, 1) := by decide +kernel
theorem dX3_move_117 : decode cX3_move 117 = .ok (.putfield 80, 3) := by decide +kernel
theorem dX3_move_120 : decode cX3_move 120 = .ok (.iload 6, 2) := by decide +kernel
theorem dX3_move_122 : decode cX3_move 122 = .ok (.ireturn, 1) := by decide +kernel
theorem dX3_move_123 : decode cX3_move 123 = .ok (.aload_n 0, 1) := by decide +kernel
theorem dX3_move_124 : decode cX3_move 124 = .ok (.getfield 10, 3) := by decide +kernel
theorem dX3_move_127 : decode cX3_move 127 = .ok (.iload_n 1, 1) := by decide +kernel
theorem dX3_move_128 : decode cX3_move 128 = .ok (.invokevirtual 99, 3) := by decide +kernel
theorem dX3_move_131 : decode cX3_move 131 = .ok (.aload_n 0, 1) := by decide +kernel
theorem dX3_move_132 : decode cX3_move 132 = .ok (.getfield 10, 3) := by decide +kernel
theorem dX3_move_135 : decode cX3_move 135 = .ok (.iload_n 1, 1) := by decide +kernel
theorem dX3_move_136 : decode cX3_move 136 = .ok (.iload 4, 2) := by decide +kernel
theorem dX3_move_138 : decode cX3_move 138 = .ok (.iload 5, 2) := by decide +kernel
theorem dX3_move_140 : decode cX3_move 140 = .ok (.invokevirtual 84, 3) := by decide +kernel
theorem dX3_move_143 : decode cX3_move 143 = .ok (.aload_n 0, 1) := by decide +kernel
theorem dX3_move_144 : decode cX3_move 144 = .ok (.getfield 10, 3) := by decide +kernel
theorem dX3_move_147 : decode cX3_move 147 = .ok (.dup, 1) := by decide +kernel
theorem dX3_move_148 : decode cX3_move 148 = .ok (.getfield 88, 3) := by decide +kernel
theorem dX3_move_151 : decode cX3_move 151 = .ok (.iconst 1, 1) := by decide +kernel
theorem dX3_move_152 : decode cX3_move 152 = .ok (.iadd, 1) := by decide +kernel
theorem dX3_move_153 : decode cX3_move 153 = .ok (.putfield 88, 3) := by decide +kernel
theorem dX3_move_156 : decode cX3_move 156 = .ok (.iconst 0, 1) := by decide +kernel
theorem dX3_move_157 : decode cX3_move 157 = .ok (.ireturn, 1) := by decide +kernel
theorem dX3_clearDoor_0 : decode cX3_clearDoor 0 = .ok (.iload_n 1, 1) := by decide +kernel
theorem dX3_clearDoor_1 : decode cX3_clearDoor 1 = .ok (.invokestatic 117, 3) := by decide +kernel
theorem dX3_clearDoor_4 : decode cX3_clearDoor 4 = .ok (.ifCond .ne 13, 3) := by decide +kernel
theorem dX3_clearDoor_7 : decode cX3_clearDoor 7 = .ok (.new 53, 3) := by decide +kernel
theorem dX3_clearDoor_10 : decode cX3_clearDoor 10 = .ok (.dup, 1) := by decide +kernel
theorem dX3_clearDoor_11 : decode cX3_clearDoor 11 = .ok (.ldc 120, 2) := by decide +kernel
theorem dX3_clearDoor_13 : decode cX3_clearDoor 13 = .ok (.invokespecial 57, 3) := by decide +kernel
theorem dX3_clearDoor_16 : decode cX3_clearDoor 16 = .ok (.athrow, 1) := by decide +kernel
theorem dX3_clearDoor_17 : decode cX3_clearDoor 17 = .ok (.aload_n 0, 1) := by decide +kernel
theorem dX3_clearDoor_18 : decode cX3_clearDoor 18 = .ok (.getfield 22, 3) := by decide +kernel
theorem dX3_clearDoor_21 : decode cX3_clearDoor 21 = .ok (.aload_n 0, 1) := by decide +kernel
theorem dX3_clearDoor_22 : decode cX3_clearDoor 22 = .ok (.getfield 10, 3) := by decide +kernel
theorem dX3_clearDoor_25 : decode cX3_clearDoor 25 = .ok (.invokevirtual 68, 3) := by decide +kernel
theorem dX3_clearDoor_28 : decode cX3_clearDoor 28 = .ok (.aload_n 0, 1) := by decide +kernel
theorem dX3_clearDoor_29 : decode cX3_clearDoor 29 = .ok (.getfield 10, 3) := by decide +kernel
theorem dX3_clearDoor_32 : decode cX3_clearDoor 32 = .ok (.iload_n 1, 1) := by decide +kernel
theorem dX3_clearDoor_33 : decode cX3_clearDoor 33 = .ok (.invokevirtual 122, 3) := by decide +kernel
theorem dX3_clearDoor_36 : decode cX3_clearDoor 36 = .ok (.ireturn, 1) := by decide +kernel
theorem dX3_borrow_0 : decode cX3_borrow 0 = .ok (.iload_n 1, 1) := by decide +kernel
theorem dX3_borrow_1 : decode cX3_borrow 1 = .ok (.iload_n 2, 1) := by decide +kernel
theorem dX3_borrow_2 : decode cX3_borrow 2 = .ok (.invokestatic 106, 3) := by decide +kernel
theorem dX3_borrow_5 : decode cX3_borrow 5 = .ok (.ifCond .eq 12, 3) := by decide +kernel
theorem dX3_borrow_8 : decode cX3_borrow 8 = .ok (.iload_n 3, 1) := by decide +kernel
theorem dX3_borrow_9 : decode cX3_borrow 9 = .ok (.iload 4, 2) := by decide +kernel
theorem dX3_borrow_11 : decode cX3_borrow 11 = .ok (.invokestatic 106, 3) := by decide +kernel
theorem dX3_borrow_14 : decode cX3_borrow 14 = .ok (.ifCond .ne 13, 3) := by decide +kernel
theorem dX3_borrow_17 : decode cX3_borrow 17 = .ok (.new 53, 3) := by decide +kernel
theorem dX3_borrow_20 : decode cX3_borrow 20 = .ok (.dup, 1) := by decide +kernel
theorem dX3_borrow_21 : decode cX3_borrow 21 = .ok (.ldc 125, 2) := by decide +kernel
theorem dX3_borrow_23 : decode cX3_borrow 23 = .ok (.invokespecial 57, 3) := by decide +kernel
theorem dX3_borrow_26 : decode cX3_borrow 26 = .ok (.athrow, 1) := by decide +kernel
theorem dX3_borrow_27 : decode cX3_borrow 27 = .ok (.iload_n 1, 1) := by decide +kernel
theorem dX3_borrow_28 : decode cX3_borrow 28 = .ok (.iload_n 3, 1) := by decide +kernel
theorem dX3_borrow_29 : decode cX3_borrow 29 = .ok (.if_icmp .ne 13, 3) := by decide +kernel
theorem dX3_borrow_32 : decode cX3_borrow 32 = .ok (.new 127, 3) := by decide +kernel
theorem dX3_borrow_35 : decode cX3_borrow 35 = .ok (.dup, 1) := by decide +kernel
theorem dX3_borrow_36 : decode cX3_borrow 36 = .ok (.ldc 129, 2) := by decide +kernel
theorem dX3_borrow_38 : decode cX3_borrow 38 = .ok (.invokespecial 131, 3) := by decide +kernel
theorem dX3_borrow_41 : decode cX3_borrow 41 = .ok (.athrow, 1) := by decide +kernel
theorem dX3_borrow_42 : decode cX3_borrow 42 = .ok (.iload_n 1, 1) := by decide +kernel
theorem dX3_borrow_43 : decode cX3_borrow 43 = .ok (.iload_n 2, 1) := by decide +kernel
theorem dX3_borrow_44 : decode cX3_borrow 44 = .ok (.invokestatic 72, 3) := by decide +kernel
theorem dX3_borrow_47 : decode cX3_borrow 47 = .ok (.istore 5, 2) := by decide +kernel
theorem dX3_borrow_49 : decode cX3_borrow 49 = .ok (.iload_n 3, 1) := by decide +kernel
theorem dX3_borrow_50 : decode cX3_borrow 50 = .ok (.iload 4, 2) := by decide +kernel
theorem dX3_borrow_52 : decode cX3_borrow 52 = .ok (.invokestatic 72, 3) := by decide +kernel
theorem dX3_borrow_55 : decode cX3_borrow 55 = .ok (.istore 6, 2) := by decide +kernel
theorem dX3_borrow_57 : decode cX3_borrow 57 = .ok (.aload_n 0, 1) := by decide +kernel
theorem dX3_borrow_58 : decode cX3_borrow 58 = .ok (.getfield 10, 3) := by decide +kernel
theorem dX3_borrow_61 : decode cX3_borrow 61 = .ok (.iload 5, 2) := by decide +kernel
theorem dX3_borrow_63 : decode cX3_borrow 63 = .ok (.invokevirtual 132, 3) := by decide +kernel
theorem dX3_borrow_66 : decode cX3_borrow 66 = .ok (.ifCond .eq 15, 3) := by decide +kernel
theorem dX3_borrow_69 : decode cX3_borrow 69 = .ok (.aload_n 0, 1) := by decide +kernel
theorem dX3_borrow_70 : decode cX3_borrow 70 = .ok (.getfield 10, 3) := by decide +kernel
theorem dX3_borrow_73 : decode cX3_borrow 73 = .ok (.iload 6, 2) := by decide +kernel
theorem dX3_borrow_75 : decode cX3_borrow 75 = .ok (.invokevirtual 132, 3) := by decide +kernel
theorem dX3_borrow_78 : decode cX3_borrow 78 = .ok (.ifCond .ne 13, 3) := by decide +kernel
theorem dX3_borrow_81 : decode cX3_borrow 81 = .ok (.new 63, 3) := by decide +kernel
theorem dX3_borrow_84 : decode cX3_borrow 84 = .ok (.dup, 1) := by decide +kernel
theorem dX3_borrow_85 : decode cX3_borrow 85 = .ok (.ldc 135, 2) := by decide +kernel
theorem dX3_borrow_87 : decode cX3_borrow 87 = .ok (.invokespecial 67, 3) := by decide +kernel
theorem dX3_borrow_90 : decode cX3_borrow 90 = .ok (.athrow, 1) := by decide +kernel
theorem dX3_borrow_91 : decode cX3_borrow 91 = .ok (.aload_n 0, 1) := by decide +kernel
theorem dX3_borrow_92 : decode cX3_borrow 92 = .ok (.getfield 22, 3) := by decide +kernel
theorem dX3_borrow_95 : decode cX3_borrow 95 = .ok (.aload_n 0, 1) := by decide +kernel
theorem dX3_borrow_96 : decode cX3_borrow 96 = .ok (.getfield 10, 3) := by decide +kernel
theorem dX3_borrow_99 : decode cX3_borrow 99 = .ok (.invokevirtual 68, 3) := by decide +kernel
theorem dX3_borrow_102 : decode cX3_borrow 102 = .ok (.aload_n 0, 1) := by decide +kernel
theorem dX3_borrow_103 : decode cX3_borrow 103 = .ok (.getfield 10, 3) := by decide +kernel
theorem dX3_borrow_106 : decode cX3_borrow 106 = .ok (.iload 5, 2) := by decide +kernel
theorem dX3_borrow_108 : decode cX3_borrow 108 = .ok (.iload 6, 2) := by decide +kernel
theorem dX3_borrow_110 : decode cX3_borrow 110 = .ok (.invokevirtual 137, 3) := by decide +kernel
theorem dX3_borrow_113 : decode cX3_borrow 113 = .ok (.aload_n 0, 1) := by decide +kernel
theorem dX3_borrow_114 : decode cX3_borrow 114 = .ok (.getfield 10, 3) := by decide +kernel
theorem dX3_borrow_117 : decode cX3_borrow 117 = .ok (.iload 5, 2) := by decide +kernel
theorem dX3_borrow_119 : decode cX3_borrow 119 = .ok (.invokevirtual 141, 3) := by decide +kernel
theorem dX3_borrow_122 : decode cX3_borrow 122 = .ok (.ireturn, 1) := by decide +kernel
theorem dX3_bringBack_0 : decode cX3_bringBack 0 = .ok (.iload_n 1, 1) := by decide +kernel
theorem dX3_bringBack_1 : decode cX3_bringBack 1 = .ok (.iload_n 2, 1) := by decide +kernel
theorem dX3_bringBack_2 : decode cX3_bringBack 2 = .ok (.invokestatic 106, 3) := by decide +kernel
theorem dX3_bringBack_5 : decode cX3_bringBack 5 = .ok (.ifCond .ne 13, 3) := by decide +kernel
theorem dX3_bringBack_8 : decode cX3_bringBack 8 = .ok (.new 53, 3) := by decide +kernel
theorem dX3_bringBack_11 : decode cX3_bringBack 11 = .ok (.dup, 1) := by decide +kernel
theorem dX3_bringBack_12 : decode cX3_bringBack 12 = .ok (.ldc 125, 2) := by decide +kernel
theorem dX3_bringBack_14 : decode cX3_bringBack 14 = .ok (.invokespecial 57, 3) := by decide +kernel
theorem dX3_bringBack_17 : decode cX3_bringBack 17 = .ok (.athrow, 1) := by decide +kernel
theorem dX3_bringBack_18 : decode cX3_bringBack 18 = .ok (.iload_n 1, 1) := by decide +kernel
theorem dX3_bringBack_19 : decode cX3_bringBack 19 = .ok (.iload_n 2, 1) := by decide +kernel
theorem dX3_bringBack_20 : decode cX3_bringBack 20 = .ok (.invokestatic 72, 3) := by decide +kernel
theorem dX3_bringBack_23 : decode cX3_bringBack 23 = .ok (.istore_n 3, 1) := by decide +kernel
theorem dX3_bringBack_24 : decode cX3_bringBack 24 = .ok (.aload_n 0, 1) := by decide +kernel
theorem dX3_bringBack_25 : decode cX3_bringBack 25 = .ok (.getfield 10, 3) := by decide +kernel
theorem dX3_bringBack_28 : decode cX3_bringBack 28 = .ok (.iload_n 3, 1) := by decide +kernel
theorem dX3_bringBack_29 : decode cX3_bringBack 29 = .ok (.invokevirtual 144, 3) := by decide +kernel
theorem dX3_bringBack_32 : decode cX3_bringBack 32 = .ok (.ifCond .ne 13, 3) := by decide +kernel
theorem dX3_bringBack_35 : decode cX3_bringBack 35 = .ok (.new 63, 3) := by decide +kernel
theorem dX3_bringBack_38 : decode cX3_bringBack 38 = .ok (.dup, 1) := by decide +kernel
theorem dX3_bringBack_39 : decode cX3_bringBack 39 = .ok (.ldc 147, 2) := by decide +kernel
theorem dX3_bringBack_41 : decode cX3_bringBack 41 = .ok (.invokespecial 67, 3) := by decide +kernel
theorem dX3_bringBack_44 : decode cX3_bringBack 44 = .ok (.athrow, 1) := by decide +kernel
theorem dX3_bringBack_45 : decode cX3_bringBack 45 = .ok (.aload_n 0, 1) := by decide +kernel
theorem dX3_bringBack_46 : decode cX3_bringBack 46 = .ok (.getfield 22, 3) := by decide +kernel
theorem dX3_bringBack_49 : decode cX3_bringBack 49 = .ok (.aload_n 0, 1) := by decide +kernel
theorem dX3_bringBack_50 : decode cX3_bringBack 50 = .ok (.getfield 10, 3) := by decide +kernel
theorem dX3_bringBack_53 : decode cX3_bringBack 53 = .ok (.invokevirtual 68, 3) := by decide +kernel
theorem dX3_bringBack_56 : decode cX3_bringBack 56 = .ok (.aload_n 0, 1) := by decide +kernel
theorem dX3_bringBack_57 : decode cX3_bringBack 57 = .ok (.getfield 10, 3) := by decide +kernel
theorem dX3_bringBack_60 : decode cX3_bringBack 60 = .ok (.iload_n 3, 1) := by decide +kernel
theorem dX3_bringBack_61 : decode cX3_bringBack 61 = .ok (.invokevirtual 149, 3) := by decide +kernel
theorem dX3_bringBack_64 : decode cX3_bringBack 64 = .ok (.aload_n 0, 1) := by decide +kernel
theorem dX3_bringBack_65 : decode cX3_bringBack 65 = .ok (.getfield 10, 3) := by decide +kernel
theorem dX3_bringBack_68 : decode cX3_bringBack 68 = .ok (.iload_n 3, 1) := by decide +kernel
theorem dX3_bringBack_69 : decode cX3_bringBack 69 = .ok (.invokevirtual 141, 3) := by decide +kernel
theorem dX3_bringBack_72 : decode cX3_bringBack 72 = .ok (.ireturn, 1) := by decide +kernel
theorem dX3_sleep_0 : decode cX3_sleep 0 = .ok (.iload_n 1, 1) := by decide +kernel
theorem dX3_sleep_1 : decode cX3_sleep 1 = .ok (.invokestatic 152, 3) := by decide +kernel
theorem dX3_sleep_4 : decode cX3_sleep 4 = .ok (.ifCond .ne 13, 3) := by decide +kernel
theorem dX3_sleep_7 : decode cX3_sleep 7 = .ok (.new 127, 3) := by decide +kernel
theorem dX3_sleep_10 : decode cX3_sleep 10 = .ok (.dup, 1) := by decide +kernel
theorem dX3_sleep_11 : decode cX3_sleep 11 = .ok (.ldc 155, 2) := by decide +kernel
theorem dX3_sleep_13 : decode cX3_sleep 13 = .ok (.invokespecial 131, 3) := by decide +kernel
theorem dX3_sleep_16 : decode cX3_sleep 16 = .ok (.athrow, 1) := by decide +kernel
theorem dX3_sleep_17 : decode cX3_sleep 17 = .ok (.aload_n 0, 1) := by decide +kernel
theorem dX3_sleep_18 : decode cX3_sleep 18 = .ok (.getfield 10, 3) := by decide +kernel
theorem dX3_sleep_21 : decode cX3_sleep 21 = .ok (.getfield 157, 3) := by decide +kernel
theorem dX3_sleep_24 : decode cX3_sleep 24 = .ok (.iload_n 1, 1) := by decide +kernel
theorem dX3_sleep_25 : decode cX3_sleep 25 = .ok (.iadd, 1) := by decide +kernel
theorem dX3_sleep_26 : decode cX3_sleep 26 = .ok (.sipush 9999, 3) := by decide +kernel
theorem dX3_sleep_29 : decode cX3_sleep 29 = .ok (.if_icmp .le 13, 3) := by decide +kernel
theorem dX3_sleep_32 : decode cX3_sleep 32 = .ok (.new 63, 3) := by decide +kernel
theorem dX3_sleep_35 : decode cX3_sleep 35 = .ok (.dup, 1) := by decide +kernel
theorem dX3_sleep_36 : decode cX3_sleep 36 = .ok (.ldc 160, 2) := by decide +kernel
theorem dX3_sleep_38 : decode cX3_sleep 38 = .ok (.invokespecial 67, 3) := by decide +kernel
theorem dX3_sleep_41 : decode cX3_sleep 41 = .ok (.athrow, 1) := by decide +kernel
theorem dX3_sleep_42 : decode cX3_sleep 42 = .ok (.aload_n 0, 1) := by decide +kernel
theorem dX3_sleep_43 : decode cX3_sleep 43 = .ok (.getfield 22, 3) := by decide +kernel
theorem dX3_sleep_46 : decode cX3_sleep 46 = .ok (.aload_n 0, 1) := by decide +kernel
theorem dX3_sleep_47 : decode cX3_sleep 47 = .ok (.getfield 10, 3) := by decide +kernel
theorem dX3_sleep_50 : decode cX3_sleep 50 = .ok (.invokevirtual 68, 3) := by decide +kernel
theorem dX3_sleep_53 : decode cX3_sleep 53 = .ok (.aload_n 0, 1) := by decide +kernel
theorem dX3_sleep_54 : decode cX3_sleep 54 = .ok (.getfield 10, 3) := by decide +kernel
theorem dX3_sleep_57 : decode cX3_sleep 57 = .ok (.iload_n 1, 1) := by decide +kernel
theorem dX3_sleep_58 : decode cX3_sleep 58 = .ok (.invokevirtual 162, 3) := by decide +kernel
theorem dX3_sleep_61 : decode cX3_sleep 61 = .ok (.ireturn, 1) := by decide +kernel
theorem dX3_set_0 : decode cX3_set 0 = .ok (.iload_n 1, 1) := by decide +kernel
theorem dX3_set_1 : decode cX3_set 1 = .ok (.invokestatic 165, 3) := by decide +kernel
theorem dX3_set_4 : decode cX3_set 4 = .ok (.ifCond .ne 13, 3) := by decide +kernel
theorem dX3_set_7 : decode cX3_set 7 = .ok (.new 53, 3) := by decide +kernel
theorem dX3_set_10 : decode cX3_set 10 = .ok (.dup, 1) := by decide +kernel
theorem dX3_set_11 : decode cX3_set 11 = .ok (.ldc 168, 2) := by decide +kernel
theorem dX3_set_13 : decode cX3_set 13 = .ok (.invokespecial 57, 3) := by decide +kernel
theorem dX3_set_16 : decode cX3_set 16 = .ok (.athrow, 1) := by decide +kernel
theorem dX3_set_17 : decode cX3_set 17 = .ok (.iload_n 2, 1) := by decide +kernel
theorem dX3_set_18 : decode cX3_set 18 = .ok (.ifCond .lt 11, 3) := by decide +kernel
theorem dX3_set_21 : decode cX3_set 21 = .ok (.iload_n 2, 1) := by decide +kernel
theorem dX3_set_22 : decode cX3_set 22 = .ok (.iload_n 1, 1) := by decide +kernel
theorem dX3_set_23 : decode cX3_set 23 = .ok (.invokestatic 170, 3) := by decide +kernel
theorem dX3_set_26 : decode cX3_set 26 = .ok (.if_icmp .le 13, 3) := by decide +kernel
theorem dX3_set_29 : decode cX3_set 29 = .ok (.new 127, 3) := by decide +kernel
theorem dX3_set_32 : decode cX3_set 32 = .ok (.dup, 1) := by decide +kernel
theorem dX3_set_33 : decode cX3_set 33 = .ok (.ldc 173, 2) := by decide +kernel
theorem dX3_set_35 : decode cX3_set 35 = .ok (.invokespecial 131, 3) := by decide +kernel
theorem dX3_set_38 : decode cX3_set 38 = .ok (.athrow, 1) := by decide +kernel
theorem dX3_set_39 : decode cX3_set 39 = .ok (.aload_n 0, 1) := by decide +kernel
theorem dX3_set_40 : decode cX3_set 40 = .ok (.getfield 22, 3) := by decide +kernel
theorem dX3_set_43 : decode cX3_set 43 = .ok (.aload_n 0, 1) := by decide +kernel
theorem dX3_set_44 : decode cX3_set 44 = .ok (.getfield 10, 3) := by decide +kernel
theorem dX3_set_47 : decode cX3_set 47 = .ok (.invokevirtual 68, 3) := by decide +kernel
theorem dX3_set_50 : decode cX3_set 50 = .ok (.aload_n 0, 1) := by decide +kernel
theorem dX3_set_51 : decode cX3_set 51 = .ok (.getfield 10, 3) := by decide +kernel
theorem dX3_set_54 : decode cX3_set 54 = .ok (.iload_n 1, 1) := by decide +kernel
theorem dX3_set_55 : decode cX3_set 55 = .ok (.invokevirtual 175, 3) := by decide +kernel
theorem dX3_set_58 : decode cX3_set 58 = .ok (.istore_n 3, 1) := by decide +kernel
theorem dX3_set_59 : decode cX3_set 59 = .ok (.aload_n 0, 1) := by decide +kernel
theorem dX3_set_60 : decode cX3_set 60 = .ok (.getfield 10, 3) := by decide +kernel
theorem dX3_set_63 : decode cX3_set 63 = .ok (.iload_n 1, 1) := by decide +kernel
theorem dX3_set_64 : decode cX3_set 64 = .ok (.iload_n 2, 1) := by decide +kernel
theorem dX3_set_65 : decode cX3_set 65 = .ok (.invokevirtual 178, 3) := by decide +kernel
theorem dX3_set_68 : decode cX3_set 68 = .ok (.iload_n 3, 1) := by decide +kernel
theorem dX3_set_69 : decode cX3_set 69 = .ok (.ireturn, 1) := by decide +kernel
theorem dX3_wordOf_0 : decode cX3_wordOf 0 = .ok (.iload_n 1, 1) := by decide +kernel
theorem dX3_wordOf_1 : decode cX3_wordOf 1 = .ok (.invokestatic 45, 3) := by decide +kernel
theorem dX3_wordOf_4 : decode cX3_wordOf 4 = .ok (.ifCond .ne 13, 3) := by decide +kernel
theorem dX3_wordOf_7 : decode cX3_wordOf 7 = .ok (.new 53, 3) := by decide +kernel
theorem dX3_wordOf_10 : decode cX3_wordOf 10 = .ok (.dup, 1) := by decide +kernel
theorem dX3_wordOf_11 : decode cX3_wordOf 11 = .ok (.ldc 91, 2) := by decide +kernel
theorem dX3_wordOf_13 : decode cX3_wordOf 13 = .ok (.invokespecial 57, 3) := by decide +kernel
theorem dX3_wordOf_16 : decode cX3_wordOf 16 = .ok (.athrow, 1) := by decide +kernel
theorem dX3_wordOf_17 : decode cX3_wordOf 17 = .ok (.iload_n 2, 1) := by decide +kernel
theorem dX3_wordOf_18 : decode cX3_wordOf 18 = .ok (.ifCond .lt 9, 3) := by decide +kernel
theorem dX3_wordOf_21 : decode cX3_wordOf 21 = .ok (.iload_n 2, 1) := by decide +kernel
theorem dX3_wordOf_22 : decode cX3_wordOf 22 = .ok (.bipush 7, 2) := by decide +kernel
theorem dX3_wordOf_24 : decode cX3_wordOf 24 = .ok (.if_icmp .lt 13, 3) := by decide +kernel
theorem dX3_wordOf_27 : decode cX3_wordOf 27 = .ok (.new 127, 3) := by decide +kernel
theorem dX3_wordOf_30 : decode cX3_wordOf 30 = .ok (.dup, 1) := by decide +kernel
theorem dX3_wordOf_31 : decode cX3_wordOf 31 = .ok (.ldc 231, 2) := by decide +kernel
theorem dX3_wordOf_33 : decode cX3_wordOf 33 = .ok (.invokespecial 131, 3) := by decide +kernel
theorem dX3_wordOf_36 : decode cX3_wordOf 36 = .ok (.athrow, 1) := by decide +kernel
theorem dX3_wordOf_37 : decode cX3_wordOf 37 = .ok (.aload_n 0, 1) := by decide +kernel
theorem dX3_wordOf_38 : decode cX3_wordOf 38 = .ok (.getfield 10, 3) := by decide +kernel
theorem dX3_wordOf_41 : decode cX3_wordOf 41 = .ok (.iload_n 1, 1) := by decide +kernel
theorem dX3_wordOf_42 : decode cX3_wordOf 42 = .ok (.iload_n 2, 1) := by decide +kernel
theorem dX3_wordOf_43 : decode cX3_wordOf 43 = .ok (.invokevirtual 233, 3) := by decide +kernel
theorem dX3_wordOf_46 : decode cX3_wordOf 46 = .ok (.ireturn, 1) := by decide +kernel
theorem dX3_at_0 : decode cX3_at 0 = .ok (.iload_n 1, 1) := by decide +kernel
theorem dX3_at_1 : decode cX3_at 1 = .ok (.iload_n 2, 1) := by decide +kernel
theorem dX3_at_2 : decode cX3_at 2 = .ok (.invokestatic 106, 3) := by decide +kernel
theorem dX3_at_5 : decode cX3_at 5 = .ok (.ifCond .eq 13, 3) := by decide +kernel
theorem dX3_at_8 : decode cX3_at 8 = .ok (.iload_n 3, 1) := by decide +kernel
theorem dX3_at_9 : decode cX3_at 9 = .ok (.ifCond .lt 9, 3) := by decide +kernel
theorem dX3_at_12 : decode cX3_at 12 = .ok (.iload_n 3, 1) := by decide +kernel
theorem dX3_at_13 : decode cX3_at 13 = .ok (.bipush 6, 2) := by decide +kernel
theorem dX3_at_15 : decode cX3_at 15 = .ok (.if_icmp .lt 13, 3) := by decide +kernel
theorem dX3_at_18 : decode cX3_at 18 = .ok (.new 53, 3) := by decide +kernel
theorem dX3_at_21 : decode cX3_at 21 = .ok (.dup, 1) := by decide +kernel
theorem dX3_at_22 : decode cX3_at 22 = .ok (.ldc 236, 2) := by decide +kernel
theorem dX3_at_24 : decode cX3_at 24 = .ok (.invokespecial 57, 3) := by decide +kernel
theorem dX3_at_27 : decode cX3_at 27 = .ok (.athrow, 1) := by decide +kernel
theorem dX3_at_28 : decode cX3_at 28 = .ok (.aload_n 0, 1) := by decide +kernel
theorem dX3_at_29 : decode cX3_at 29 = .ok (.getfield 10, 3) := by decide +kernel
theorem dX3_at_32 : decode cX3_at 32 = .ok (.iload_n 1, 1) := by decide +kernel
theorem dX3_at_33 : decode cX3_at 33 = .ok (.iload_n 2, 1) := by decide +kernel
theorem dX3_at_34 : decode cX3_at 34 = .ok (.invokestatic 72, 3) := by decide +kernel
theorem dX3_at_37 : decode cX3_at 37 = .ok (.iload_n 3, 1) := by decide +kernel
theorem dX3_at_38 : decode cX3_at 38 = .ok (.invokevirtual 238, 3) := by decide +kernel
theorem dX3_at_41 : decode cX3_at 41 = .ok (.ireturn, 1) := by decide +kernel
theorem dX3_lineOf_0 : decode cX3_lineOf 0 = .ok (.iload_n 1, 1) := by decide +kernel
theorem dX3_lineOf_1 : decode cX3_lineOf 1 = .ok (.iload_n 2, 1) := by decide +kernel
theorem dX3_lineOf_2 : decode cX3_lineOf 2 = .ok (.invokestatic 106, 3) := by decide +kernel
theorem dX3_lineOf_5 : decode cX3_lineOf 5 = .ok (.ifCond .ne 13, 3) := by decide +kernel
theorem dX3_lineOf_8 : decode cX3_lineOf 8 = .ok (.new 53, 3) := by decide +kernel
theorem dX3_lineOf_11 : decode cX3_lineOf 11 = .ok (.dup, 1) := by decide +kernel
theorem dX3_lineOf_12 : decode cX3_lineOf 12 = .ok (.ldc 125, 2) := by decide +kernel
theorem dX3_lineOf_14 : decode cX3_lineOf 14 = .ok (.invokespecial 57, 3) := by decide +kernel
theorem dX3_lineOf_17 : decode cX3_lineOf 17 = .ok (.athrow, 1) := by decide +kernel
theorem dX3_lineOf_18 : decode cX3_lineOf 18 = .ok (.iload_n 3, 1) := by decide +kernel
theorem dX3_lineOf_19 : decode cX3_lineOf 19 = .ok (.ifCond .lt 9, 3) := by decide +kernel
theorem dX3_lineOf_22 : decode cX3_lineOf 22 = .ok (.iload_n 3, 1) := by decide +kernel
theorem dX3_lineOf_23 : decode cX3_lineOf 23 = .ok (.bipush 8, 2) := by decide +kernel
theorem dX3_lineOf_25 : decode cX3_lineOf 25 = .ok (.if_icmp .lt 13, 3) := by decide +kernel
theorem dX3_lineOf_28 : decode cX3_lineOf 28 = .ok (.new 127, 3) := by decide +kernel
theorem dX3_lineOf_31 : decode cX3_lineOf 31 = .ok (.dup, 1) := by decide +kernel
theorem dX3_lineOf_32 : decode cX3_lineOf 32 = .ok (.ldc 241, 2) := by decide +kernel
theorem dX3_lineOf_34 : decode cX3_lineOf 34 = .ok (.invokespecial 131, 3) := by decide +kernel
theorem dX3_lineOf_37 : decode cX3_lineOf 37 = .ok (.athrow, 1) := by decide +kernel
theorem dX3_lineOf_38 : decode cX3_lineOf 38 = .ok (.aload_n 0, 1) := by decide +kernel
theorem dX3_lineOf_39 : decode cX3_lineOf 39 = .ok (.getfield 10, 3) := by decide +kernel
theorem dX3_lineOf_42 : decode cX3_lineOf 42 = .ok (.iload_n 1, 1) := by decide +kernel
theorem dX3_lineOf_43 : decode cX3_lineOf 43 = .ok (.iload_n 2, 1) := by decide +kernel
theorem dX3_lineOf_44 : decode cX3_lineOf 44 = .ok (.invokestatic 72, 3) := by decide +kernel
theorem dX3_lineOf_47 : decode cX3_lineOf 47 = .ok (.iload_n 3, 1) := by decide +kernel
theorem dX3_lineOf_48 : decode cX3_lineOf 48 = .ok (.invokevirtual 243, 3) := by decide +kernel
theorem dX3_lineOf_51 : decode cX3_lineOf 51 = .ok (.ireturn, 1) := by decide +kernel
theorem dX3_doorOf_0 : decode cX3_doorOf 0 = .ok (.iload_n 1, 1) := by decide +kernel
theorem dX3_doorOf_1 : decode cX3_doorOf 1 = .ok (.invokestatic 117, 3) := by decide +kernel
theorem dX3_doorOf_4 : decode cX3_doorOf 4 = .ok (.ifCond .ne 13, 3) := by decide +kernel
theorem dX3_doorOf_7 : decode cX3_doorOf 7 = .ok (.new 53, 3) := by decide +kernel
theorem dX3_doorOf_10 : decode cX3_doorOf 10 = .ok (.dup, 1) := by decide +kernel
theorem dX3_doorOf_11 : decode cX3_doorOf 11 = .ok (.ldc 120, 2) := by decide +kernel
theorem dX3_doorOf_13 : decode cX3_doorOf 13 = .ok (.invokespecial 57, 3) := by decide +kernel
theorem dX3_doorOf_16 : decode cX3_doorOf 16 = .ok (.athrow, 1) := by decide +kernel
theorem dX3_doorOf_17 : decode cX3_doorOf 17 = .ok (.iload_n 2, 1) := by decide +kernel
theorem dX3_doorOf_18 : decode cX3_doorOf 18 = .ok (.ifCond .lt 8, 3) := by decide +kernel
theorem dX3_doorOf_21 : decode cX3_doorOf 21 = .ok (.iload_n 2, 1) := by decide +kernel
theorem dX3_doorOf_22 : decode cX3_doorOf 22 = .ok (.iconst 5, 1) := by decide +kernel
theorem dX3_doorOf_23 : decode cX3_doorOf 23 = .ok (.if_icmp .lt 13, 3) := by decide +kernel
theorem dX3_doorOf_26 : decode cX3_doorOf 26 = .ok (.new 127, 3) := by decide +kernel
theorem dX3_doorOf_29 : decode cX3_doorOf 29 = .ok (.dup, 1) := by decide +kernel
theorem dX3_doorOf_30 : decode cX3_doorOf 30 = .ok (.ldc 246, 2) := by decide +kernel
theorem dX3_doorOf_32 : decode cX3_doorOf 32 = .ok (.invokespecial 131, 3) := by decide +kernel
theorem dX3_doorOf_35 : decode cX3_doorOf 35 = .ok (.athrow, 1) := by decide +kernel
theorem dX3_doorOf_36 : decode cX3_doorOf 36 = .ok (.aload_n 0, 1) := by decide +kernel
theorem dX3_doorOf_37 : decode cX3_doorOf 37 = .ok (.getfield 10, 3) := by decide +kernel
theorem dX3_doorOf_40 : decode cX3_doorOf 40 = .ok (.iload_n 1, 1) := by decide +kernel
theorem dX3_doorOf_41 : decode cX3_doorOf 41 = .ok (.iload_n 2, 1) := by decide +kernel
theorem dX3_doorOf_42 : decode cX3_doorOf 42 = .ok (.invokevirtual 248, 3) := by decide +kernel
theorem dX3_doorOf_45 : decode cX3_doorOf 45 = .ok (.ireturn, 1) := by decide +kernel
theorem dX3_count_0 : decode cX3_count 0 = .ok (.iload_n 1, 1) := by decide +kernel
theorem dX3_count_1 : decode cX3_count 1 = .ok (.ifCond .lt 9, 3) := by decide +kernel
theorem dX3_count_4 : decode cX3_count 4 = .ok (.iload_n 1, 1) := by decide +kernel
theorem dX3_count_5 : decode cX3_count 5 = .ok (.bipush 9, 2) := by decide +kernel
theorem dX3_count_7 : decode cX3_count 7 = .ok (.if_icmp .lt 13, 3) := by decide +kernel
theorem dX3_count_10 : decode cX3_count 10 = .ok (.new 127, 3) := by decide +kernel
theorem dX3_count_13 : decode cX3_count 13 = .ok (.dup, 1) := by decide +kernel
theorem dX3_count_14 : decode cX3_count 14 = .ok (.ldc 251, 2) := by decide +kernel
theorem dX3_count_16 : decode cX3_count 16 = .ok (.invokespecial 131, 3) := by decide +kernel
theorem dX3_count_19 : decode cX3_count 19 = .ok (.athrow, 1) := by decide +kernel
theorem dX3_count_20 : decode cX3_count 20 = .ok (.aload_n 0, 1) := by decide +kernel
theorem dX3_count_21 : decode cX3_count 21 = .ok (.iload_n 1, 1) := by decide +kernel
theorem dX3_count_22 : decode cX3_count 22 = .ok (.invokevirtual 253, 3) := by decide +kernel
theorem dX3_count_25 : decode cX3_count 25 = .ok (.ireturn, 1) := by decide +kernel
theorem dX3_setting_0 : decode cX3_setting 0 = .ok (.iload_n 1, 1) := by decide +kernel
theorem dX3_setting_1 : decode cX3_setting 1 = .ok (.invokestatic 165, 3) := by decide +kernel
theorem dX3_setting_4 : decode cX3_setting 4 = .ok (.ifCond .ne 13, 3) := by decide +kernel
theorem dX3_setting_7 : decode cX3_setting 7 = .ok (.new 53, 3) := by decide +kernel
theorem dX3_setting_10 : decode cX3_setting 10 = .ok (.dup, 1) := by decide +kernel
theorem dX3_setting_11 : decode cX3_setting 11 = .ok (.ldc 168, 2) := by decide +kernel
theorem dX3_setting_13 : decode cX3_setting 13 = .ok (.invokespecial 57, 3) := by decide +kernel
theorem dX3_setting_16 : decode cX3_setting 16 = .ok (.athrow, 1) := by decide +kernel
theorem dX3_setting_17 : decode cX3_setting 17 = .ok (.aload_n 0, 1) := by decide +kernel
theorem dX3_setting_18 : decode cX3_setting 18 = .ok (.getfield 10, 3) := by decide +kernel
theorem dX3_setting_21 : decode cX3_setting 21 = .ok (.iload_n 1, 1) := by decide +kernel
theorem dX3_setting_22 : decode cX3_setting 22 = .ok (.invokevirtual 175, 3) := by decide +kernel
theorem dX3_setting_25 : decode cX3_setting 25 = .ok (.ireturn, 1) := by decide +kernel
theorem dX3_whyNot_0 : decode cX3_whyNot 0 = .ok (.iload_n 1, 1) := by decide +kernel
theorem dX3_whyNot_1 : decode cX3_whyNot 1 = .ok (.invokestatic 45, 3) := by decide +kernel
theorem dX3_whyNot_4 : decode cX3_whyNot 4 = .ok (.ifCond .eq 14, 3) := by decide +kernel
theorem dX3_whyNot_7 : decode cX3_whyNot 7 = .ok (.aload_n 0, 1) := by decide +kernel
theorem dX3_whyNot_8 : decode cX3_whyNot 8 = .ok (.iload_n 2, 1) := by decide +kernel
theorem dX3_whyNot_9 : decode cX3_whyNot 9 = .ok (.iload_n 3, 1) := by decide +kernel
theorem dX3_whyNot_10 : decode cX3_whyNot 10 = .ok (.iload 4, 2) := by decide +kernel
theorem dX3_whyNot_12 : decode cX3_whyNot 12 = .ok (.invokevirtual 49, 3) := by decide +kernel
theorem dX3_whyNot_15 : decode cX3_whyNot 15 = .ok (.ifCond .ne 13, 3) := by decide +kernel
theorem dX3_whyNot_18 : decode cX3_whyNot 18 = .ok (.new 53, 3) := by decide +kernel
theorem dX3_whyNot_21 : decode cX3_whyNot 21 = .ok (.dup, 1) := by decide +kernel
theorem dX3_whyNot_22 : decode cX3_whyNot 22 = .ok (.ldc 55, 2) := by decide +kernel
theorem dX3_whyNot_24 : decode cX3_whyNot 24 = .ok (.invokespecial 57, 3) := by decide +kernel
theorem dX3_whyNot_27 : decode cX3_whyNot 27 = .ok (.athrow, 1) := by decide +kernel
theorem dX3_whyNot_28 : decode cX3_whyNot 28 = .ok (.iload_n 2, 1) := by decide +kernel
theorem dX3_whyNot_29 : decode cX3_whyNot 29 = .ok (.iload_n 3, 1) := by decide +kernel
theorem dX3_whyNot_30 : decode cX3_whyNot 30 = .ok (.invokestatic 72, 3) := by decide +kernel
theorem dX3_whyNot_33 : decode cX3_whyNot 33 = .ok (.istore 5, 2) := by decide +kernel
theorem dX3_whyNot_35 : decode cX3_whyNot 35 = .ok (.aload_n 0, 1) := by decide +kernel
theorem dX3_whyNot_36 : decode cX3_whyNot 36 = .ok (.getfield 10, 3) := by decide +kernel
theorem dX3_whyNot_39 : decode cX3_whyNot 39 = .ok (.iload_n 1, 1) := by decide +kernel
theorem dX3_whyNot_40 : decode cX3_whyNot 40 = .ok (.invokevirtual 95, 3) := by decide +kernel
theorem dX3_whyNot_43 : decode cX3_whyNot 43 = .ok (.iload 5, 2) := by decide +kernel
theorem dX3_whyNot_45 : decode cX3_whyNot 45 = .ok (.if_icmp .ne 7, 3) := by decide +kernel
theorem dX3_whyNot_48 : decode cX3_whyNot 48 = .ok (.iconst (-1), 1) := by decide +kernel
theorem dX3_whyNot_49 : decode cX3_whyNot 49 = .ok (.goto 15, 3) := by decide +kernel
theorem dX3_whyNot_52 : decode cX3_whyNot 52 = .ok (.aload_n 0, 1) := by decide +kernel
theorem dX3_whyNot_53 : decode cX3_whyNot 53 = .ok (.getfield 10, 3) := by decide +kernel
theorem dX3_whyNot_56 : decode cX3_whyNot 56 = .ok (.iload_n 1, 1) := by decide +kernel
theorem dX3_whyNot_57 : decode cX3_whyNot 57 = .ok (.iload 5, 2) := by decide +kernel
theorem dX3_whyNot_59 : decode cX3_whyNot 59 = .ok (.iload 4, 2) := by decide +kernel
theorem dX3_whyNot_61 : decode cX3_whyNot 61 = .ok (.invokevirtual 76, 3) := by decide +kernel
theorem dX3_whyNot_64 : decode cX3_whyNot 64 = .ok (.ireturn, 1) := by decide +kernel
theorem dX3_bestWord_0 : decode cX3_bestWord 0 = .ok (.iload_n 1, 1) := by decide +kernel
theorem dX3_bestWord_1 : decode cX3_bestWord 1 = .ok (.iload_n 2, 1) := by decide +kernel
theorem dX3_bestWord_2 : decode cX3_bestWord 2 = .ok (.invokestatic 106, 3) := by decide +kernel
theorem dX3_bestWord_5 : decode cX3_bestWord 5 = .ok (.ifCond .ne 13, 3) := by decide +kernel
theorem dX3_bestWord_8 : decode cX3_bestWord 8 = .ok (.new 53, 3) := by decide +kernel
theorem dX3_bestWord_11 : decode cX3_bestWord 11 = .ok (.dup, 1) := by decide +kernel
theorem dX3_bestWord_12 : decode cX3_bestWord 12 = .ok (.ldc 125, 2) := by decide +kernel
theorem dX3_bestWord_14 : decode cX3_bestWord 14 = .ok (.invokespecial 57, 3) := by decide +kernel
theorem dX3_bestWord_17 : decode cX3_bestWord 17 = .ok (.athrow, 1) := by decide +kernel
theorem dX3_bestWord_18 : decode cX3_bestWord 18 = .ok (.aload_n 0, 1) := by decide +kernel
theorem dX3_bestWord_19 : decode cX3_bestWord 19 = .ok (.getfield 10, 3) := by decide +kernel
theorem dX3_bestWord_22 : decode cX3_bestWord 22 = .ok (.iload_n 1, 1) := by decide +kernel
theorem dX3_bestWord_23 : decode cX3_bestWord 23 = .ok (.iload_n 2, 1) := by decide +kernel
theorem dX3_bestWord_24 : decode cX3_bestWord 24 = .ok (.invokestatic 72, 3) := by decide +kernel
theorem dX3_bestWord_27 : decode cX3_bestWord 27 = .ok (.invokevirtual 256, 3) := by decide +kernel
theorem dX3_bestWord_30 : decode cX3_bestWord 30 = .ok (.ireturn, 1) := by decide +kernel
theorem dX3_prey_0 : decode cX3_prey 0 = .ok (.aload_n 0, 1) := by decide +kernel
theorem dX3_prey_1 : decode cX3_prey 1 = .ok (.getfield 10, 3) := by decide +kernel
theorem dX3_prey_4 : decode cX3_prey 4 = .ok (.invokevirtual 259, 3) := by decide +kernel
theorem dX3_prey_7 : decode cX3_prey 7 = .ok (.ireturn, 1) := by decide +kernel
theorem dX3_ifSlept_0 : decode cX3_ifSlept 0 = .ok (.iload_n 2, 1) := by decide +kernel
theorem dX3_ifSlept_1 : decode cX3_ifSlept 1 = .ok (.invokestatic 117, 3) := by decide +kernel
theorem dX3_ifSlept_4 : decode cX3_ifSlept 4 = .ok (.ifCond .ne 13, 3) := by decide +kernel
theorem dX3_ifSlept_7 : decode cX3_ifSlept 7 = .ok (.new 53, 3) := by decide +kernel
theorem dX3_ifSlept_10 : decode cX3_ifSlept 10 = .ok (.dup, 1) := by decide +kernel
theorem dX3_ifSlept_11 : decode cX3_ifSlept 11 = .ok (.ldc 120, 2) := by decide +kernel
theorem dX3_ifSlept_13 : decode cX3_ifSlept 13 = .ok (.invokespecial 57, 3) := by decide +kernel
theorem dX3_ifSlept_16 : decode cX3_ifSlept 16 = .ok (.athrow, 1) := by decide +kernel
theorem dX3_ifSlept_17 : decode cX3_ifSlept 17 = .ok (.iload_n 1, 1) := by decide +kernel
theorem dX3_ifSlept_18 : decode cX3_ifSlept 18 = .ok (.invokestatic 152, 3) := by decide +kernel
theorem dX3_ifSlept_21 : decode cX3_ifSlept 21 = .ok (.ifCond .ne 13, 3) := by decide +kernel
theorem dX3_ifSlept_24 : decode cX3_ifSlept 24 = .ok (.new 127, 3) := by decide +kernel
theorem dX3_ifSlept_27 : decode cX3_ifSlept 27 = .ok (.dup, 1) := by decide +kernel
theorem dX3_ifSlept_28 : decode cX3_ifSlept 28 = .ok (.ldc 155, 2) := by decide +kernel
theorem dX3_ifSlept_30 : decode cX3_ifSlept 30 = .ok (.invokespecial 131, 3) := by decide +kernel
theorem dX3_ifSlept_33 : decode cX3_ifSlept 33 = .ok (.athrow, 1) := by decide +kernel
theorem dX3_ifSlept_34 : decode cX3_ifSlept 34 = .ok (.aload_n 0, 1) := by decide +kernel
theorem dX3_ifSlept_35 : decode cX3_ifSlept 35 = .ok (.getfield 16, 3) := by decide +kernel
theorem dX3_ifSlept_38 : decode cX3_ifSlept 38 = .ok (.aload_n 0, 1) := by decide +kernel
theorem dX3_ifSlept_39 : decode cX3_ifSlept 39 = .ok (.getfield 10, 3) := by decide +kernel
theorem dX3_ifSlept_42 : decode cX3_ifSlept 42 = .ok (.invokevirtual 215, 3) := by decide +kernel
theorem dX3_ifSlept_45 : decode cX3_ifSlept 45 = .ok (.aload_n 0, 1) := by decide +kernel
theorem dX3_ifSlept_46 : decode cX3_ifSlept 46 = .ok (.getfield 16, 3) := by decide +kernel
theorem dX3_ifSlept_49 : decode cX3_ifSlept 49 = .ok (.iload_n 1, 1) := by decide +kernel
theorem dX3_ifSlept_50 : decode cX3_ifSlept 50 = .ok (.invokevirtual 162, 3) := by decide +kernel
theorem dX3_ifSlept_53 : decode cX3_ifSlept 53 = .ok (.pop, 1) := by decide +kernel
theorem dX3_ifSlept_54 : decode cX3_ifSlept 54 = .ok (.aload_n 0, 1) := by decide +kernel
theorem dX3_ifSlept_55 : decode cX3_ifSlept 55 = .ok (.getfield 16, 3) := by decide +kernel
theorem dX3_ifSlept_58 : decode cX3_ifSlept 58 = .ok (.iload_n 2, 1) := by decide +kernel
theorem dX3_ifSlept_59 : decode cX3_ifSlept 59 = .ok (.invokevirtual 262, 3) := by decide +kernel
theorem dX3_ifSlept_62 : decode cX3_ifSlept 62 = .ok (.ireturn, 1) := by decide +kernel
theorem dX3_shownShare_0 : decode cX3_shownShare 0 = .ok (.aload_n 0, 1) := by decide +kernel
theorem dX3_shownShare_1 : decode cX3_shownShare 1 = .ok (.invokevirtual 265, 3) := by decide +kernel
theorem dX3_shownShare_4 : decode cX3_shownShare 4 = .ok (.dreturn, 1) := by decide +kernel
theorem dX3_share_0 : decode cX3_share 0 = .ok (.bipush 40, 2) := by decide +kernel
theorem dX3_share_2 : decode cX3_share 2 = .ok (.aload_n 0, 1) := by decide +kernel
theorem dX3_share_3 : decode cX3_share 3 = .ok (.getfield 10, 3) := by decide +kernel
theorem dX3_share_6 : decode cX3_share 6 = .ok (.invokevirtual 218, 3) := by decide +kernel
theorem dX3_share_9 : decode cX3_share 9 = .ok (.isub, 1) := by decide +kernel
theorem dX3_share_10 : decode cX3_share 10 = .ok (.i2d, 1) := by decide +kernel
theorem dX3_share_11 : decode cX3_share 11 = .ok (.ldc2_w 293, 3) := by decide +kernel
theorem dX3_share_14 : decode cX3_share 14 = .ok (.ddiv, 1) := by decide +kernel
theorem dX3_share_15 : decode cX3_share 15 = .ok (.dreturn, 1) := by decide +kernel
theorem dX3_numberOf_0 : decode cX3_numberOf 0 = .ok (.iload_n 1, 1) := by decide +kernel
theorem dX3_numberOf_1 : decode cX3_numberOf 1 = .ok (.tableswitch 111 0 7 #[47, 55, 63, 71, 79, 87, 95, 103], 47) := by decide +kernel
theorem dX3_numberOf_48 : decode cX3_numberOf 48 = .ok (.aload_n 0, 1) := by decide +kernel
theorem dX3_numberOf_49 : decode cX3_numberOf 49 = .ok (.getfield 10, 3) := by decide +kernel
theorem dX3_numberOf_52 : decode cX3_numberOf 52 = .ok (.invokevirtual 218, 3) := by decide +kernel
theorem dX3_numberOf_55 : decode cX3_numberOf 55 = .ok (.ireturn, 1) := by decide +kernel
theorem dX3_numberOf_56 : decode cX3_numberOf 56 = .ok (.aload_n 0, 1) := by decide +kernel
theorem dX3_numberOf_57 : decode cX3_numberOf 57 = .ok (.getfield 10, 3) := by decide +kernel
theorem dX3_numberOf_60 : decode cX3_numberOf 60 = .ok (.invokevirtual 295, 3) := by decide +kernel
theorem dX3_numberOf_63 : decode cX3_numberOf 63 = .ok (.ireturn, 1) := by decide +kernel
theorem dX3_numberOf_64 : decode cX3_numberOf 64 = .ok (.aload_n 0, 1) := by decide +kernel
theorem dX3_numberOf_65 : decode cX3_numberOf 65 = .ok (.getfield 10, 3) := by decide +kernel
theorem dX3_numberOf_68 : decode cX3_numberOf 68 = .ok (.getfield 157, 3) := by decide +kernel
theorem dX3_numberOf_71 : decode cX3_numberOf 71 = .ok (.ireturn, 1) := by decide +kernel
theorem dX3_numberOf_72 : decode cX3_numberOf 72 = .ok (.aload_n 0, 1) := by decide +kernel
theorem dX3_numberOf_73 : decode cX3_numberOf 73 = .ok (.getfield 10, 3) := by decide +kernel
theorem dX3_numberOf_76 : decode cX3_numberOf 76 = .ok (.getfield 298, 3) := by decide +kernel
theorem dX3_numberOf_79 : decode cX3_numberOf 79 = .ok (.ireturn, 1) := by decide +kernel
theorem dX3_numberOf_80 : decode cX3_numberOf 80 = .ok (.aload_n 0, 1) := by decide +kernel
theorem dX3_numberOf_81 : decode cX3_numberOf 81 = .ok (.getfield 10, 3) := by decide +kernel
theorem dX3_numberOf_84 : decode cX3_numberOf 84 = .ok (.getfield 88, 3) := by decide +kernel
theorem dX3_numberOf_87 : decode cX3_numberOf 87 = .ok (.ireturn, 1) := by decide +kernel
theorem dX3_numberOf_88 : decode cX3_numberOf 88 = .ok (.aload_n 0, 1) := by decide +kernel
theorem dX3_numberOf_89 : decode cX3_numberOf 89 = .ok (.getfield 10, 3) := by decide +kernel
theorem dX3_numberOf_92 : decode cX3_numberOf 92 = .ok (.getfield 80, 3) := by decide +kernel
theorem dX3_numberOf_95 : decode cX3_numberOf 95 = .ok (.ireturn, 1) := by decide +kernel
theorem dX3_numberOf_96 : decode cX3_numberOf 96 = .ok (.aload_n 0, 1) := by decide +kernel
theorem dX3_numberOf_97 : decode cX3_numberOf 97 = .ok (.getfield 10, 3) := by decide +kernel
theorem dX3_numberOf_100 : decode cX3_numberOf 100 = .ok (.invokevirtual 301, 3) := by decide +kernel
theorem dX3_numberOf_103 : decode cX3_numberOf 103 = .ok (.ireturn, 1) := by decide +kernel
theorem dX3_numberOf_104 : decode cX3_numberOf 104 = .ok (.aload_n 0, 1) := by decide +kernel
theorem dX3_numberOf_105 : decode cX3_numberOf 105 = .ok (.getfield 10, 3) := by decide +kernel
theorem dX3_numberOf_108 : decode cX3_numberOf 108 = .ok (.invokevirtual 304, 3) := by decide +kernel
theorem dX3_numberOf_111 : decode cX3_numberOf 111 = .ok (.ireturn, 1) := by decide +kernel
theorem dX3_numberOf_112 : decode cX3_numberOf 112 = .ok (.aload_n 0, 1) := by decide +kernel
theorem dX3_numberOf_113 : decode cX3_numberOf 113 = .ok (.getfield 22, 3) := by decide +kernel
theorem dX3_numberOf_116 : decode cX3_numberOf 116 = .ok (.getfield 223, 3) := by decide +kernel
theorem dX3_numberOf_119 : decode cX3_numberOf 119 = .ok (.ireturn, 1) := by decide +kernel
theorem dX3_isWord_0 : decode cX3_isWord 0 = .ok (.iload_n 0, 1) := by decide +kernel
theorem dX3_isWord_1 : decode cX3_isWord 1 = .ok (.ifCond .lt 13, 3) := by decide +kernel
theorem dX3_isWord_4 : decode cX3_isWord 4 = .ok (.iload_n 0, 1) := by decide +kernel
theorem dX3_isWord_5 : decode cX3_isWord 5 = .ok (.bipush 40, 2) := by decide +kernel
theorem dX3_isWord_7 : decode cX3_isWord 7 = .ok (.if_icmp .ge 7, 3) := by decide +kernel
theorem dX3_isWord_10 : decode cX3_isWord 10 = .ok (.iconst 1, 1) := by decide +kernel
theorem dX3_isWord_11 : decode cX3_isWord 11 = .ok (.goto 4, 3) := by decide +kernel
theorem dX3_isWord_14 : decode cX3_isWord 14 = .ok (.iconst 0, 1) := by decide +kernel
theorem dX3_isWord_15 : decode cX3_isWord 15 = .ok (.ireturn, 1) := by decide +kernel
theorem dX3_isDoor_0 : decode cX3_isDoor 0 = .ok (.iload_n 0, 1) := by decide +kernel
theorem dX3_isDoor_1 : decode cX3_isDoor 1 = .ok (.ifCond .lt 12, 3) := by decide +kernel
theorem dX3_isDoor_4 : decode cX3_isDoor 4 = .ok (.iload_n 0, 1) := by decide +kernel
theorem dX3_isDoor_5 : decode cX3_isDoor 5 = .ok (.iconst 4, 1) := by decide +kernel
theorem dX3_isDoor_6 : decode cX3_isDoor 6 = .ok (.if_icmp .ge 7, 3) := by decide +kernel
theorem dX3_isDoor_9 : decode cX3_isDoor 9 = .ok (.iconst 1, 1) := by decide +kernel
theorem dX3_isDoor_10 : decode cX3_isDoor 10 = .ok (.goto 4, 3) := by decide +kernel
theorem dX3_isDoor_13 : decode cX3_isDoor 13 = .ok (.iconst 0, 1) := by decide +kernel
theorem dX3_isDoor_14 : decode cX3_isDoor 14 = .ok (.ireturn, 1) := by decide +kernel
theorem dX3_isLine_0 : decode cX3_isLine 0 = .ok (.iload_n 0, 1) := by decide +kernel
theorem dX3_isLine_1 : decode cX3_isLine 1 = .ok (.invokestatic 117, 3) := by decide +kernel
theorem dX3_isLine_4 : decode cX3_isLine 4 = .ok (.ifCond .eq 16, 3) := by decide +kernel
theorem dX3_isLine_7 : decode cX3_isLine 7 = .ok (.iload_n 1, 1) := by decide +kernel
theorem dX3_isLine_8 : decode cX3_isLine 8 = .ok (.ifCond .lt 12, 3) := by decide +kernel
theorem dX3_isLine_11 : decode cX3_isLine 11 = .ok (.iload_n 1, 1) := by decide +kernel
theorem dX3_isLine_12 : decode cX3_isLine 12 = .ok (.iconst 4, 1) := by decide +kernel
theorem dX3_isLine_13 : decode cX3_isLine 13 = .ok (.if_icmp .ge 7, 3) := by decide +kernel
theorem dX3_isLine_16 : decode cX3_isLine 16 = .ok (.iconst 1, 1) := by decide +kernel
theorem dX3_isLine_17 : decode cX3_isLine 17 = .ok (.goto 4, 3) := by decide +kernel
theorem dX3_isLine_20 : decode cX3_isLine 20 = .ok (.iconst 0, 1) := by decide +kernel
theorem dX3_isLine_21 : decode cX3_isLine 21 = .ok (.ireturn, 1) := by decide +kernel
theorem dX3_isPlaceToPut_0 : decode cX3_isPlaceToPut 0 = .ok (.iload_n 1, 1) := by decide +kernel
theorem dX3_isPlaceToPut_1 : decode cX3_isPlaceToPut 1 = .ok (.iload_n 2, 1) := by decide +kernel
theorem dX3_isPlaceToPut_2 : decode cX3_isPlaceToPut 2 = .ok (.invokestatic 106, 3) := by decide +kernel
theorem dX3_isPlaceToPut_5 : decode cX3_isPlaceToPut 5 = .ok (.ifCond .eq 27, 3) := by decide +kernel
theorem dX3_isPlaceToPut_8 : decode cX3_isPlaceToPut 8 = .ok (.iload_n 3, 1) := by decide +kernel
theorem dX3_isPlaceToPut_9 : decode cX3_isPlaceToPut 9 = .ok (.ifCond .lt 23, 3) := by decide +kernel
theorem dX3_isPlaceToPut_12 : decode cX3_isPlaceToPut 12 = .ok (.iload_n 3, 1) := by decide +kernel
theorem dX3_isPlaceToPut_13 : decode cX3_isPlaceToPut 13 = .ok (.aload_n 0, 1) := by decide +kernel
theorem dX3_isPlaceToPut_14 : decode cX3_isPlaceToPut 14 = .ok (.getfield 10, 3) := by decide +kernel
theorem dX3_isPlaceToPut_17 : decode cX3_isPlaceToPut 17 = .ok (.iload_n 1, 1) := by decide +kernel
theorem dX3_isPlaceToPut_18 : decode cX3_isPlaceToPut 18 = .ok (.iload_n 2, 1) := by decide +kernel
theorem dX3_isPlaceToPut_19 : decode cX3_isPlaceToPut 19 = .ok (.invokestatic 72, 3) := by decide +kernel
theorem dX3_isPlaceToPut_22 : decode cX3_isPlaceToPut 22 = .ok (.invokevirtual 114, 3) := by decide +kernel
theorem dX3_isPlaceToPut_25 : decode cX3_isPlaceToPut 25 = .ok (.if_icmp .gt 7, 3) := by decide +kernel
theorem dX3_isPlaceToPut_28 : decode cX3_isPlaceToPut 28 = .ok (.iconst 1, 1) := by decide +kernel
theorem dX3_isPlaceToPut_29 : decode cX3_isPlaceToPut 29 = .ok (.goto 4, 3) := by decide +kernel
theorem dX3_isPlaceToPut_32 : decode cX3_isPlaceToPut 32 = .ok (.iconst 0, 1) := by decide +kernel
theorem dX3_isPlaceToPut_33 : decode cX3_isPlaceToPut 33 = .ok (.ireturn, 1) := by decide +kernel
theorem dX3_isNights_0 : decode cX3_isNights 0 = .ok (.iload_n 0, 1) := by decide +kernel
theorem dX3_isNights_1 : decode cX3_isNights 1 = .ok (.iconst 1, 1) := by decide +kernel
theorem dX3_isNights_2 : decode cX3_isNights 2 = .ok (.if_icmp .lt 13, 3) := by decide +kernel
theorem dX3_isNights_5 : decode cX3_isNights 5 = .ok (.iload_n 0, 1) := by decide +kernel
theorem dX3_isNights_6 : decode cX3_isNights 6 = .ok (.bipush 20, 2) := by decide +kernel
theorem dX3_isNights_8 : decode cX3_isNights 8 = .ok (.if_icmp .gt 7, 3) := by decide +kernel
theorem dX3_isNights_11 : decode cX3_isNights 11 = .ok (.iconst 1, 1) := by decide +kernel
theorem dX3_isNights_12 : decode cX3_isNights 12 = .ok (.goto 4, 3) := by decide +kernel
theorem dX3_isNights_15 : decode cX3_isNights 15 = .ok (.iconst 0, 1) := by decide +kernel
theorem dX3_isNights_16 : decode cX3_isNights 16 = .ok (.ireturn, 1) := by decide +kernel
theorem dX3_isSetting_0 : decode cX3_isSetting 0 = .ok (.iload_n 0, 1) := by decide +kernel
theorem dX3_isSetting_1 : decode cX3_isSetting 1 = .ok (.ifCond .lt 12, 3) := by decide +kernel
theorem dX3_isSetting_4 : decode cX3_isSetting 4 = .ok (.iload_n 0, 1) := by decide +kernel
theorem dX3_isSetting_5 : decode cX3_isSetting 5 = .ok (.iconst 3, 1) := by decide +kernel
theorem dX3_isSetting_6 : decode cX3_isSetting 6 = .ok (.if_icmp .ge 7, 3) := by decide +kernel
theorem dX3_isSetting_9 : decode cX3_isSetting 9 = .ok (.iconst 1, 1) := by decide +kernel
theorem dX3_isSetting_10 : decode cX3_isSetting 10 = .ok (.goto 4, 3) := by decide +kernel
theorem dX3_isSetting_13 : decode cX3_isSetting 13 = .ok (.iconst 0, 1) := by decide +kernel
theorem dX3_isSetting_14 : decode cX3_isSetting 14 = .ok (.ireturn, 1) := by decide +kernel
theorem dX3_greatestOf_0 : decode cX3_greatestOf 0 = .ok (.iload_n 0, 1) := by decide +kernel
theorem dX3_greatestOf_1 : decode cX3_greatestOf 1 = .ok (.lookupswitch 33 #[(0, 27), (1, 29)], 27) := by decide +kernel
theorem dX3_greatestOf_28 : decode cX3_greatestOf 28 = .ok (.iconst 1, 1) := by decide +kernel
theorem dX3_greatestOf_29 : decode cX3_greatestOf 29 = .ok (.ireturn, 1) := by decide +kernel
theorem dX3_greatestOf_30 : decode cX3_greatestOf 30 = .ok (.sipush 200, 3) := by decide +kernel
theorem dX3_greatestOf_33 : decode cX3_greatestOf 33 = .ok (.ireturn, 1) := by decide +kernel
theorem dX3_greatestOf_34 : decode cX3_greatestOf 34 = .ok (.bipush 9, 2) := by decide +kernel
theorem dX3_greatestOf_36 : decode cX3_greatestOf 36 = .ok (.ireturn, 1) := by decide +kernel
theorem dX3_kindOf_0 : decode cX3_kindOf 0 = .ok (.iload_n 0, 1) := by decide +kernel
theorem dX3_kindOf_1 : decode cX3_kindOf 1 = .ok (.iconst 4, 1) := by decide +kernel
theorem dX3_kindOf_2 : decode cX3_kindOf 2 = .ok (.irem, 1) := by decide +kernel
theorem dX3_kindOf_3 : decode cX3_kindOf 3 = .ok (.ireturn, 1) := by decide +kernel
theorem dX3_endingOf_0 : decode cX3_endingOf 0 = .ok (.iload_n 0, 1) := by decide +kernel
theorem dX3_endingOf_1 : decode cX3_endingOf 1 = .ok (.iconst 4, 1) := by decide +kernel
theorem dX3_endingOf_2 : decode cX3_endingOf 2 = .ok (.idiv, 1) := by decide +kernel
theorem dX3_endingOf_3 : decode cX3_endingOf 3 = .ok (.iconst 5, 1) := by decide +kernel
theorem dX3_endingOf_4 : decode cX3_endingOf 4 = .ok (.irem, 1) := by decide +kernel
theorem dX3_endingOf_5 : decode cX3_endingOf 5 = .ok (.ireturn, 1) := by decide +kernel
theorem dX3_beatsOf_0 : decode cX3_beatsOf 0 = .ok (.iload_n 0, 1) := by decide +kernel
theorem dX3_beatsOf_1 : decode cX3_beatsOf 1 = .ok (.iconst 3, 1) := by decide +kernel
theorem dX3_beatsOf_2 : decode cX3_beatsOf 2 = .ok (.irem, 1) := by decide +kernel
theorem dX3_beatsOf_3 : decode cX3_beatsOf 3 = .ok (.iconst 1, 1) := by decide +kernel
theorem dX3_beatsOf_4 : decode cX3_beatsOf 4 = .ok (.iadd, 1) := by decide +kernel
theorem dX3_beatsOf_5 : decode cX3_beatsOf 5 = .ok (.ireturn, 1) := by decide +kernel
theorem dX3_clash_0 : decode cX3_clash 0 = .ok (.iload_n 0, 1) := by decide +kernel
theorem dX3_clash_1 : decode cX3_clash 1 = .ok (.invokestatic 325, 3) := by decide +kernel
theorem dX3_clash_4 : decode cX3_clash 4 = .ok (.iload_n 1, 1) := by decide +kernel
theorem dX3_clash_5 : decode cX3_clash 5 = .ok (.invokestatic 325, 3) := by decide +kernel
theorem dX3_clash_8 : decode cX3_clash 8 = .ok (.if_icmp .ne 15, 3) := by decide +kernel
theorem dX3_clash_11 : decode cX3_clash 11 = .ok (.iload_n 0, 1) := by decide +kernel
theorem dX3_clash_12 : decode cX3_clash 12 = .ok (.invokestatic 325, 3) := by decide +kernel
theorem dX3_clash_15 : decode cX3_clash 15 = .ok (.iconst 2, 1) := by decide +kernel
theorem dX3_clash_16 : decode cX3_clash 16 = .ok (.if_icmp .eq 7, 3) := by decide +kernel
theorem dX3_clash_19 : decode cX3_clash 19 = .ok (.iconst 1, 1) := by decide +kernel
theorem dX3_clash_20 : decode cX3_clash 20 = .ok (.goto 4, 3) := by decide +kernel
theorem dX3_clash_23 : decode cX3_clash 23 = .ok (.iconst 0, 1) := by decide +kernel
theorem dX3_clash_24 : decode cX3_clash 24 = .ok (.ireturn, 1) := by decide +kernel
theorem dX3_lineNumber_0 : decode cX3_lineNumber 0 = .ok (.iload_n 0, 1) := by decide +kernel
theorem dX3_lineNumber_1 : decode cX3_lineNumber 1 = .ok (.iconst 4, 1) := by decide +kernel
theorem dX3_lineNumber_2 : decode cX3_lineNumber 2 = .ok (.imul, 1) := by decide +kernel
theorem dX3_lineNumber_3 : decode cX3_lineNumber 3 = .ok (.iload_n 1, 1) := by decide +kernel
theorem dX3_lineNumber_4 : decode cX3_lineNumber 4 = .ok (.iadd, 1) := by decide +kernel
theorem dX3_lineNumber_5 : decode cX3_lineNumber 5 = .ok (.ireturn, 1) := by decide +kernel
theorem dX3_lineCode_0 : decode cX3_lineCode 0 = .ok (.iload_n 0, 1) := by decide +kernel
theorem dX3_lineCode_1 : decode cX3_lineCode 1 = .ok (.iconst (-1), 1) := by decide +kernel
theorem dX3_lineCode_2 : decode cX3_lineCode 2 = .ok (.if_icmp .ne 7, 3) := by decide +kernel
theorem dX3_lineCode_5 : decode cX3_lineCode 5 = .ok (.iconst (-1), 1) := by decide +kernel
theorem dX3_lineCode_6 : decode cX3_lineCode 6 = .ok (.goto 13, 3) := by decide +kernel
theorem dX3_lineCode_9 : decode cX3_lineCode 9 = .ok (.bipush 10, 2) := by decide +kernel
theorem dX3_lineCode_11 : decode cX3_lineCode 11 = .ok (.iload_n 0, 1) := by decide +kernel
theorem dX3_lineCode_12 : decode cX3_lineCode 12 = .ok (.iconst 4, 1) := by decide +kernel
theorem dX3_lineCode_13 : decode cX3_lineCode 13 = .ok (.idiv, 1) := by decide +kernel
theorem dX3_lineCode_14 : decode cX3_lineCode 14 = .ok (.imul, 1) := by decide +kernel
theorem dX3_lineCode_15 : decode cX3_lineCode 15 = .ok (.iload_n 0, 1) := by decide +kernel
theorem dX3_lineCode_16 : decode cX3_lineCode 16 = .ok (.iconst 4, 1) := by decide +kernel
theorem dX3_lineCode_17 : decode cX3_lineCode 17 = .ok (.irem, 1) := by decide +kernel
theorem dX3_lineCode_18 : decode cX3_lineCode 18 = .ok (.iadd, 1) := by decide +kernel
theorem dX3_lineCode_19 : decode cX3_lineCode 19 = .ok (.ireturn, 1) := by decide +kernel
theorem dX3_cell_0 : decode cX3_cell 0 = .ok (.iload_n 1, 1) := by decide +kernel
theorem dX3_cell_1 : decode cX3_cell 1 = .ok (.ifCond .lt 15, 3) := by decide +kernel
theorem dX3_cell_4 : decode cX3_cell 4 = .ok (.iload_n 1, 1) := by decide +kernel
theorem dX3_cell_5 : decode cX3_cell 5 = .ok (.aload_n 0, 1) := by decide +kernel
theorem dX3_cell_6 : decode cX3_cell 6 = .ok (.arraylength, 1) := by decide +kernel
theorem dX3_cell_7 : decode cX3_cell 7 = .ok (.if_icmp .ge 9, 3) := by decide +kernel
theorem dX3_cell_10 : decode cX3_cell 10 = .ok (.aload_n 0, 1) := by decide +kernel
theorem dX3_cell_11 : decode cX3_cell 11 = .ok (.iload_n 1, 1) := by decide +kernel
theorem dX3_cell_12 : decode cX3_cell 12 = .ok (.iaload, 1) := by decide +kernel
theorem dX3_cell_13 : decode cX3_cell 13 = .ok (.goto 4, 3) := by decide +kernel
theorem dX3_cell_16 : decode cX3_cell 16 = .ok (.iconst (-1), 1) := by decide +kernel
theorem dX3_cell_17 : decode cX3_cell 17 = .ok (.ireturn, 1) := by decide +kernel
theorem dX3_setCell_0 : decode cX3_setCell 0 = .ok (.iload_n 1, 1) := by decide +kernel
theorem dX3_setCell_1 : decode cX3_setCell 1 = .ok (.ifCond .lt 13, 3) := by decide +kernel
theorem dX3_setCell_4 : decode cX3_setCell 4 = .ok (.iload_n 1, 1) := by decide +kernel
theorem dX3_setCell_5 : decode cX3_setCell 5 = .ok (.aload_n 0, 1) := by decide +kernel
theorem dX3_setCell_6 : decode cX3_setCell 6 = .ok (.arraylength, 1) := by decide +kernel
theorem dX3_setCell_7 : decode cX3_setCell 7 = .ok (.if_icmp .ge 7, 3) := by decide +kernel
theorem dX3_setCell_10 : decode cX3_setCell 10 = .ok (.aload_n 0, 1) := by decide +kernel
theorem dX3_setCell_11 : decode cX3_setCell 11 = .ok (.iload_n 1, 1) := by decide +kernel
theorem dX3_setCell_12 : decode cX3_setCell 12 = .ok (.iload_n 2, 1) := by decide +kernel
theorem dX3_setCell_13 : decode cX3_setCell 13 = .ok (.iastore, 1) := by decide +kernel
theorem dX3_setCell_14 : decode cX3_setCell 14 = .ok (.return_, 1) := by decide +kernel
theorem dX3_copyRow_0 : decode cX3_copyRow 0 = .ok (.iconst 0, 1) := by decide +kernel
theorem dX3_copyRow_1 : decode cX3_copyRow 1 = .ok (.istore_n 2, 1) := by decide +kernel
theorem dX3_copyRow_2 : decode cX3_copyRow 2 = .ok (.iload_n 2, 1) := by decide +kernel
theorem dX3_copyRow_3 : decode cX3_copyRow 3 = .ok (.aload_n 0, 1) := by decide +kernel
theorem dX3_copyRow_4 : decode cX3_copyRow 4 = .ok (.arraylength, 1) := by decide +kernel
theorem dX3_copyRow_5 : decode cX3_copyRow 5 = .ok (.if_icmp .ge 21, 3) := by decide +kernel
theorem dX3_copyRow_8 : decode cX3_copyRow 8 = .ok (.iload_n 2, 1) := by decide +kernel
theorem dX3_copyRow_9 : decode cX3_copyRow 9 = .ok (.aload_n 1, 1) := by decide +kernel
theorem dX3_copyRow_10 : decode cX3_copyRow 10 = .ok (.arraylength, 1) := by decide +kernel
theorem dX3_copyRow_11 : decode cX3_copyRow 11 = .ok (.if_icmp .ge 15, 3) := by decide +kernel
theorem dX3_copyRow_14 : decode cX3_copyRow 14 = .ok (.aload_n 1, 1) := by decide +kernel
theorem dX3_copyRow_15 : decode cX3_copyRow 15 = .ok (.iload_n 2, 1) := by decide +kernel
theorem dX3_copyRow_16 : decode cX3_copyRow 16 = .ok (.aload_n 0, 1) := by decide +kernel
theorem dX3_copyRow_17 : decode cX3_copyRow 17 = .ok (.iload_n 2, 1) := by decide +kernel
theorem dX3_copyRow_18 : decode cX3_copyRow 18 = .ok (.iaload, 1) := by decide +kernel
theorem dX3_copyRow_19 : decode cX3_copyRow 19 = .ok (.iastore, 1) := by decide +kernel
theorem dX3_copyRow_20 : decode cX3_copyRow 20 = .ok (.iinc 2 1, 3) := by decide +kernel
theorem dX3_copyRow_23 : decode cX3_copyRow 23 = .ok (.goto (-21), 3) := by decide +kernel
theorem dX3_copyRow_26 : decode cX3_copyRow 26 = .ok (.return_, 1) := by decide +kernel
theorem dX3_fillRow_0 : decode cX3_fillRow 0 = .ok (.iconst 0, 1) := by decide +kernel
theorem dX3_fillRow_1 : decode cX3_fillRow 1 = .ok (.istore_n 2, 1) := by decide +kernel
theorem dX3_fillRow_2 : decode cX3_fillRow 2 = .ok (.iload_n 2, 1) := by decide +kernel
theorem dX3_fillRow_3 : decode cX3_fillRow 3 = .ok (.aload_n 0, 1) := by decide +kernel
theorem dX3_fillRow_4 : decode cX3_fillRow 4 = .ok (.arraylength, 1) := by decide +kernel
theorem dX3_fillRow_5 : decode cX3_fillRow 5 = .ok (.if_icmp .ge 13, 3) := by decide +kernel
theorem dX3_fillRow_8 : decode cX3_fillRow 8 = .ok (.aload_n 0, 1) := by decide +kernel
theorem dX3_fillRow_9 : decode cX3_fillRow 9 = .ok (.iload_n 2, 1) := by decide +kernel
theorem dX3_fillRow_10 : decode cX3_fillRow 10 = .ok (.iload_n 1, 1) := by decide +kernel
theorem dX3_fillRow_11 : decode cX3_fillRow 11 = .ok (.iastore, 1) := by decide +kernel
theorem dX3_fillRow_12 : decode cX3_fillRow 12 = .ok (.iinc 2 1, 3) := by decide +kernel
theorem dX3_fillRow_15 : decode cX3_fillRow 15 = .ok (.goto (-13), 3) := by decide +kernel
theorem dX3_fillRow_18 : decode cX3_fillRow 18 = .ok (.return_, 1) := by decide +kernel

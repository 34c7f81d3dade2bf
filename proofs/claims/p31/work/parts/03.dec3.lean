theorem dL_cell_0 : decode cL_cell 0 = .ok (.iload_n 1, 1) := by decide +kernel
theorem dL_cell_1 : decode cL_cell 1 = .ok (.aload_n 0, 1) := by decide +kernel
theorem dL_cell_2 : decode cL_cell 2 = .ok (.arraylength, 1) := by decide +kernel
theorem dL_cell_3 : decode cL_cell 3 = .ok (.if_icmp .ge 9, 3) := by decide +kernel
theorem dL_cell_6 : decode cL_cell 6 = .ok (.aload_n 0, 1) := by decide +kernel
theorem dL_cell_7 : decode cL_cell 7 = .ok (.iload_n 1, 1) := by decide +kernel
theorem dL_cell_8 : decode cL_cell 8 = .ok (.iaload, 1) := by decide +kernel
theorem dL_cell_9 : decode cL_cell 9 = .ok (.goto 9, 3) := by decide +kernel
theorem dL_cell_12 : decode cL_cell 12 = .ok (.ldc 7, 2) := by decide +kernel
theorem dL_cell_14 : decode cL_cell 14 = .ok (.iload_n 1, 1) := by decide +kernel
theorem dL_cell_15 : decode cL_cell 15 = .ok (.iconst 1, 1) := by decide +kernel
theorem dL_cell_16 : decode cL_cell 16 = .ok (.iadd, 1) := by decide +kernel
theorem dL_cell_17 : decode cL_cell 17 = .ok (.imul, 1) := by decide +kernel
theorem dL_cell_18 : decode cL_cell 18 = .ok (.ireturn, 1) := by decide +kernel
theorem dL_low_0 : decode cL_low 0 = .ok (.iload_n 0, 1) := by decide +kernel
theorem dL_low_1 : decode cL_low 1 = .ok (.ldc 8, 2) := by decide +kernel
theorem dL_low_3 : decode cL_low 3 = .ok (.iand, 1) := by decide +kernel
theorem dL_low_4 : decode cL_low 4 = .ok (.iload_n 1, 1) := by decide +kernel
theorem dL_low_5 : decode cL_low 5 = .ok (.irem, 1) := by decide +kernel
theorem dL_low_6 : decode cL_low 6 = .ok (.ireturn, 1) := by decide +kernel
theorem dL_isOn_0 : decode cL_isOn 0 = .ok (.aload_n 0, 1) := by decide +kernel
theorem dL_isOn_1 : decode cL_isOn 1 = .ok (.iload_n 1, 1) := by decide +kernel
theorem dL_isOn_2 : decode cL_isOn 2 = .ok (.iaload, 1) := by decide +kernel
theorem dL_isOn_3 : decode cL_isOn 3 = .ok (.ifCond .lt 17, 3) := by decide +kernel
theorem dL_isOn_6 : decode cL_isOn 6 = .ok (.aload_n 0, 1) := by decide +kernel
theorem dL_isOn_7 : decode cL_isOn 7 = .ok (.iload_n 1, 1) := by decide +kernel
theorem dL_isOn_8 : decode cL_isOn 8 = .ok (.iaload, 1) := by decide +kernel
theorem dL_isOn_9 : decode cL_isOn 9 = .ok (.bipush 8, 2) := by decide +kernel
theorem dL_isOn_11 : decode cL_isOn 11 = .ok (.idiv, 1) := by decide +kernel
theorem dL_isOn_12 : decode cL_isOn 12 = .ok (.iload_n 2, 1) := by decide +kernel
theorem dL_isOn_13 : decode cL_isOn 13 = .ok (.if_icmp .ne 7, 3) := by decide +kernel
theorem dL_isOn_16 : decode cL_isOn 16 = .ok (.iconst 1, 1) := by decide +kernel
theorem dL_isOn_17 : decode cL_isOn 17 = .ok (.goto 4, 3) := by decide +kernel
theorem dL_isOn_20 : decode cL_isOn 20 = .ok (.iconst 0, 1) := by decide +kernel
theorem dL_isOn_21 : decode cL_isOn 21 = .ok (.ireturn, 1) := by decide +kernel
theorem dL_many_0 : decode cL_many 0 = .ok (.iconst 0, 1) := by decide +kernel
theorem dL_many_1 : decode cL_many 1 = .ok (.istore_n 2, 1) := by decide +kernel
theorem dL_many_2 : decode cL_many 2 = .ok (.iconst 0, 1) := by decide +kernel
theorem dL_many_3 : decode cL_many 3 = .ok (.istore_n 3, 1) := by decide +kernel
theorem dL_many_4 : decode cL_many 4 = .ok (.iload_n 3, 1) := by decide +kernel
theorem dL_many_5 : decode cL_many 5 = .ok (.bipush 40, 2) := by decide +kernel
theorem dL_many_7 : decode cL_many 7 = .ok (.if_icmp .ge 26, 3) := by decide +kernel
theorem dL_many_10 : decode cL_many 10 = .ok (.iload_n 2, 1) := by decide +kernel
theorem dL_many_11 : decode cL_many 11 = .ok (.aload_n 0, 1) := by decide +kernel
theorem dL_many_12 : decode cL_many 12 = .ok (.iload_n 3, 1) := by decide +kernel
theorem dL_many_13 : decode cL_many 13 = .ok (.iload_n 1, 1) := by decide +kernel
theorem dL_many_14 : decode cL_many 14 = .ok (.invokestatic 9, 3) := by decide +kernel
theorem dL_many_17 : decode cL_many 17 = .ok (.ifCond .eq 7, 3) := by decide +kernel
theorem dL_many_20 : decode cL_many 20 = .ok (.iconst 1, 1) := by decide +kernel
theorem dL_many_21 : decode cL_many 21 = .ok (.goto 4, 3) := by decide +kernel
theorem dL_many_24 : decode cL_many 24 = .ok (.iconst 0, 1) := by decide +kernel
theorem dL_many_25 : decode cL_many 25 = .ok (.iadd, 1) := by decide +kernel
theorem dL_many_26 : decode cL_many 26 = .ok (.istore_n 2, 1) := by decide +kernel
theorem dL_many_27 : decode cL_many 27 = .ok (.iinc 3 1, 3) := by decide +kernel
theorem dL_many_30 : decode cL_many 30 = .ok (.goto (-26), 3) := by decide +kernel
theorem dL_many_33 : decode cL_many 33 = .ok (.iload_n 2, 1) := by decide +kernel
theorem dL_many_34 : decode cL_many 34 = .ok (.ireturn, 1) := by decide +kernel
theorem dL_wordAt_0 : decode cL_wordAt 0 = .ok (.iconst (-1), 1) := by decide +kernel
theorem dL_wordAt_1 : decode cL_wordAt 1 = .ok (.istore_n 3, 1) := by decide +kernel
theorem dL_wordAt_2 : decode cL_wordAt 2 = .ok (.iconst 0, 1) := by decide +kernel
theorem dL_wordAt_3 : decode cL_wordAt 3 = .ok (.istore 4, 2) := by decide +kernel
theorem dL_wordAt_5 : decode cL_wordAt 5 = .ok (.iload 4, 2) := by decide +kernel
theorem dL_wordAt_7 : decode cL_wordAt 7 = .ok (.bipush 40, 2) := by decide +kernel
theorem dL_wordAt_9 : decode cL_wordAt 9 = .ok (.if_icmp .ge 37, 3) := by decide +kernel
theorem dL_wordAt_12 : decode cL_wordAt 12 = .ok (.aload_n 0, 1) := by decide +kernel
theorem dL_wordAt_13 : decode cL_wordAt 13 = .ok (.iload 4, 2) := by decide +kernel
theorem dL_wordAt_15 : decode cL_wordAt 15 = .ok (.iload_n 1, 1) := by decide +kernel
theorem dL_wordAt_16 : decode cL_wordAt 16 = .ok (.invokestatic 9, 3) := by decide +kernel
theorem dL_wordAt_19 : decode cL_wordAt 19 = .ok (.ifCond .eq 19, 3) := by decide +kernel
theorem dL_wordAt_22 : decode cL_wordAt 22 = .ok (.aload_n 0, 1) := by decide +kernel
theorem dL_wordAt_23 : decode cL_wordAt 23 = .ok (.iload 4, 2) := by decide +kernel
theorem dL_wordAt_25 : decode cL_wordAt 25 = .ok (.iaload, 1) := by decide +kernel
theorem dL_wordAt_26 : decode cL_wordAt 26 = .ok (.bipush 8, 2) := by decide +kernel
theorem dL_wordAt_28 : decode cL_wordAt 28 = .ok (.irem, 1) := by decide +kernel
theorem dL_wordAt_29 : decode cL_wordAt 29 = .ok (.iload_n 2, 1) := by decide +kernel
theorem dL_wordAt_30 : decode cL_wordAt 30 = .ok (.if_icmp .ne 8, 3) := by decide +kernel
theorem dL_wordAt_33 : decode cL_wordAt 33 = .ok (.iload 4, 2) := by decide +kernel
theorem dL_wordAt_35 : decode cL_wordAt 35 = .ok (.goto 4, 3) := by decide +kernel
theorem dL_wordAt_38 : decode cL_wordAt 38 = .ok (.iload_n 3, 1) := by decide +kernel
theorem dL_wordAt_39 : decode cL_wordAt 39 = .ok (.istore_n 3, 1) := by decide +kernel
theorem dL_wordAt_40 : decode cL_wordAt 40 = .ok (.iinc 4 1, 3) := by decide +kernel
theorem dL_wordAt_43 : decode cL_wordAt 43 = .ok (.goto (-38), 3) := by decide +kernel
theorem dL_wordAt_46 : decode cL_wordAt 46 = .ok (.iload_n 3, 1) := by decide +kernel
theorem dL_wordAt_47 : decode cL_wordAt 47 = .ok (.ireturn, 1) := by decide +kernel
theorem dL_last_0 : decode cL_last 0 = .ok (.aload_n 0, 1) := by decide +kernel
theorem dL_last_1 : decode cL_last 1 = .ok (.iload_n 1, 1) := by decide +kernel
theorem dL_last_2 : decode cL_last 2 = .ok (.aload_n 0, 1) := by decide +kernel
theorem dL_last_3 : decode cL_last 3 = .ok (.iload_n 1, 1) := by decide +kernel
theorem dL_last_4 : decode cL_last 4 = .ok (.invokestatic 15, 3) := by decide +kernel
theorem dL_last_7 : decode cL_last 7 = .ok (.iconst 1, 1) := by decide +kernel
theorem dL_last_8 : decode cL_last 8 = .ok (.isub, 1) := by decide +kernel
theorem dL_last_9 : decode cL_last 9 = .ok (.invokestatic 19, 3) := by decide +kernel
theorem dL_last_12 : decode cL_last 12 = .ok (.ireturn, 1) := by decide +kernel
theorem dL_beats_0 : decode cL_beats 0 = .ok (.iconst 0, 1) := by decide +kernel
theorem dL_beats_1 : decode cL_beats 1 = .ok (.istore_n 2, 1) := by decide +kernel
theorem dL_beats_2 : decode cL_beats 2 = .ok (.iconst 0, 1) := by decide +kernel
theorem dL_beats_3 : decode cL_beats 3 = .ok (.istore_n 3, 1) := by decide +kernel
theorem dL_beats_4 : decode cL_beats 4 = .ok (.iload_n 3, 1) := by decide +kernel
theorem dL_beats_5 : decode cL_beats 5 = .ok (.bipush 40, 2) := by decide +kernel
theorem dL_beats_7 : decode cL_beats 7 = .ok (.if_icmp .ge 30, 3) := by decide +kernel
theorem dL_beats_10 : decode cL_beats 10 = .ok (.iload_n 2, 1) := by decide +kernel
theorem dL_beats_11 : decode cL_beats 11 = .ok (.aload_n 0, 1) := by decide +kernel
theorem dL_beats_12 : decode cL_beats 12 = .ok (.iload_n 3, 1) := by decide +kernel
theorem dL_beats_13 : decode cL_beats 13 = .ok (.iload_n 1, 1) := by decide +kernel
theorem dL_beats_14 : decode cL_beats 14 = .ok (.invokestatic 9, 3) := by decide +kernel
theorem dL_beats_17 : decode cL_beats 17 = .ok (.ifCond .eq 11, 3) := by decide +kernel
theorem dL_beats_20 : decode cL_beats 20 = .ok (.iload_n 3, 1) := by decide +kernel
theorem dL_beats_21 : decode cL_beats 21 = .ok (.iconst 3, 1) := by decide +kernel
theorem dL_beats_22 : decode cL_beats 22 = .ok (.irem, 1) := by decide +kernel
theorem dL_beats_23 : decode cL_beats 23 = .ok (.iconst 1, 1) := by decide +kernel
theorem dL_beats_24 : decode cL_beats 24 = .ok (.iadd, 1) := by decide +kernel
theorem dL_beats_25 : decode cL_beats 25 = .ok (.goto 4, 3) := by decide +kernel
theorem dL_beats_28 : decode cL_beats 28 = .ok (.iconst 0, 1) := by decide +kernel
theorem dL_beats_29 : decode cL_beats 29 = .ok (.iadd, 1) := by decide +kernel
theorem dL_beats_30 : decode cL_beats 30 = .ok (.istore_n 2, 1) := by decide +kernel
theorem dL_beats_31 : decode cL_beats 31 = .ok (.iinc 3 1, 3) := by decide +kernel
theorem dL_beats_34 : decode cL_beats 34 = .ok (.goto (-30), 3) := by decide +kernel
theorem dL_beats_37 : decode cL_beats 37 = .ok (.iload_n 2, 1) := by decide +kernel
theorem dL_beats_38 : decode cL_beats 38 = .ok (.ireturn, 1) := by decide +kernel
theorem dL_endLoans_0 : decode cL_endLoans 0 = .ok (.aload_n 0, 1) := by decide +kernel
theorem dL_endLoans_1 : decode cL_endLoans 1 = .ok (.iload_n 2, 1) := by decide +kernel
theorem dL_endLoans_2 : decode cL_endLoans 2 = .ok (.invokestatic 23, 3) := by decide +kernel
theorem dL_endLoans_5 : decode cL_endLoans 5 = .ok (.iload_n 3, 1) := by decide +kernel
theorem dL_endLoans_6 : decode cL_endLoans 6 = .ok (.if_icmp .ne 7, 3) := by decide +kernel
theorem dL_endLoans_9 : decode cL_endLoans 9 = .ok (.iconst 1, 1) := by decide +kernel
theorem dL_endLoans_10 : decode cL_endLoans 10 = .ok (.goto 4, 3) := by decide +kernel
theorem dL_endLoans_13 : decode cL_endLoans 13 = .ok (.iconst 0, 1) := by decide +kernel
theorem dL_endLoans_14 : decode cL_endLoans 14 = .ok (.istore 4, 2) := by decide +kernel
theorem dL_endLoans_16 : decode cL_endLoans 16 = .ok (.iconst 0, 1) := by decide +kernel
theorem dL_endLoans_17 : decode cL_endLoans 17 = .ok (.istore 5, 2) := by decide +kernel
theorem dL_endLoans_19 : decode cL_endLoans 19 = .ok (.iload 5, 2) := by decide +kernel
theorem dL_endLoans_21 : decode cL_endLoans 21 = .ok (.bipush 16, 2) := by decide +kernel
theorem dL_endLoans_23 : decode cL_endLoans 23 = .ok (.if_icmp .ge 40, 3) := by decide +kernel
theorem dL_endLoans_26 : decode cL_endLoans 26 = .ok (.aload_n 1, 1) := by decide +kernel
theorem dL_endLoans_27 : decode cL_endLoans 27 = .ok (.iload 5, 2) := by decide +kernel
theorem dL_endLoans_29 : decode cL_endLoans 29 = .ok (.iload 5, 2) := by decide +kernel
theorem dL_endLoans_31 : decode cL_endLoans 31 = .ok (.iload_n 2, 1) := by decide +kernel
theorem dL_endLoans_32 : decode cL_endLoans 32 = .ok (.if_icmp .eq 16, 3) := by decide +kernel
theorem dL_endLoans_35 : decode cL_endLoans 35 = .ok (.aload_n 1, 1) := by decide +kernel
theorem dL_endLoans_36 : decode cL_endLoans 36 = .ok (.iload 5, 2) := by decide +kernel
theorem dL_endLoans_38 : decode cL_endLoans 38 = .ok (.iaload, 1) := by decide +kernel
theorem dL_endLoans_39 : decode cL_endLoans 39 = .ok (.iload_n 2, 1) := by decide +kernel
theorem dL_endLoans_40 : decode cL_endLoans 40 = .ok (.if_icmp .ne 12, 3) := by decide +kernel
theorem dL_endLoans_43 : decode cL_endLoans 43 = .ok (.iload 4, 2) := by decide +kernel
theorem dL_endLoans_45 : decode cL_endLoans 45 = .ok (.ifCond .ne 7, 3) := by decide +kernel
theorem dL_endLoans_48 : decode cL_endLoans 48 = .ok (.iconst (-1), 1) := by decide +kernel
theorem dL_endLoans_49 : decode cL_endLoans 49 = .ok (.goto 7, 3) := by decide +kernel
theorem dL_endLoans_52 : decode cL_endLoans 52 = .ok (.aload_n 1, 1) := by decide +kernel
theorem dL_endLoans_53 : decode cL_endLoans 53 = .ok (.iload 5, 2) := by decide +kernel
theorem dL_endLoans_55 : decode cL_endLoans 55 = .ok (.iaload, 1) := by decide +kernel
theorem dL_endLoans_56 : decode cL_endLoans 56 = .ok (.iastore, 1) := by decide +kernel
theorem dL_endLoans_57 : decode cL_endLoans 57 = .ok (.iinc 5 1, 3) := by decide +kernel
theorem dL_endLoans_60 : decode cL_endLoans 60 = .ok (.goto (-41), 3) := by decide +kernel
theorem dL_endLoans_63 : decode cL_endLoans 63 = .ok (.return_, 1) := by decide +kernel
theorem dL_leaves_0 : decode cL_leaves 0 = .ok (.aload_n 0, 1) := by decide +kernel
theorem dL_leaves_1 : decode cL_leaves 1 = .ok (.iload_n 2, 1) := by decide +kernel
theorem dL_leaves_2 : decode cL_leaves 2 = .ok (.iaload, 1) := by decide +kernel
theorem dL_leaves_3 : decode cL_leaves 3 = .ok (.bipush 8, 2) := by decide +kernel
theorem dL_leaves_5 : decode cL_leaves 5 = .ok (.idiv, 1) := by decide +kernel
theorem dL_leaves_6 : decode cL_leaves 6 = .ok (.istore_n 3, 1) := by decide +kernel
theorem dL_leaves_7 : decode cL_leaves 7 = .ok (.aload_n 0, 1) := by decide +kernel
theorem dL_leaves_8 : decode cL_leaves 8 = .ok (.iload_n 3, 1) := by decide +kernel
theorem dL_leaves_9 : decode cL_leaves 9 = .ok (.invokestatic 23, 3) := by decide +kernel
theorem dL_leaves_12 : decode cL_leaves 12 = .ok (.istore 4, 2) := by decide +kernel
theorem dL_leaves_14 : decode cL_leaves 14 = .ok (.iconst 0, 1) := by decide +kernel
theorem dL_leaves_15 : decode cL_leaves 15 = .ok (.istore 5, 2) := by decide +kernel
theorem dL_leaves_17 : decode cL_leaves 17 = .ok (.iload 5, 2) := by decide +kernel
theorem dL_leaves_19 : decode cL_leaves 19 = .ok (.bipush 40, 2) := by decide +kernel
theorem dL_leaves_21 : decode cL_leaves 21 = .ok (.if_icmp .ge 41, 3) := by decide +kernel
theorem dL_leaves_24 : decode cL_leaves 24 = .ok (.aload_n 0, 1) := by decide +kernel
theorem dL_leaves_25 : decode cL_leaves 25 = .ok (.iload 5, 2) := by decide +kernel
theorem dL_leaves_27 : decode cL_leaves 27 = .ok (.dup2, 1) := by decide +kernel
theorem dL_leaves_28 : decode cL_leaves 28 = .ok (.iaload, 1) := by decide +kernel
theorem dL_leaves_29 : decode cL_leaves 29 = .ok (.aload_n 0, 1) := by decide +kernel
theorem dL_leaves_30 : decode cL_leaves 30 = .ok (.iload 5, 2) := by decide +kernel
theorem dL_leaves_32 : decode cL_leaves 32 = .ok (.iload_n 3, 1) := by decide +kernel
theorem dL_leaves_33 : decode cL_leaves 33 = .ok (.invokestatic 9, 3) := by decide +kernel
theorem dL_leaves_36 : decode cL_leaves 36 = .ok (.ifCond .eq 17, 3) := by decide +kernel
theorem dL_leaves_39 : decode cL_leaves 39 = .ok (.aload_n 0, 1) := by decide +kernel
theorem dL_leaves_40 : decode cL_leaves 40 = .ok (.iload 5, 2) := by decide +kernel
theorem dL_leaves_42 : decode cL_leaves 42 = .ok (.iaload, 1) := by decide +kernel
theorem dL_leaves_43 : decode cL_leaves 43 = .ok (.aload_n 0, 1) := by decide +kernel
theorem dL_leaves_44 : decode cL_leaves 44 = .ok (.iload_n 2, 1) := by decide +kernel
theorem dL_leaves_45 : decode cL_leaves 45 = .ok (.iaload, 1) := by decide +kernel
theorem dL_leaves_46 : decode cL_leaves 46 = .ok (.if_icmp .le 7, 3) := by decide +kernel
theorem dL_leaves_49 : decode cL_leaves 49 = .ok (.iconst 1, 1) := by decide +kernel
theorem dL_leaves_50 : decode cL_leaves 50 = .ok (.goto 4, 3) := by decide +kernel
theorem dL_leaves_53 : decode cL_leaves 53 = .ok (.iconst 0, 1) := by decide +kernel
theorem dL_leaves_54 : decode cL_leaves 54 = .ok (.isub, 1) := by decide +kernel
theorem dL_leaves_55 : decode cL_leaves 55 = .ok (.iastore, 1) := by decide +kernel
theorem dL_leaves_56 : decode cL_leaves 56 = .ok (.iinc 5 1, 3) := by decide +kernel
theorem dL_leaves_59 : decode cL_leaves 59 = .ok (.goto (-42), 3) := by decide +kernel
theorem dL_leaves_62 : decode cL_leaves 62 = .ok (.aload_n 0, 1) := by decide +kernel
theorem dL_leaves_63 : decode cL_leaves 63 = .ok (.iload_n 2, 1) := by decide +kernel
theorem dL_leaves_64 : decode cL_leaves 64 = .ok (.iconst (-1), 1) := by decide +kernel
theorem dL_leaves_65 : decode cL_leaves 65 = .ok (.iastore, 1) := by decide +kernel
theorem dL_leaves_66 : decode cL_leaves 66 = .ok (.aload_n 0, 1) := by decide +kernel
theorem dL_leaves_67 : decode cL_leaves 67 = .ok (.aload_n 1, 1) := by decide +kernel
theorem dL_leaves_68 : decode cL_leaves 68 = .ok (.iload_n 3, 1) := by decide +kernel
theorem dL_leaves_69 : decode cL_leaves 69 = .ok (.iload 4, 2) := by decide +kernel
theorem dL_leaves_71 : decode cL_leaves 71 = .ok (.invokestatic 26, 3) := by decide +kernel
theorem dL_leaves_74 : decode cL_leaves 74 = .ok (.return_, 1) := by decide +kernel
theorem dL_comes_0 : decode cL_comes 0 = .ok (.aload_n 0, 1) := by decide +kernel
theorem dL_comes_1 : decode cL_comes 1 = .ok (.iload_n 3, 1) := by decide +kernel
theorem dL_comes_2 : decode cL_comes 2 = .ok (.invokestatic 23, 3) := by decide +kernel
theorem dL_comes_5 : decode cL_comes 5 = .ok (.istore 5, 2) := by decide +kernel
theorem dL_comes_7 : decode cL_comes 7 = .ok (.iconst 0, 1) := by decide +kernel
theorem dL_comes_8 : decode cL_comes 8 = .ok (.istore 6, 2) := by decide +kernel
theorem dL_comes_10 : decode cL_comes 10 = .ok (.iload 6, 2) := by decide +kernel
theorem dL_comes_12 : decode cL_comes 12 = .ok (.bipush 40, 2) := by decide +kernel
theorem dL_comes_14 : decode cL_comes 14 = .ok (.if_icmp .ge 43, 3) := by decide +kernel
theorem dL_comes_17 : decode cL_comes 17 = .ok (.aload_n 0, 1) := by decide +kernel
theorem dL_comes_18 : decode cL_comes 18 = .ok (.iload 6, 2) := by decide +kernel
theorem dL_comes_20 : decode cL_comes 20 = .ok (.dup2, 1) := by decide +kernel
theorem dL_comes_21 : decode cL_comes 21 = .ok (.iaload, 1) := by decide +kernel
theorem dL_comes_22 : decode cL_comes 22 = .ok (.aload_n 0, 1) := by decide +kernel
theorem dL_comes_23 : decode cL_comes 23 = .ok (.iload 6, 2) := by decide +kernel
theorem dL_comes_25 : decode cL_comes 25 = .ok (.iload_n 3, 1) := by decide +kernel
theorem dL_comes_26 : decode cL_comes 26 = .ok (.invokestatic 9, 3) := by decide +kernel
theorem dL_comes_29 : decode cL_comes 29 = .ok (.ifCond .eq 19, 3) := by decide +kernel
theorem dL_comes_32 : decode cL_comes 32 = .ok (.aload_n 0, 1) := by decide +kernel
theorem dL_comes_33 : decode cL_comes 33 = .ok (.iload 6, 2) := by decide +kernel
theorem dL_comes_35 : decode cL_comes 35 = .ok (.iaload, 1) := by decide +kernel
theorem dL_comes_36 : decode cL_comes 36 = .ok (.bipush 8, 2) := by decide +kernel
theorem dL_comes_38 : decode cL_comes 38 = .ok (.irem, 1) := by decide +kernel
theorem dL_comes_39 : decode cL_comes 39 = .ok (.iload 4, 2) := by decide +kernel
theorem dL_comes_41 : decode cL_comes 41 = .ok (.if_icmp .lt 7, 3) := by decide +kernel
theorem dL_comes_44 : decode cL_comes 44 = .ok (.iconst 1, 1) := by decide +kernel
theorem dL_comes_45 : decode cL_comes 45 = .ok (.goto 4, 3) := by decide +kernel
theorem dL_comes_48 : decode cL_comes 48 = .ok (.iconst 0, 1) := by decide +kernel
theorem dL_comes_49 : decode cL_comes 49 = .ok (.iadd, 1) := by decide +kernel
theorem dL_comes_50 : decode cL_comes 50 = .ok (.iastore, 1) := by decide +kernel
theorem dL_comes_51 : decode cL_comes 51 = .ok (.iinc 6 1, 3) := by decide +kernel
theorem dL_comes_54 : decode cL_comes 54 = .ok (.goto (-44), 3) := by decide +kernel
theorem dL_comes_57 : decode cL_comes 57 = .ok (.aload_n 0, 1) := by decide +kernel
theorem dL_comes_58 : decode cL_comes 58 = .ok (.iload_n 2, 1) := by decide +kernel
theorem dL_comes_59 : decode cL_comes 59 = .ok (.bipush 8, 2) := by decide +kernel
theorem dL_comes_61 : decode cL_comes 61 = .ok (.iload_n 3, 1) := by decide +kernel
theorem dL_comes_62 : decode cL_comes 62 = .ok (.imul, 1) := by decide +kernel
theorem dL_comes_63 : decode cL_comes 63 = .ok (.iload 4, 2) := by decide +kernel
theorem dL_comes_65 : decode cL_comes 65 = .ok (.iadd, 1) := by decide +kernel
theorem dL_comes_66 : decode cL_comes 66 = .ok (.iastore, 1) := by decide +kernel
theorem dL_comes_67 : decode cL_comes 67 = .ok (.aload_n 0, 1) := by decide +kernel
theorem dL_comes_68 : decode cL_comes 68 = .ok (.aload_n 1, 1) := by decide +kernel
theorem dL_comes_69 : decode cL_comes 69 = .ok (.iload_n 3, 1) := by decide +kernel
theorem dL_comes_70 : decode cL_comes 70 = .ok (.iload 5, 2) := by decide +kernel
theorem dL_comes_72 : decode cL_comes 72 = .ok (.invokestatic 26, 3) := by decide +kernel
theorem dL_comes_75 : decode cL_comes 75 = .ok (.return_, 1) := by decide +kernel
theorem dL_reason_0 : decode cL_reason 0 = .ok (.aload_n 0, 1) := by decide +kernel
theorem dL_reason_1 : decode cL_reason 1 = .ok (.iload_n 3, 1) := by decide +kernel
theorem dL_reason_2 : decode cL_reason 2 = .ok (.invokestatic 15, 3) := by decide +kernel
theorem dL_reason_5 : decode cL_reason 5 = .ok (.istore 5, 2) := by decide +kernel
theorem dL_reason_7 : decode cL_reason 7 = .ok (.iload 5, 2) := by decide +kernel
theorem dL_reason_9 : decode cL_reason 9 = .ok (.bipush 6, 2) := by decide +kernel
theorem dL_reason_11 : decode cL_reason 11 = .ok (.if_icmp .ne 5, 3) := by decide +kernel
theorem dL_reason_14 : decode cL_reason 14 = .ok (.iconst 1, 1) := by decide +kernel
theorem dL_reason_15 : decode cL_reason 15 = .ok (.ireturn, 1) := by decide +kernel
theorem dL_reason_16 : decode cL_reason 16 = .ok (.aload_n 0, 1) := by decide +kernel
theorem dL_reason_17 : decode cL_reason 17 = .ok (.iload_n 3, 1) := by decide +kernel
theorem dL_reason_18 : decode cL_reason 18 = .ok (.invokestatic 30, 3) := by decide +kernel
theorem dL_reason_21 : decode cL_reason 21 = .ok (.iload_n 2, 1) := by decide +kernel
theorem dL_reason_22 : decode cL_reason 22 = .ok (.iconst 3, 1) := by decide +kernel
theorem dL_reason_23 : decode cL_reason 23 = .ok (.irem, 1) := by decide +kernel
theorem dL_reason_24 : decode cL_reason 24 = .ok (.iadd, 1) := by decide +kernel
theorem dL_reason_25 : decode cL_reason 25 = .ok (.iconst 1, 1) := by decide +kernel
theorem dL_reason_26 : decode cL_reason 26 = .ok (.iadd, 1) := by decide +kernel
theorem dL_reason_27 : decode cL_reason 27 = .ok (.bipush 12, 2) := by decide +kernel
theorem dL_reason_29 : decode cL_reason 29 = .ok (.if_icmp .le 5, 3) := by decide +kernel
theorem dL_reason_32 : decode cL_reason 32 = .ok (.iconst 2, 1) := by decide +kernel
theorem dL_reason_33 : decode cL_reason 33 = .ok (.ireturn, 1) := by decide +kernel
theorem dL_reason_34 : decode cL_reason 34 = .ok (.iconst (-1), 1) := by decide +kernel
theorem dL_reason_35 : decode cL_reason 35 = .ok (.istore 6, 2) := by decide +kernel
theorem dL_reason_37 : decode cL_reason 37 = .ok (.iconst 0, 1) := by decide +kernel
theorem dL_reason_38 : decode cL_reason 38 = .ok (.istore 7, 2) := by decide +kernel
theorem dL_reason_40 : decode cL_reason 40 = .ok (.iload 7, 2) := by decide +kernel
theorem dL_reason_42 : decode cL_reason 42 = .ok (.iload 5, 2) := by decide +kernel
theorem dL_reason_44 : decode cL_reason 44 = .ok (.if_icmp .gt 78, 3) := by decide +kernel
theorem dL_reason_47 : decode cL_reason 47 = .ok (.iload 7, 2) := by decide +kernel
theorem dL_reason_49 : decode cL_reason 49 = .ok (.iload 4, 2) := by decide +kernel
theorem dL_reason_51 : decode cL_reason 51 = .ok (.if_icmp .ge 13, 3) := by decide +kernel
theorem dL_reason_54 : decode cL_reason 54 = .ok (.aload_n 0, 1) := by decide +kernel
theorem dL_reason_55 : decode cL_reason 55 = .ok (.iload_n 3, 1) := by decide +kernel
theorem dL_reason_56 : decode cL_reason 56 = .ok (.iload 7, 2) := by decide +kernel
theorem dL_reason_58 : decode cL_reason 58 = .ok (.invokestatic 19, 3) := by decide +kernel
theorem dL_reason_61 : decode cL_reason 61 = .ok (.goto 23, 3) := by decide +kernel
theorem dL_reason_64 : decode cL_reason 64 = .ok (.iload 7, 2) := by decide +kernel
theorem dL_reason_66 : decode cL_reason 66 = .ok (.iload 4, 2) := by decide +kernel
theorem dL_reason_68 : decode cL_reason 68 = .ok (.if_icmp .ne 7, 3) := by decide +kernel
theorem dL_reason_71 : decode cL_reason 71 = .ok (.iload_n 2, 1) := by decide +kernel
theorem dL_reason_72 : decode cL_reason 72 = .ok (.goto 12, 3) := by decide +kernel
theorem dL_reason_75 : decode cL_reason 75 = .ok (.aload_n 0, 1) := by decide +kernel
theorem dL_reason_76 : decode cL_reason 76 = .ok (.iload_n 3, 1) := by decide +kernel
theorem dL_reason_77 : decode cL_reason 77 = .ok (.iload 7, 2) := by decide +kernel
theorem dL_reason_79 : decode cL_reason 79 = .ok (.iconst 1, 1) := by decide +kernel
theorem dL_reason_80 : decode cL_reason 80 = .ok (.isub, 1) := by decide +kernel
theorem dL_reason_81 : decode cL_reason 81 = .ok (.invokestatic 19, 3) := by decide +kernel
theorem dL_reason_84 : decode cL_reason 84 = .ok (.istore 8, 2) := by decide +kernel
theorem dL_reason_86 : decode cL_reason 86 = .ok (.iload 7, 2) := by decide +kernel
theorem dL_reason_88 : decode cL_reason 88 = .ok (.ifCond .le 24, 3) := by decide +kernel
theorem dL_reason_91 : decode cL_reason 91 = .ok (.iload 8, 2) := by decide +kernel
theorem dL_reason_93 : decode cL_reason 93 = .ok (.iconst 4, 1) := by decide +kernel
theorem dL_reason_94 : decode cL_reason 94 = .ok (.irem, 1) := by decide +kernel
theorem dL_reason_95 : decode cL_reason 95 = .ok (.iconst 2, 1) := by decide +kernel
theorem dL_reason_96 : decode cL_reason 96 = .ok (.if_icmp .eq 16, 3) := by decide +kernel
theorem dL_reason_99 : decode cL_reason 99 = .ok (.iload 8, 2) := by decide +kernel
theorem dL_reason_101 : decode cL_reason 101 = .ok (.iconst 4, 1) := by decide +kernel
theorem dL_reason_102 : decode cL_reason 102 = .ok (.irem, 1) := by decide +kernel
theorem dL_reason_103 : decode cL_reason 103 = .ok (.iload 6, 2) := by decide +kernel
theorem dL_reason_105 : decode cL_reason 105 = .ok (.iconst 4, 1) := by decide +kernel
theorem dL_reason_106 : decode cL_reason 106 = .ok (.irem, 1) := by decide +kernel
theorem dL_reason_107 : decode cL_reason 107 = .ok (.if_icmp .ne 5, 3) := by decide +kernel
theorem dL_reason_110 : decode cL_reason 110 = .ok (.iconst 3, 1) := by decide +kernel
theorem dL_reason_111 : decode cL_reason 111 = .ok (.ireturn, 1) := by decide +kernel
theorem dL_reason_112 : decode cL_reason 112 = .ok (.iload 8, 2) := by decide +kernel
theorem dL_reason_114 : decode cL_reason 114 = .ok (.istore 6, 2) := by decide +kernel
theorem dL_reason_116 : decode cL_reason 116 = .ok (.iinc 7 1, 3) := by decide +kernel
theorem dL_reason_119 : decode cL_reason 119 = .ok (.goto (-79), 3) := by decide +kernel
theorem dL_reason_122 : decode cL_reason 122 = .ok (.aload_n 1, 1) := by decide +kernel
theorem dL_reason_123 : decode cL_reason 123 = .ok (.iconst 0, 1) := by decide +kernel
theorem dL_reason_124 : decode cL_reason 124 = .ok (.iaload, 1) := by decide +kernel
theorem dL_reason_125 : decode cL_reason 125 = .ok (.iconst 1, 1) := by decide +kernel
theorem dL_reason_126 : decode cL_reason 126 = .ok (.if_icmp .ne 26, 3) := by decide +kernel
theorem dL_reason_129 : decode cL_reason 129 = .ok (.iload_n 2, 1) := by decide +kernel
theorem dL_reason_130 : decode cL_reason 130 = .ok (.iconst 4, 1) := by decide +kernel
theorem dL_reason_131 : decode cL_reason 131 = .ok (.irem, 1) := by decide +kernel
theorem dL_reason_132 : decode cL_reason 132 = .ok (.iconst 3, 1) := by decide +kernel
theorem dL_reason_133 : decode cL_reason 133 = .ok (.if_icmp .ne 19, 3) := by decide +kernel
theorem dL_reason_136 : decode cL_reason 136 = .ok (.iload 4, 2) := by decide +kernel
theorem dL_reason_138 : decode cL_reason 138 = .ok (.ifCond .eq 10, 3) := by decide +kernel
theorem dL_reason_141 : decode cL_reason 141 = .ok (.iload 4, 2) := by decide +kernel
theorem dL_reason_143 : decode cL_reason 143 = .ok (.iload 5, 2) := by decide +kernel
theorem dL_reason_145 : decode cL_reason 145 = .ok (.if_icmp .ne 7, 3) := by decide +kernel
theorem dL_reason_148 : decode cL_reason 148 = .ok (.iconst 4, 1) := by decide +kernel
theorem dL_reason_149 : decode cL_reason 149 = .ok (.goto 4, 3) := by decide +kernel
theorem dL_reason_152 : decode cL_reason 152 = .ok (.iconst 0, 1) := by decide +kernel
theorem dL_reason_153 : decode cL_reason 153 = .ok (.ireturn, 1) := by decide +kernel
theorem dL_worth_0 : decode cL_worth 0 = .ok (.iconst 0, 1) := by decide +kernel
theorem dL_worth_1 : decode cL_worth 1 = .ok (.istore_n 2, 1) := by decide +kernel
theorem dL_worth_2 : decode cL_worth 2 = .ok (.iconst 0, 1) := by decide +kernel
theorem dL_worth_3 : decode cL_worth 3 = .ok (.istore_n 3, 1) := by decide +kernel
theorem dL_worth_4 : decode cL_worth 4 = .ok (.iload_n 3, 1) := by decide +kernel
theorem dL_worth_5 : decode cL_worth 5 = .ok (.bipush 40, 2) := by decide +kernel
theorem dL_worth_7 : decode cL_worth 7 = .ok (.if_icmp .ge 30, 3) := by decide +kernel
theorem dL_worth_10 : decode cL_worth 10 = .ok (.iload_n 2, 1) := by decide +kernel
theorem dL_worth_11 : decode cL_worth 11 = .ok (.aload_n 0, 1) := by decide +kernel
theorem dL_worth_12 : decode cL_worth 12 = .ok (.iload_n 3, 1) := by decide +kernel
theorem dL_worth_13 : decode cL_worth 13 = .ok (.iload_n 1, 1) := by decide +kernel
theorem dL_worth_14 : decode cL_worth 14 = .ok (.invokestatic 9, 3) := by decide +kernel
theorem dL_worth_17 : decode cL_worth 17 = .ok (.ifCond .eq 11, 3) := by decide +kernel
theorem dL_worth_20 : decode cL_worth 20 = .ok (.iconst 1, 1) := by decide +kernel
theorem dL_worth_21 : decode cL_worth 21 = .ok (.iload_n 3, 1) := by decide +kernel
theorem dL_worth_22 : decode cL_worth 22 = .ok (.iconst 4, 1) := by decide +kernel
theorem dL_worth_23 : decode cL_worth 23 = .ok (.irem, 1) := by decide +kernel
theorem dL_worth_24 : decode cL_worth 24 = .ok (.ishl, 1) := by decide +kernel
theorem dL_worth_25 : decode cL_worth 25 = .ok (.goto 4, 3) := by decide +kernel
theorem dL_worth_28 : decode cL_worth 28 = .ok (.iconst 0, 1) := by decide +kernel
theorem dL_worth_29 : decode cL_worth 29 = .ok (.ior, 1) := by decide +kernel
theorem dL_worth_30 : decode cL_worth 30 = .ok (.istore_n 2, 1) := by decide +kernel
theorem dL_worth_31 : decode cL_worth 31 = .ok (.iinc 3 1, 3) := by decide +kernel
theorem dL_worth_34 : decode cL_worth 34 = .ok (.goto (-30), 3) := by decide +kernel
theorem dL_worth_37 : decode cL_worth 37 = .ok (.aload_n 0, 1) := by decide +kernel
theorem dL_worth_38 : decode cL_worth 38 = .ok (.iload_n 1, 1) := by decide +kernel
theorem dL_worth_39 : decode cL_worth 39 = .ok (.invokestatic 30, 3) := by decide +kernel
theorem dL_worth_42 : decode cL_worth 42 = .ok (.istore_n 3, 1) := by decide +kernel
theorem dL_worth_43 : decode cL_worth 43 = .ok (.iload_n 3, 1) := by decide +kernel
theorem dL_worth_44 : decode cL_worth 44 = .ok (.iload_n 2, 1) := by decide +kernel
theorem dL_worth_45 : decode cL_worth 45 = .ok (.iconst 3, 1) := by decide +kernel
theorem dL_worth_46 : decode cL_worth 46 = .ok (.iand, 1) := by decide +kernel
theorem dL_worth_47 : decode cL_worth 47 = .ok (.iconst 3, 1) := by decide +kernel
theorem dL_worth_48 : decode cL_worth 48 = .ok (.if_icmp .ne 7, 3) := by decide +kernel
theorem dL_worth_51 : decode cL_worth 51 = .ok (.iconst 5, 1) := by decide +kernel
theorem dL_worth_52 : decode cL_worth 52 = .ok (.goto 4, 3) := by decide +kernel
theorem dL_worth_55 : decode cL_worth 55 = .ok (.iconst 0, 1) := by decide +kernel
theorem dL_worth_56 : decode cL_worth 56 = .ok (.iadd, 1) := by decide +kernel
theorem dL_worth_57 : decode cL_worth 57 = .ok (.iload_n 3, 1) := by decide +kernel
theorem dL_worth_58 : decode cL_worth 58 = .ok (.bipush 8, 2) := by decide +kernel
theorem dL_worth_60 : decode cL_worth 60 = .ok (.if_icmp .ne 7, 3) := by decide +kernel
theorem dL_worth_63 : decode cL_worth 63 = .ok (.iconst 3, 1) := by decide +kernel
theorem dL_worth_64 : decode cL_worth 64 = .ok (.goto 4, 3) := by decide +kernel
theorem dL_worth_67 : decode cL_worth 67 = .ok (.iconst 0, 1) := by decide +kernel
theorem dL_worth_68 : decode cL_worth 68 = .ok (.iadd, 1) := by decide +kernel
theorem dL_worth_69 : decode cL_worth 69 = .ok (.ireturn, 1) := by decide +kernel
theorem dL_ending_0 : decode cL_ending 0 = .ok (.aload_n 0, 1) := by decide +kernel
theorem dL_ending_1 : decode cL_ending 1 = .ok (.iload_n 2, 1) := by decide +kernel
theorem dL_ending_2 : decode cL_ending 2 = .ok (.invokestatic 15, 3) := by decide +kernel
theorem dL_ending_5 : decode cL_ending 5 = .ok (.ifCond .ne 7, 3) := by decide +kernel
theorem dL_ending_8 : decode cL_ending 8 = .ok (.iconst (-1), 1) := by decide +kernel
theorem dL_ending_9 : decode cL_ending 9 = .ok (.goto 24, 3) := by decide +kernel
theorem dL_ending_12 : decode cL_ending 12 = .ok (.aload_n 0, 1) := by decide +kernel
theorem dL_ending_13 : decode cL_ending 13 = .ok (.aload_n 1, 1) := by decide +kernel
theorem dL_ending_14 : decode cL_ending 14 = .ok (.iload_n 2, 1) := by decide +kernel
theorem dL_ending_15 : decode cL_ending 15 = .ok (.iaload, 1) := by decide +kernel
theorem dL_ending_16 : decode cL_ending 16 = .ok (.ifCond .ge 7, 3) := by decide +kernel
theorem dL_ending_19 : decode cL_ending 19 = .ok (.iload_n 2, 1) := by decide +kernel
theorem dL_ending_20 : decode cL_ending 20 = .ok (.goto 6, 3) := by decide +kernel
theorem dL_ending_23 : decode cL_ending 23 = .ok (.aload_n 1, 1) := by decide +kernel
theorem dL_ending_24 : decode cL_ending 24 = .ok (.iload_n 2, 1) := by decide +kernel
theorem dL_ending_25 : decode cL_ending 25 = .ok (.iaload, 1) := by decide +kernel
theorem dL_ending_26 : decode cL_ending 26 = .ok (.invokestatic 23, 3) := by decide +kernel
theorem dL_ending_29 : decode cL_ending 29 = .ok (.iconst 4, 1) := by decide +kernel
theorem dL_ending_30 : decode cL_ending 30 = .ok (.idiv, 1) := by decide +kernel
theorem dL_ending_31 : decode cL_ending 31 = .ok (.iconst 5, 1) := by decide +kernel
theorem dL_ending_32 : decode cL_ending 32 = .ok (.irem, 1) := by decide +kernel
theorem dL_ending_33 : decode cL_ending 33 = .ok (.ireturn, 1) := by decide +kernel
theorem dL_rhymes_0 : decode cL_rhymes 0 = .ok (.iconst 0, 1) := by decide +kernel
theorem dL_rhymes_1 : decode cL_rhymes 1 = .ok (.istore_n 3, 1) := by decide +kernel
theorem dL_rhymes_2 : decode cL_rhymes 2 = .ok (.aload_n 0, 1) := by decide +kernel
theorem dL_rhymes_3 : decode cL_rhymes 3 = .ok (.aload_n 1, 1) := by decide +kernel
theorem dL_rhymes_4 : decode cL_rhymes 4 = .ok (.iload_n 2, 1) := by decide +kernel
theorem dL_rhymes_5 : decode cL_rhymes 5 = .ok (.invokestatic 33, 3) := by decide +kernel
theorem dL_rhymes_8 : decode cL_rhymes 8 = .ok (.istore 4, 2) := by decide +kernel
theorem dL_rhymes_10 : decode cL_rhymes 10 = .ok (.iconst 0, 1) := by decide +kernel
theorem dL_rhymes_11 : decode cL_rhymes 11 = .ok (.istore 5, 2) := by decide +kernel
theorem dL_rhymes_13 : decode cL_rhymes 13 = .ok (.iload 5, 2) := by decide +kernel
theorem dL_rhymes_15 : decode cL_rhymes 15 = .ok (.iconst 4, 1) := by decide +kernel
theorem dL_rhymes_16 : decode cL_rhymes 16 = .ok (.if_icmp .ge 50, 3) := by decide +kernel
theorem dL_rhymes_19 : decode cL_rhymes 19 = .ok (.iload_n 2, 1) := by decide +kernel
theorem dL_rhymes_20 : decode cL_rhymes 20 = .ok (.iconst 4, 1) := by decide +kernel
theorem dL_rhymes_21 : decode cL_rhymes 21 = .ok (.idiv, 1) := by decide +kernel
theorem dL_rhymes_22 : decode cL_rhymes 22 = .ok (.iconst 4, 1) := by decide +kernel
theorem dL_rhymes_23 : decode cL_rhymes 23 = .ok (.imul, 1) := by decide +kernel
theorem dL_rhymes_24 : decode cL_rhymes 24 = .ok (.iload 5, 2) := by decide +kernel
theorem dL_rhymes_26 : decode cL_rhymes 26 = .ok (.iadd, 1) := by decide +kernel
theorem dL_rhymes_27 : decode cL_rhymes 27 = .ok (.istore 6, 2) := by decide +kernel
theorem dL_rhymes_29 : decode cL_rhymes 29 = .ok (.iload_n 3, 1) := by decide +kernel
theorem dL_rhymes_30 : decode cL_rhymes 30 = .ok (.iload 6, 2) := by decide +kernel
theorem dL_rhymes_32 : decode cL_rhymes 32 = .ok (.iload_n 2, 1) := by decide +kernel
theorem dL_rhymes_33 : decode cL_rhymes 33 = .ok (.if_icmp .eq 24, 3) := by decide +kernel
theorem dL_rhymes_36 : decode cL_rhymes 36 = .ok (.iload 4, 2) := by decide +kernel
theorem dL_rhymes_38 : decode cL_rhymes 38 = .ok (.ifCond .lt 19, 3) := by decide +kernel
theorem dL_rhymes_41 : decode cL_rhymes 41 = .ok (.aload_n 0, 1) := by decide +kernel
theorem dL_rhymes_42 : decode cL_rhymes 42 = .ok (.aload_n 1, 1) := by decide +kernel
theorem dL_rhymes_43 : decode cL_rhymes 43 = .ok (.iload 6, 2) := by decide +kernel
theorem dL_rhymes_45 : decode cL_rhymes 45 = .ok (.invokestatic 33, 3) := by decide +kernel
theorem dL_rhymes_48 : decode cL_rhymes 48 = .ok (.iload 4, 2) := by decide +kernel
theorem dL_rhymes_50 : decode cL_rhymes 50 = .ok (.if_icmp .ne 7, 3) := by decide +kernel
theorem dL_rhymes_53 : decode cL_rhymes 53 = .ok (.iconst 1, 1) := by decide +kernel
theorem dL_rhymes_54 : decode cL_rhymes 54 = .ok (.goto 4, 3) := by decide +kernel
theorem dL_rhymes_57 : decode cL_rhymes 57 = .ok (.iconst 0, 1) := by decide +kernel
theorem dL_rhymes_58 : decode cL_rhymes 58 = .ok (.iadd, 1) := by decide +kernel
theorem dL_rhymes_59 : decode cL_rhymes 59 = .ok (.istore_n 3, 1) := by decide +kernel
theorem dL_rhymes_60 : decode cL_rhymes 60 = .ok (.iinc 5 1, 3) := by decide +kernel
theorem dL_rhymes_63 : decode cL_rhymes 63 = .ok (.goto (-50), 3) := by decide +kernel
theorem dL_rhymes_66 : decode cL_rhymes 66 = .ok (.iload_n 3, 1) := by decide +kernel
theorem dL_rhymes_67 : decode cL_rhymes 67 = .ok (.ireturn, 1) := by decide +kernel
theorem dL_doorWorth_0 : decode cL_doorWorth 0 = .ok (.iconst 0, 1) := by decide +kernel
theorem dL_doorWorth_1 : decode cL_doorWorth 1 = .ok (.istore_n 3, 1) := by decide +kernel
theorem dL_doorWorth_2 : decode cL_doorWorth 2 = .ok (.iconst 4, 1) := by decide +kernel
theorem dL_doorWorth_3 : decode cL_doorWorth 3 = .ok (.iload_n 2, 1) := by decide +kernel
theorem dL_doorWorth_4 : decode cL_doorWorth 4 = .ok (.imul, 1) := by decide +kernel
theorem dL_doorWorth_5 : decode cL_doorWorth 5 = .ok (.istore 4, 2) := by decide +kernel
theorem dL_doorWorth_7 : decode cL_doorWorth 7 = .ok (.iload 4, 2) := by decide +kernel
theorem dL_doorWorth_9 : decode cL_doorWorth 9 = .ok (.iconst 4, 1) := by decide +kernel
theorem dL_doorWorth_10 : decode cL_doorWorth 10 = .ok (.iload_n 2, 1) := by decide +kernel
theorem dL_doorWorth_11 : decode cL_doorWorth 11 = .ok (.imul, 1) := by decide +kernel
theorem dL_doorWorth_12 : decode cL_doorWorth 12 = .ok (.iconst 4, 1) := by decide +kernel
theorem dL_doorWorth_13 : decode cL_doorWorth 13 = .ok (.iadd, 1) := by decide +kernel
theorem dL_doorWorth_14 : decode cL_doorWorth 14 = .ok (.if_icmp .ge 28, 3) := by decide +kernel
theorem dL_doorWorth_17 : decode cL_doorWorth 17 = .ok (.iload_n 3, 1) := by decide +kernel
theorem dL_doorWorth_18 : decode cL_doorWorth 18 = .ok (.aload_n 0, 1) := by decide +kernel
theorem dL_doorWorth_19 : decode cL_doorWorth 19 = .ok (.iload 4, 2) := by decide +kernel
theorem dL_doorWorth_21 : decode cL_doorWorth 21 = .ok (.invokestatic 37, 3) := by decide +kernel
theorem dL_doorWorth_24 : decode cL_doorWorth 24 = .ok (.iconst 2, 1) := by decide +kernel
theorem dL_doorWorth_25 : decode cL_doorWorth 25 = .ok (.aload_n 0, 1) := by decide +kernel
theorem dL_doorWorth_26 : decode cL_doorWorth 26 = .ok (.aload_n 1, 1) := by decide +kernel
theorem dL_doorWorth_27 : decode cL_doorWorth 27 = .ok (.iload 4, 2) := by decide +kernel
theorem dL_doorWorth_29 : decode cL_doorWorth 29 = .ok (.invokestatic 40, 3) := by decide +kernel
theorem dL_doorWorth_32 : decode cL_doorWorth 32 = .ok (.imul, 1) := by decide +kernel
theorem dL_doorWorth_33 : decode cL_doorWorth 33 = .ok (.iadd, 1) := by decide +kernel
theorem dL_doorWorth_34 : decode cL_doorWorth 34 = .ok (.iadd, 1) := by decide +kernel
theorem dL_doorWorth_35 : decode cL_doorWorth 35 = .ok (.istore_n 3, 1) := by decide +kernel
theorem dL_doorWorth_36 : decode cL_doorWorth 36 = .ok (.iinc 4 1, 3) := by decide +kernel
theorem dL_doorWorth_39 : decode cL_doorWorth 39 = .ok (.goto (-32), 3) := by decide +kernel
theorem dL_doorWorth_42 : decode cL_doorWorth 42 = .ok (.iload_n 3, 1) := by decide +kernel
theorem dL_doorWorth_43 : decode cL_doorWorth 43 = .ok (.ireturn, 1) := by decide +kernel
theorem dL_doorWords_0 : decode cL_doorWords 0 = .ok (.iconst 0, 1) := by decide +kernel
theorem dL_doorWords_1 : decode cL_doorWords 1 = .ok (.istore_n 2, 1) := by decide +kernel
theorem dL_doorWords_2 : decode cL_doorWords 2 = .ok (.iconst 0, 1) := by decide +kernel
theorem dL_doorWords_3 : decode cL_doorWords 3 = .ok (.istore_n 3, 1) := by decide +kernel
theorem dL_doorWords_4 : decode cL_doorWords 4 = .ok (.iload_n 3, 1) := by decide +kernel
theorem dL_doorWords_5 : decode cL_doorWords 5 = .ok (.bipush 40, 2) := by decide +kernel
theorem dL_doorWords_7 : decode cL_doorWords 7 = .ok (.if_icmp .ge 33, 3) := by decide +kernel
theorem dL_doorWords_10 : decode cL_doorWords 10 = .ok (.iload_n 2, 1) := by decide +kernel
theorem dL_doorWords_11 : decode cL_doorWords 11 = .ok (.aload_n 0, 1) := by decide +kernel
theorem dL_doorWords_12 : decode cL_doorWords 12 = .ok (.iload_n 3, 1) := by decide +kernel
theorem dL_doorWords_13 : decode cL_doorWords 13 = .ok (.iaload, 1) := by decide +kernel
theorem dL_doorWords_14 : decode cL_doorWords 14 = .ok (.ifCond .lt 17, 3) := by decide +kernel
theorem dL_doorWords_17 : decode cL_doorWords 17 = .ok (.aload_n 0, 1) := by decide +kernel
theorem dL_doorWords_18 : decode cL_doorWords 18 = .ok (.iload_n 3, 1) := by decide +kernel
theorem dL_doorWords_19 : decode cL_doorWords 19 = .ok (.iaload, 1) := by decide +kernel
theorem dL_doorWords_20 : decode cL_doorWords 20 = .ok (.bipush 32, 2) := by decide +kernel
theorem dL_doorWords_22 : decode cL_doorWords 22 = .ok (.idiv, 1) := by decide +kernel
theorem dL_doorWords_23 : decode cL_doorWords 23 = .ok (.iload_n 1, 1) := by decide +kernel
theorem dL_doorWords_24 : decode cL_doorWords 24 = .ok (.if_icmp .ne 7, 3) := by decide +kernel
theorem dL_doorWords_27 : decode cL_doorWords 27 = .ok (.iconst 1, 1) := by decide +kernel
theorem dL_doorWords_28 : decode cL_doorWords 28 = .ok (.goto 4, 3) := by decide +kernel
theorem dL_doorWords_31 : decode cL_doorWords 31 = .ok (.iconst 0, 1) := by decide +kernel
theorem dL_doorWords_32 : decode cL_doorWords 32 = .ok (.iadd, 1) := by decide +kernel
theorem dL_doorWords_33 : decode cL_doorWords 33 = .ok (.istore_n 2, 1) := by decide +kernel
theorem dL_doorWords_34 : decode cL_doorWords 34 = .ok (.iinc 3 1, 3) := by decide +kernel
theorem dL_doorWords_37 : decode cL_doorWords 37 = .ok (.goto (-33), 3) := by decide +kernel
theorem dL_doorWords_40 : decode cL_doorWords 40 = .ok (.iload_n 2, 1) := by decide +kernel
theorem dL_doorWords_41 : decode cL_doorWords 41 = .ok (.ireturn, 1) := by decide +kernel
theorem dL_prey_0 : decode cL_prey 0 = .ok (.iconst (-1), 1) := by decide +kernel
theorem dL_prey_1 : decode cL_prey 1 = .ok (.istore_n 3, 1) := by decide +kernel
theorem dL_prey_2 : decode cL_prey 2 = .ok (.iconst 3, 1) := by decide +kernel
theorem dL_prey_3 : decode cL_prey 3 = .ok (.istore 4, 2) := by decide +kernel
theorem dL_prey_5 : decode cL_prey 5 = .ok (.iload 4, 2) := by decide +kernel
theorem dL_prey_7 : decode cL_prey 7 = .ok (.ifCond .lt 80, 3) := by decide +kernel
theorem dL_prey_10 : decode cL_prey 10 = .ok (.aload_n 0, 1) := by decide +kernel
theorem dL_prey_11 : decode cL_prey 11 = .ok (.iload 4, 2) := by decide +kernel
theorem dL_prey_13 : decode cL_prey 13 = .ok (.invokestatic 43, 3) := by decide +kernel
theorem dL_prey_16 : decode cL_prey 16 = .ok (.ifCond .le 30, 3) := by decide +kernel
theorem dL_prey_19 : decode cL_prey 19 = .ok (.aload_n 2, 1) := by decide +kernel
theorem dL_prey_20 : decode cL_prey 20 = .ok (.bipush 6, 2) := by decide +kernel
theorem dL_prey_22 : decode cL_prey 22 = .ok (.iload 4, 2) := by decide +kernel
theorem dL_prey_24 : decode cL_prey 24 = .ok (.iadd, 1) := by decide +kernel
theorem dL_prey_25 : decode cL_prey 25 = .ok (.iaload, 1) := by decide +kernel
theorem dL_prey_26 : decode cL_prey 26 = .ok (.ifCond .ne 20, 3) := by decide +kernel
theorem dL_prey_29 : decode cL_prey 29 = .ok (.aload_n 0, 1) := by decide +kernel
theorem dL_prey_30 : decode cL_prey 30 = .ok (.aload_n 1, 1) := by decide +kernel
theorem dL_prey_31 : decode cL_prey 31 = .ok (.iload 4, 2) := by decide +kernel
theorem dL_prey_33 : decode cL_prey 33 = .ok (.invokestatic 46, 3) := by decide +kernel
theorem dL_prey_36 : decode cL_prey 36 = .ok (.aload_n 2, 1) := by decide +kernel
theorem dL_prey_37 : decode cL_prey 37 = .ok (.iconst 1, 1) := by decide +kernel
theorem dL_prey_38 : decode cL_prey 38 = .ok (.iaload, 1) := by decide +kernel
theorem dL_prey_39 : decode cL_prey 39 = .ok (.if_icmp .lt 7, 3) := by decide +kernel
theorem dL_prey_42 : decode cL_prey 42 = .ok (.iconst 1, 1) := by decide +kernel
theorem dL_prey_43 : decode cL_prey 43 = .ok (.goto 4, 3) := by decide +kernel
theorem dL_prey_46 : decode cL_prey 46 = .ok (.iconst 0, 1) := by decide +kernel
theorem dL_prey_47 : decode cL_prey 47 = .ok (.istore 5, 2) := by decide +kernel
theorem dL_prey_49 : decode cL_prey 49 = .ok (.iload 5, 2) := by decide +kernel
theorem dL_prey_51 : decode cL_prey 51 = .ok (.ifCond .eq 28, 3) := by decide +kernel
theorem dL_prey_54 : decode cL_prey 54 = .ok (.iload_n 3, 1) := by decide +kernel
theorem dL_prey_55 : decode cL_prey 55 = .ok (.ifCond .lt 19, 3) := by decide +kernel
theorem dL_prey_58 : decode cL_prey 58 = .ok (.aload_n 0, 1) := by decide +kernel
theorem dL_prey_59 : decode cL_prey 59 = .ok (.aload_n 1, 1) := by decide +kernel
theorem dL_prey_60 : decode cL_prey 60 = .ok (.iload 4, 2) := by decide +kernel
theorem dL_prey_62 : decode cL_prey 62 = .ok (.invokestatic 46, 3) := by decide +kernel
theorem dL_prey_65 : decode cL_prey 65 = .ok (.aload_n 0, 1) := by decide +kernel
theorem dL_prey_66 : decode cL_prey 66 = .ok (.aload_n 1, 1) := by decide +kernel
theorem dL_prey_67 : decode cL_prey 67 = .ok (.iload_n 3, 1) := by decide +kernel
theorem dL_prey_68 : decode cL_prey 68 = .ok (.invokestatic 46, 3) := by decide +kernel
theorem dL_prey_71 : decode cL_prey 71 = .ok (.if_icmp .lt 8, 3) := by decide +kernel
theorem dL_prey_74 : decode cL_prey 74 = .ok (.iload 4, 2) := by decide +kernel
theorem dL_prey_76 : decode cL_prey 76 = .ok (.goto 4, 3) := by decide +kernel
theorem dL_prey_79 : decode cL_prey 79 = .ok (.iload_n 3, 1) := by decide +kernel
theorem dL_prey_80 : decode cL_prey 80 = .ok (.istore_n 3, 1) := by decide +kernel
theorem dL_prey_81 : decode cL_prey 81 = .ok (.iinc 4 (-1), 3) := by decide +kernel
theorem dL_prey_84 : decode cL_prey 84 = .ok (.goto (-79), 3) := by decide +kernel
theorem dL_prey_87 : decode cL_prey 87 = .ok (.iconst (-1), 1) := by decide +kernel
theorem dL_prey_88 : decode cL_prey 88 = .ok (.istore 4, 2) := by decide +kernel
theorem dL_prey_90 : decode cL_prey 90 = .ok (.iconst (-1), 1) := by decide +kernel
theorem dL_prey_91 : decode cL_prey 91 = .ok (.istore 5, 2) := by decide +kernel
theorem dL_prey_93 : decode cL_prey 93 = .ok (.iconst 0, 1) := by decide +kernel
theorem dL_prey_94 : decode cL_prey 94 = .ok (.istore 6, 2) := by decide +kernel
theorem dL_prey_96 : decode cL_prey 96 = .ok (.iload 6, 2) := by decide +kernel
theorem dL_prey_98 : decode cL_prey 98 = .ok (.bipush 40, 2) := by decide +kernel
theorem dL_prey_100 : decode cL_prey 100 = .ok (.if_icmp .ge 101, 3) := by decide +kernel
theorem dL_prey_103 : decode cL_prey 103 = .ok (.bipush 100, 2) := by decide +kernel
theorem dL_prey_105 : decode cL_prey 105 = .ok (.iload 6, 2) := by decide +kernel
theorem dL_prey_107 : decode cL_prey 107 = .ok (.iconst 3, 1) := by decide +kernel
theorem dL_prey_108 : decode cL_prey 108 = .ok (.irem, 1) := by decide +kernel
theorem dL_prey_109 : decode cL_prey 109 = .ok (.imul, 1) := by decide +kernel
theorem dL_prey_110 : decode cL_prey 110 = .ok (.bipush 10, 2) := by decide +kernel
theorem dL_prey_112 : decode cL_prey 112 = .ok (.aload_n 0, 1) := by decide +kernel
theorem dL_prey_113 : decode cL_prey 113 = .ok (.iload 6, 2) := by decide +kernel
theorem dL_prey_115 : decode cL_prey 115 = .ok (.iaload, 1) := by decide +kernel
theorem dL_prey_116 : decode cL_prey 116 = .ok (.bipush 8, 2) := by decide +kernel
theorem dL_prey_118 : decode cL_prey 118 = .ok (.idiv, 1) := by decide +kernel
theorem dL_prey_119 : decode cL_prey 119 = .ok (.iconst 4, 1) := by decide +kernel
theorem dL_prey_120 : decode cL_prey 120 = .ok (.irem, 1) := by decide +kernel
theorem dL_prey_121 : decode cL_prey 121 = .ok (.imul, 1) := by decide +kernel
theorem dL_prey_122 : decode cL_prey 122 = .ok (.iadd, 1) := by decide +kernel
theorem dL_prey_123 : decode cL_prey 123 = .ok (.iconst 5, 1) := by decide +kernel
theorem dL_prey_124 : decode cL_prey 124 = .ok (.iadd, 1) := by decide +kernel
theorem dL_prey_125 : decode cL_prey 125 = .ok (.aload_n 0, 1) := by decide +kernel
theorem dL_prey_126 : decode cL_prey 126 = .ok (.iload 6, 2) := by decide +kernel
theorem dL_prey_128 : decode cL_prey 128 = .ok (.iaload, 1) := by decide +kernel
theorem dL_prey_129 : decode cL_prey 129 = .ok (.bipush 8, 2) := by decide +kernel
theorem dL_prey_131 : decode cL_prey 131 = .ok (.irem, 1) := by decide +kernel
theorem dL_prey_132 : decode cL_prey 132 = .ok (.isub, 1) := by decide +kernel
theorem dL_prey_133 : decode cL_prey 133 = .ok (.istore 7, 2) := by decide +kernel
theorem dL_prey_135 : decode cL_prey 135 = .ok (.aload_n 0, 1) := by decide +kernel
theorem dL_prey_136 : decode cL_prey 136 = .ok (.iload 6, 2) := by decide +kernel
theorem dL_prey_138 : decode cL_prey 138 = .ok (.iaload, 1) := by decide +kernel
theorem dL_prey_139 : decode cL_prey 139 = .ok (.ifCond .lt 25, 3) := by decide +kernel
theorem dL_prey_142 : decode cL_prey 142 = .ok (.aload_n 0, 1) := by decide +kernel
theorem dL_prey_143 : decode cL_prey 143 = .ok (.iload 6, 2) := by decide +kernel
theorem dL_prey_145 : decode cL_prey 145 = .ok (.iaload, 1) := by decide +kernel
theorem dL_prey_146 : decode cL_prey 146 = .ok (.bipush 32, 2) := by decide +kernel
theorem dL_prey_148 : decode cL_prey 148 = .ok (.idiv, 1) := by decide +kernel
theorem dL_prey_149 : decode cL_prey 149 = .ok (.iload_n 3, 1) := by decide +kernel
theorem dL_prey_150 : decode cL_prey 150 = .ok (.if_icmp .ne 14, 3) := by decide +kernel
theorem dL_prey_153 : decode cL_prey 153 = .ok (.iload 7, 2) := by decide +kernel
theorem dL_prey_155 : decode cL_prey 155 = .ok (.iload 5, 2) := by decide +kernel
theorem dL_prey_157 : decode cL_prey 157 = .ok (.if_icmp .le 7, 3) := by decide +kernel
theorem dL_prey_160 : decode cL_prey 160 = .ok (.iconst 1, 1) := by decide +kernel
theorem dL_prey_161 : decode cL_prey 161 = .ok (.goto 4, 3) := by decide +kernel
theorem dL_prey_164 : decode cL_prey 164 = .ok (.iconst 0, 1) := by decide +kernel
theorem dL_prey_165 : decode cL_prey 165 = .ok (.istore 8, 2) := by decide +kernel
theorem dL_prey_167 : decode cL_prey 167 = .ok (.iload 8, 2) := by decide +kernel
theorem dL_prey_169 : decode cL_prey 169 = .ok (.ifCond .eq 8, 3) := by decide +kernel
theorem dL_prey_172 : decode cL_prey 172 = .ok (.iload 6, 2) := by decide +kernel
theorem dL_prey_174 : decode cL_prey 174 = .ok (.goto 5, 3) := by decide +kernel
theorem dL_prey_177 : decode cL_prey 177 = .ok (.iload 4, 2) := by decide +kernel
theorem dL_prey_179 : decode cL_prey 179 = .ok (.istore 4, 2) := by decide +kernel
theorem dL_prey_181 : decode cL_prey 181 = .ok (.iload 8, 2) := by decide +kernel
theorem dL_prey_183 : decode cL_prey 183 = .ok (.ifCond .eq 8, 3) := by decide +kernel
theorem dL_prey_186 : decode cL_prey 186 = .ok (.iload 7, 2) := by decide +kernel
theorem dL_prey_188 : decode cL_prey 188 = .ok (.goto 5, 3) := by decide +kernel
theorem dL_prey_191 : decode cL_prey 191 = .ok (.iload 5, 2) := by decide +kernel
theorem dL_prey_193 : decode cL_prey 193 = .ok (.istore 5, 2) := by decide +kernel
theorem dL_prey_195 : decode cL_prey 195 = .ok (.iinc 6 1, 3) := by decide +kernel
theorem dL_prey_198 : decode cL_prey 198 = .ok (.goto (-102), 3) := by decide +kernel
theorem dL_prey_201 : decode cL_prey 201 = .ok (.iload 4, 2) := by decide +kernel
theorem dL_prey_203 : decode cL_prey 203 = .ok (.ireturn, 1) := by decide +kernel
theorem dL_night_0 : decode cL_night 0 = .ok (.aload_n 0, 1) := by decide +kernel
theorem dL_night_1 : decode cL_night 1 = .ok (.aload_n 1, 1) := by decide +kernel
theorem dL_night_2 : decode cL_night 2 = .ok (.aload_n 2, 1) := by decide +kernel
theorem dL_night_3 : decode cL_night 3 = .ok (.invokestatic 49, 3) := by decide +kernel
theorem dL_night_6 : decode cL_night 6 = .ok (.istore 4, 2) := by decide +kernel
theorem dL_night_8 : decode cL_night 8 = .ok (.iconst 0, 1) := by decide +kernel
theorem dL_night_9 : decode cL_night 9 = .ok (.istore 5, 2) := by decide +kernel
theorem dL_night_11 : decode cL_night 11 = .ok (.iload 5, 2) := by decide +kernel
theorem dL_night_13 : decode cL_night 13 = .ok (.iconst 4, 1) := by decide +kernel
theorem dL_night_14 : decode cL_night 14 = .ok (.if_icmp .ge 34, 3) := by decide +kernel
theorem dL_night_17 : decode cL_night 17 = .ok (.aload_n 2, 1) := by decide +kernel
theorem dL_night_18 : decode cL_night 18 = .ok (.bipush 6, 2) := by decide +kernel
theorem dL_night_20 : decode cL_night 20 = .ok (.iload 5, 2) := by decide +kernel
theorem dL_night_22 : decode cL_night 22 = .ok (.iadd, 1) := by decide +kernel
theorem dL_night_23 : decode cL_night 23 = .ok (.dup2, 1) := by decide +kernel
theorem dL_night_24 : decode cL_night 24 = .ok (.iaload, 1) := by decide +kernel
theorem dL_night_25 : decode cL_night 25 = .ok (.aload_n 2, 1) := by decide +kernel
theorem dL_night_26 : decode cL_night 26 = .ok (.bipush 6, 2) := by decide +kernel
theorem dL_night_28 : decode cL_night 28 = .ok (.iload 5, 2) := by decide +kernel
theorem dL_night_30 : decode cL_night 30 = .ok (.iadd, 1) := by decide +kernel
theorem dL_night_31 : decode cL_night 31 = .ok (.iaload, 1) := by decide +kernel
theorem dL_night_32 : decode cL_night 32 = .ok (.ifCond .le 7, 3) := by decide +kernel
theorem dL_night_35 : decode cL_night 35 = .ok (.iconst 1, 1) := by decide +kernel
theorem dL_night_36 : decode cL_night 36 = .ok (.goto 4, 3) := by decide +kernel
theorem dL_night_39 : decode cL_night 39 = .ok (.iconst 0, 1) := by decide +kernel
theorem dL_night_40 : decode cL_night 40 = .ok (.isub, 1) := by decide +kernel
theorem dL_night_41 : decode cL_night 41 = .ok (.iastore, 1) := by decide +kernel
theorem dL_night_42 : decode cL_night 42 = .ok (.iinc 5 1, 3) := by decide +kernel
theorem dL_night_45 : decode cL_night 45 = .ok (.goto (-34), 3) := by decide +kernel
theorem dL_night_48 : decode cL_night 48 = .ok (.aload_n 2, 1) := by decide +kernel
theorem dL_night_49 : decode cL_night 49 = .ok (.iconst 3, 1) := by decide +kernel
theorem dL_night_50 : decode cL_night 50 = .ok (.dup2, 1) := by decide +kernel
theorem dL_night_51 : decode cL_night 51 = .ok (.iaload, 1) := by decide +kernel
theorem dL_night_52 : decode cL_night 52 = .ok (.iconst 1, 1) := by decide +kernel
theorem dL_night_53 : decode cL_night 53 = .ok (.iadd, 1) := by decide +kernel
theorem dL_night_54 : decode cL_night 54 = .ok (.iastore, 1) := by decide +kernel
theorem dL_night_55 : decode cL_night 55 = .ok (.iload 4, 2) := by decide +kernel
theorem dL_night_57 : decode cL_night 57 = .ok (.ifCond .ge 5, 3) := by decide +kernel
theorem dL_night_60 : decode cL_night 60 = .ok (.iconst 0, 1) := by decide +kernel
theorem dL_night_61 : decode cL_night 61 = .ok (.ireturn, 1) := by decide +kernel
theorem dL_night_62 : decode cL_night 62 = .ok (.aload_n 0, 1) := by decide +kernel
theorem dL_night_63 : decode cL_night 63 = .ok (.iload 4, 2) := by decide +kernel
theorem dL_night_65 : decode cL_night 65 = .ok (.iaload, 1) := by decide +kernel
theorem dL_night_66 : decode cL_night 66 = .ok (.bipush 32, 2) := by decide +kernel
theorem dL_night_68 : decode cL_night 68 = .ok (.idiv, 1) := by decide +kernel
theorem dL_night_69 : decode cL_night 69 = .ok (.istore 5, 2) := by decide +kernel
theorem dL_night_71 : decode cL_night 71 = .ok (.aload_n 0, 1) := by decide +kernel
theorem dL_night_72 : decode cL_night 72 = .ok (.aload_n 1, 1) := by decide +kernel
theorem dL_night_73 : decode cL_night 73 = .ok (.iload 4, 2) := by decide +kernel
theorem dL_night_75 : decode cL_night 75 = .ok (.invokestatic 53, 3) := by decide +kernel
theorem dL_night_78 : decode cL_night 78 = .ok (.aload_n 3, 1) := by decide +kernel
theorem dL_night_79 : decode cL_night 79 = .ok (.iload 4, 2) := by decide +kernel
theorem dL_night_81 : decode cL_night 81 = .ok (.dup2, 1) := by decide +kernel
theorem dL_night_82 : decode cL_night 82 = .ok (.iaload, 1) := by decide +kernel
theorem dL_night_83 : decode cL_night 83 = .ok (.iconst 1, 1) := by decide +kernel
theorem dL_night_84 : decode cL_night 84 = .ok (.iadd, 1) := by decide +kernel
theorem dL_night_85 : decode cL_night 85 = .ok (.iastore, 1) := by decide +kernel
theorem dL_night_86 : decode cL_night 86 = .ok (.aload_n 2, 1) := by decide +kernel
theorem dL_night_87 : decode cL_night 87 = .ok (.bipush 10, 2) := by decide +kernel
theorem dL_night_89 : decode cL_night 89 = .ok (.iload 5, 2) := by decide +kernel
theorem dL_night_91 : decode cL_night 91 = .ok (.iadd, 1) := by decide +kernel
theorem dL_night_92 : decode cL_night 92 = .ok (.dup2, 1) := by decide +kernel
theorem dL_night_93 : decode cL_night 93 = .ok (.iaload, 1) := by decide +kernel
theorem dL_night_94 : decode cL_night 94 = .ok (.iconst 1, 1) := by decide +kernel
theorem dL_night_95 : decode cL_night 95 = .ok (.iadd, 1) := by decide +kernel
theorem dL_night_96 : decode cL_night 96 = .ok (.iastore, 1) := by decide +kernel
theorem dL_night_97 : decode cL_night 97 = .ok (.aload_n 2, 1) := by decide +kernel
theorem dL_night_98 : decode cL_night 98 = .ok (.bipush 6, 2) := by decide +kernel
theorem dL_night_100 : decode cL_night 100 = .ok (.iload 5, 2) := by decide +kernel
theorem dL_night_102 : decode cL_night 102 = .ok (.iadd, 1) := by decide +kernel
theorem dL_night_103 : decode cL_night 103 = .ok (.aload_n 2, 1) := by decide +kernel
theorem dL_night_104 : decode cL_night 104 = .ok (.iconst 2, 1) := by decide +kernel
theorem dL_night_105 : decode cL_night 105 = .ok (.iaload, 1) := by decide +kernel
theorem dL_night_106 : decode cL_night 106 = .ok (.iastore, 1) := by decide +kernel
theorem dL_night_107 : decode cL_night 107 = .ok (.iconst 1, 1) := by decide +kernel
theorem dL_night_108 : decode cL_night 108 = .ok (.ireturn, 1) := by decide +kernel
theorem dL_copy_0 : decode cL_copy 0 = .ok (.iconst 0, 1) := by decide +kernel
theorem dL_copy_1 : decode cL_copy 1 = .ok (.istore_n 2, 1) := by decide +kernel
theorem dL_copy_2 : decode cL_copy 2 = .ok (.iload_n 2, 1) := by decide +kernel
theorem dL_copy_3 : decode cL_copy 3 = .ok (.aload_n 0, 1) := by decide +kernel
theorem dL_copy_4 : decode cL_copy 4 = .ok (.arraylength, 1) := by decide +kernel
theorem dL_copy_5 : decode cL_copy 5 = .ok (.if_icmp .ge 15, 3) := by decide +kernel
theorem dL_copy_8 : decode cL_copy 8 = .ok (.aload_n 1, 1) := by decide +kernel
theorem dL_copy_9 : decode cL_copy 9 = .ok (.iload_n 2, 1) := by decide +kernel
theorem dL_copy_10 : decode cL_copy 10 = .ok (.aload_n 0, 1) := by decide +kernel
theorem dL_copy_11 : decode cL_copy 11 = .ok (.iload_n 2, 1) := by decide +kernel
theorem dL_copy_12 : decode cL_copy 12 = .ok (.iaload, 1) := by decide +kernel
theorem dL_copy_13 : decode cL_copy 13 = .ok (.iastore, 1) := by decide +kernel
theorem dL_copy_14 : decode cL_copy 14 = .ok (.iinc 2 1, 3) := by decide +kernel
theorem dL_copy_17 : decode cL_copy 17 = .ok (.goto (-15), 3) := by decide +kernel
theorem dL_copy_20 : decode cL_copy 20 = .ok (.return_, 1) := by decide +kernel
theorem dL_areWords_0 : decode cL_areWords 0 = .ok (.iconst 1, 1) := by decide +kernel
theorem dL_areWords_1 : decode cL_areWords 1 = .ok (.istore_n 3, 1) := by decide +kernel
theorem dL_areWords_2 : decode cL_areWords 2 = .ok (.iconst 0, 1) := by decide +kernel
theorem dL_areWords_3 : decode cL_areWords 3 = .ok (.istore 4, 2) := by decide +kernel
theorem dL_areWords_5 : decode cL_areWords 5 = .ok (.iload 4, 2) := by decide +kernel
theorem dL_areWords_7 : decode cL_areWords 7 = .ok (.bipush 40, 2) := by decide +kernel
theorem dL_areWords_9 : decode cL_areWords 9 = .ok (.if_icmp .ge 174, 3) := by decide +kernel
theorem dL_areWords_12 : decode cL_areWords 12 = .ok (.iload_n 3, 1) := by decide +kernel
theorem dL_areWords_13 : decode cL_areWords 13 = .ok (.ifCond .eq 170, 3) := by decide +kernel
theorem dL_areWords_16 : decode cL_areWords 16 = .ok (.aload_n 1, 1) := by decide +kernel
theorem dL_areWords_17 : decode cL_areWords 17 = .ok (.iload 4, 2) := by decide +kernel
theorem dL_areWords_19 : decode cL_areWords 19 = .ok (.iaload, 1) := by decide +kernel
theorem dL_areWords_20 : decode cL_areWords 20 = .ok (.ifCond .lt 7, 3) := by decide +kernel
theorem dL_areWords_23 : decode cL_areWords 23 = .ok (.iconst 1, 1) := by decide +kernel
theorem dL_areWords_24 : decode cL_areWords 24 = .ok (.goto 4, 3) := by decide +kernel
theorem dL_areWords_27 : decode cL_areWords 27 = .ok (.iconst 0, 1) := by decide +kernel
theorem dL_areWords_28 : decode cL_areWords 28 = .ok (.istore 5, 2) := by decide +kernel
theorem dL_areWords_30 : decode cL_areWords 30 = .ok (.aload_n 0, 1) := by decide +kernel
theorem dL_areWords_31 : decode cL_areWords 31 = .ok (.iload 4, 2) := by decide +kernel
theorem dL_areWords_33 : decode cL_areWords 33 = .ok (.iconst 0, 1) := by decide +kernel
theorem dL_areWords_34 : decode cL_areWords 34 = .ok (.invokevirtual 57, 3) := by decide +kernel
theorem dL_areWords_37 : decode cL_areWords 37 = .ok (.iload 4, 2) := by decide +kernel
theorem dL_areWords_39 : decode cL_areWords 39 = .ok (.iconst 4, 1) := by decide +kernel
theorem dL_areWords_40 : decode cL_areWords 40 = .ok (.irem, 1) := by decide +kernel
theorem dL_areWords_41 : decode cL_areWords 41 = .ok (.if_icmp .ne 134, 3) := by decide +kernel
theorem dL_areWords_44 : decode cL_areWords 44 = .ok (.aload_n 0, 1) := by decide +kernel
theorem dL_areWords_45 : decode cL_areWords 45 = .ok (.iload 4, 2) := by decide +kernel
theorem dL_areWords_47 : decode cL_areWords 47 = .ok (.iconst 1, 1) := by decide +kernel
theorem dL_areWords_48 : decode cL_areWords 48 = .ok (.invokevirtual 57, 3) := by decide +kernel
theorem dL_areWords_51 : decode cL_areWords 51 = .ok (.iload 4, 2) := by decide +kernel
theorem dL_areWords_53 : decode cL_areWords 53 = .ok (.iconst 4, 1) := by decide +kernel
theorem dL_areWords_54 : decode cL_areWords 54 = .ok (.idiv, 1) := by decide +kernel
theorem dL_areWords_55 : decode cL_areWords 55 = .ok (.iconst 5, 1) := by decide +kernel
theorem dL_areWords_56 : decode cL_areWords 56 = .ok (.irem, 1) := by decide +kernel
theorem dL_areWords_57 : decode cL_areWords 57 = .ok (.if_icmp .ne 118, 3) := by decide +kernel
theorem dL_areWords_60 : decode cL_areWords 60 = .ok (.aload_n 0, 1) := by decide +kernel
theorem dL_areWords_61 : decode cL_areWords 61 = .ok (.iload 4, 2) := by decide +kernel
theorem dL_areWords_63 : decode cL_areWords 63 = .ok (.iconst 2, 1) := by decide +kernel
theorem dL_areWords_64 : decode cL_areWords 64 = .ok (.invokevirtual 57, 3) := by decide +kernel
theorem dL_areWords_67 : decode cL_areWords 67 = .ok (.iconst 1, 1) := by decide +kernel
theorem dL_areWords_68 : decode cL_areWords 68 = .ok (.iload 4, 2) := by decide +kernel
theorem dL_areWords_70 : decode cL_areWords 70 = .ok (.iconst 3, 1) := by decide +kernel
theorem dL_areWords_71 : decode cL_areWords 71 = .ok (.irem, 1) := by decide +kernel
theorem dL_areWords_72 : decode cL_areWords 72 = .ok (.iadd, 1) := by decide +kernel
theorem dL_areWords_73 : decode cL_areWords 73 = .ok (.if_icmp .ne 102, 3) := by decide +kernel
theorem dL_areWords_76 : decode cL_areWords 76 = .ok (.aload_n 0, 1) := by decide +kernel
theorem dL_areWords_77 : decode cL_areWords 77 = .ok (.iload 4, 2) := by decide +kernel
theorem dL_areWords_79 : decode cL_areWords 79 = .ok (.iconst 3, 1) := by decide +kernel
theorem dL_areWords_80 : decode cL_areWords 80 = .ok (.invokevirtual 57, 3) := by decide +kernel
theorem dL_areWords_83 : decode cL_areWords 83 = .ok (.iload 5, 2) := by decide +kernel
theorem dL_areWords_85 : decode cL_areWords 85 = .ok (.ifCond .eq 13, 3) := by decide +kernel
theorem dL_areWords_88 : decode cL_areWords 88 = .ok (.aload_n 1, 1) := by decide +kernel
theorem dL_areWords_89 : decode cL_areWords 89 = .ok (.iload 4, 2) := by decide +kernel
theorem dL_areWords_91 : decode cL_areWords 91 = .ok (.iaload, 1) := by decide +kernel
theorem dL_areWords_92 : decode cL_areWords 92 = .ok (.bipush 32, 2) := by decide +kernel
theorem dL_areWords_94 : decode cL_areWords 94 = .ok (.idiv, 1) := by decide +kernel
theorem dL_areWords_95 : decode cL_areWords 95 = .ok (.goto 4, 3) := by decide +kernel
theorem dL_areWords_98 : decode cL_areWords 98 = .ok (.iconst (-1), 1) := by decide +kernel
theorem dL_areWords_99 : decode cL_areWords 99 = .ok (.if_icmp .ne 76, 3) := by decide +kernel
theorem dL_areWords_102 : decode cL_areWords 102 = .ok (.aload_n 0, 1) := by decide +kernel
theorem dL_areWords_103 : decode cL_areWords 103 = .ok (.iload 4, 2) := by decide +kernel
theorem dL_areWords_105 : decode cL_areWords 105 = .ok (.iconst 4, 1) := by decide +kernel
theorem dL_areWords_106 : decode cL_areWords 106 = .ok (.invokevirtual 57, 3) := by decide +kernel
theorem dL_areWords_109 : decode cL_areWords 109 = .ok (.iload 5, 2) := by decide +kernel
theorem dL_areWords_111 : decode cL_areWords 111 = .ok (.ifCond .eq 15, 3) := by decide +kernel
theorem dL_areWords_114 : decode cL_areWords 114 = .ok (.aload_n 1, 1) := by decide +kernel
theorem dL_areWords_115 : decode cL_areWords 115 = .ok (.iload 4, 2) := by decide +kernel
theorem dL_areWords_117 : decode cL_areWords 117 = .ok (.iaload, 1) := by decide +kernel
theorem dL_areWords_118 : decode cL_areWords 118 = .ok (.bipush 8, 2) := by decide +kernel
theorem dL_areWords_120 : decode cL_areWords 120 = .ok (.idiv, 1) := by decide +kernel
theorem dL_areWords_121 : decode cL_areWords 121 = .ok (.iconst 4, 1) := by decide +kernel
theorem dL_areWords_122 : decode cL_areWords 122 = .ok (.irem, 1) := by decide +kernel
theorem dL_areWords_123 : decode cL_areWords 123 = .ok (.goto 4, 3) := by decide +kernel
theorem dL_areWords_126 : decode cL_areWords 126 = .ok (.iconst (-1), 1) := by decide +kernel
theorem dL_areWords_127 : decode cL_areWords 127 = .ok (.if_icmp .ne 48, 3) := by decide +kernel
theorem dL_areWords_130 : decode cL_areWords 130 = .ok (.aload_n 0, 1) := by decide +kernel
theorem dL_areWords_131 : decode cL_areWords 131 = .ok (.iload 4, 2) := by decide +kernel
theorem dL_areWords_133 : decode cL_areWords 133 = .ok (.iconst 5, 1) := by decide +kernel
theorem dL_areWords_134 : decode cL_areWords 134 = .ok (.invokevirtual 57, 3) := by decide +kernel
theorem dL_areWords_137 : decode cL_areWords 137 = .ok (.iload 5, 2) := by decide +kernel
theorem dL_areWords_139 : decode cL_areWords 139 = .ok (.ifCond .eq 13, 3) := by decide +kernel
theorem dL_areWords_142 : decode cL_areWords 142 = .ok (.aload_n 1, 1) := by decide +kernel
theorem dL_areWords_143 : decode cL_areWords 143 = .ok (.iload 4, 2) := by decide +kernel
theorem dL_areWords_145 : decode cL_areWords 145 = .ok (.iaload, 1) := by decide +kernel
theorem dL_areWords_146 : decode cL_areWords 146 = .ok (.bipush 8, 2) := by decide +kernel
theorem dL_areWords_148 : decode cL_areWords 148 = .ok (.irem, 1) := by decide +kernel
theorem dL_areWords_149 : decode cL_areWords 149 = .ok (.goto 4, 3) := by decide +kernel
theorem dL_areWords_152 : decode cL_areWords 152 = .ok (.iconst (-1), 1) := by decide +kernel
theorem dL_areWords_153 : decode cL_areWords 153 = .ok (.if_icmp .ne 22, 3) := by decide +kernel
theorem dL_areWords_156 : decode cL_areWords 156 = .ok (.aload_n 0, 1) := by decide +kernel
theorem dL_areWords_157 : decode cL_areWords 157 = .ok (.iload 4, 2) := by decide +kernel
theorem dL_areWords_159 : decode cL_areWords 159 = .ok (.bipush 6, 2) := by decide +kernel
theorem dL_areWords_161 : decode cL_areWords 161 = .ok (.invokevirtual 57, 3) := by decide +kernel
theorem dL_areWords_164 : decode cL_areWords 164 = .ok (.aload_n 2, 1) := by decide +kernel
theorem dL_areWords_165 : decode cL_areWords 165 = .ok (.iload 4, 2) := by decide +kernel
theorem dL_areWords_167 : decode cL_areWords 167 = .ok (.iaload, 1) := by decide +kernel
theorem dL_areWords_168 : decode cL_areWords 168 = .ok (.if_icmp .ne 7, 3) := by decide +kernel
theorem dL_areWords_171 : decode cL_areWords 171 = .ok (.iconst 1, 1) := by decide +kernel
theorem dL_areWords_172 : decode cL_areWords 172 = .ok (.goto 4, 3) := by decide +kernel
theorem dL_areWords_175 : decode cL_areWords 175 = .ok (.iconst 0, 1) := by decide +kernel
theorem dL_areWords_176 : decode cL_areWords 176 = .ok (.istore_n 3, 1) := by decide +kernel
theorem dL_areWords_177 : decode cL_areWords 177 = .ok (.iinc 4 1, 3) := by decide +kernel
theorem dL_areWords_180 : decode cL_areWords 180 = .ok (.goto (-175), 3) := by decide +kernel
theorem dL_areWords_183 : decode cL_areWords 183 = .ok (.iload_n 3, 1) := by decide +kernel
theorem dL_areWords_184 : decode cL_areWords 184 = .ok (.ireturn, 1) := by decide +kernel
theorem dL_told_0 : decode cL_told 0 = .ok (.iload_n 0, 1) := by decide +kernel
theorem dL_told_1 : decode cL_told 1 = .ok (.ifCond .ge 7, 3) := by decide +kernel
theorem dL_told_4 : decode cL_told 4 = .ok (.iconst (-1), 1) := by decide +kernel
theorem dL_told_5 : decode cL_told 5 = .ok (.goto 13, 3) := by decide +kernel
theorem dL_told_8 : decode cL_told 8 = .ok (.bipush 10, 2) := by decide +kernel
theorem dL_told_10 : decode cL_told 10 = .ok (.iload_n 0, 1) := by decide +kernel
theorem dL_told_11 : decode cL_told 11 = .ok (.iconst 4, 1) := by decide +kernel
theorem dL_told_12 : decode cL_told 12 = .ok (.idiv, 1) := by decide +kernel
theorem dL_told_13 : decode cL_told 13 = .ok (.imul, 1) := by decide +kernel
theorem dL_told_14 : decode cL_told 14 = .ok (.iload_n 0, 1) := by decide +kernel
theorem dL_told_15 : decode cL_told 15 = .ok (.iconst 4, 1) := by decide +kernel
theorem dL_told_16 : decode cL_told 16 = .ok (.irem, 1) := by decide +kernel
theorem dL_told_17 : decode cL_told 17 = .ok (.iadd, 1) := by decide +kernel
theorem dL_told_18 : decode cL_told 18 = .ok (.ireturn, 1) := by decide +kernel
theorem dL_isLine_0 : decode cL_isLine 0 = .ok (.iload_n 3, 1) := by decide +kernel
theorem dL_isLine_1 : decode cL_isLine 1 = .ok (.iconst 4, 1) := by decide +kernel
theorem dL_isLine_2 : decode cL_isLine 2 = .ok (.idiv, 1) := by decide +kernel
theorem dL_isLine_3 : decode cL_isLine 3 = .ok (.istore 4, 2) := by decide +kernel
theorem dL_isLine_5 : decode cL_isLine 5 = .ok (.iload_n 3, 1) := by decide +kernel
theorem dL_isLine_6 : decode cL_isLine 6 = .ok (.iconst 4, 1) := by decide +kernel
theorem dL_isLine_7 : decode cL_isLine 7 = .ok (.irem, 1) := by decide +kernel
theorem dL_isLine_8 : decode cL_isLine 8 = .ok (.istore 5, 2) := by decide +kernel
theorem dL_isLine_10 : decode cL_isLine 10 = .ok (.iconst (-1), 1) := by decide +kernel
theorem dL_isLine_11 : decode cL_isLine 11 = .ok (.istore 6, 2) := by decide +kernel
theorem dL_isLine_13 : decode cL_isLine 13 = .ok (.iconst 1, 1) := by decide +kernel
theorem dL_isLine_14 : decode cL_isLine 14 = .ok (.istore 7, 2) := by decide +kernel
theorem dL_isLine_16 : decode cL_isLine 16 = .ok (.iconst 0, 1) := by decide +kernel
theorem dL_isLine_17 : decode cL_isLine 17 = .ok (.istore 8, 2) := by decide +kernel
theorem dL_isLine_19 : decode cL_isLine 19 = .ok (.iload 8, 2) := by decide +kernel
theorem dL_isLine_21 : decode cL_isLine 21 = .ok (.bipush 16, 2) := by decide +kernel
theorem dL_isLine_23 : decode cL_isLine 23 = .ok (.if_icmp .ge 26, 3) := by decide +kernel
theorem dL_isLine_26 : decode cL_isLine 26 = .ok (.aload_n 2, 1) := by decide +kernel
theorem dL_isLine_27 : decode cL_isLine 27 = .ok (.iload 8, 2) := by decide +kernel
theorem dL_isLine_29 : decode cL_isLine 29 = .ok (.iaload, 1) := by decide +kernel
theorem dL_isLine_30 : decode cL_isLine 30 = .ok (.iload_n 3, 1) := by decide +kernel
theorem dL_isLine_31 : decode cL_isLine 31 = .ok (.if_icmp .ne 8, 3) := by decide +kernel
theorem dL_isLine_34 : decode cL_isLine 34 = .ok (.iload 8, 2) := by decide +kernel
theorem dL_isLine_36 : decode cL_isLine 36 = .ok (.goto 5, 3) := by decide +kernel
theorem dL_isLine_39 : decode cL_isLine 39 = .ok (.iload 6, 2) := by decide +kernel
theorem dL_isLine_41 : decode cL_isLine 41 = .ok (.istore 6, 2) := by decide +kernel
theorem dL_isLine_43 : decode cL_isLine 43 = .ok (.iinc 8 1, 3) := by decide +kernel
theorem dL_isLine_46 : decode cL_isLine 46 = .ok (.goto (-27), 3) := by decide +kernel
theorem dL_isLine_49 : decode cL_isLine 49 = .ok (.iconst 1, 1) := by decide +kernel
theorem dL_isLine_50 : decode cL_isLine 50 = .ok (.istore 8, 2) := by decide +kernel
theorem dL_isLine_52 : decode cL_isLine 52 = .ok (.iconst 0, 1) := by decide +kernel
theorem dL_isLine_53 : decode cL_isLine 53 = .ok (.istore 9, 2) := by decide +kernel
theorem dL_isLine_55 : decode cL_isLine 55 = .ok (.iload 9, 2) := by decide +kernel
theorem dL_isLine_57 : decode cL_isLine 57 = .ok (.bipush 6, 2) := by decide +kernel
theorem dL_isLine_59 : decode cL_isLine 59 = .ok (.if_icmp .ge 93, 3) := by decide +kernel
theorem dL_isLine_62 : decode cL_isLine 62 = .ok (.aload_n 1, 1) := by decide +kernel
theorem dL_isLine_63 : decode cL_isLine 63 = .ok (.iload_n 3, 1) := by decide +kernel
theorem dL_isLine_64 : decode cL_isLine 64 = .ok (.iload 9, 2) := by decide +kernel
theorem dL_isLine_66 : decode cL_isLine 66 = .ok (.invokestatic 19, 3) := by decide +kernel
theorem dL_isLine_69 : decode cL_isLine 69 = .ok (.istore 10, 2) := by decide +kernel
theorem dL_isLine_71 : decode cL_isLine 71 = .ok (.aload_n 1, 1) := by decide +kernel
theorem dL_isLine_72 : decode cL_isLine 72 = .ok (.iload_n 3, 1) := by decide +kernel
theorem dL_isLine_73 : decode cL_isLine 73 = .ok (.iload 9, 2) := by decide +kernel
theorem dL_isLine_75 : decode cL_isLine 75 = .ok (.iconst 1, 1) := by decide +kernel
theorem dL_isLine_76 : decode cL_isLine 76 = .ok (.iadd, 1) := by decide +kernel
theorem dL_isLine_77 : decode cL_isLine 77 = .ok (.invokestatic 19, 3) := by decide +kernel
theorem dL_isLine_80 : decode cL_isLine 80 = .ok (.istore 11, 2) := by decide +kernel
theorem dL_isLine_82 : decode cL_isLine 82 = .ok (.iload 10, 2) := by decide +kernel
theorem dL_isLine_84 : decode cL_isLine 84 = .ok (.ifCond .lt 31, 3) := by decide +kernel
theorem dL_isLine_87 : decode cL_isLine 87 = .ok (.iload 11, 2) := by decide +kernel
theorem dL_isLine_89 : decode cL_isLine 89 = .ok (.ifCond .lt 26, 3) := by decide +kernel
theorem dL_isLine_92 : decode cL_isLine 92 = .ok (.iload 10, 2) := by decide +kernel
theorem dL_isLine_94 : decode cL_isLine 94 = .ok (.iconst 4, 1) := by decide +kernel
theorem dL_isLine_95 : decode cL_isLine 95 = .ok (.irem, 1) := by decide +kernel
theorem dL_isLine_96 : decode cL_isLine 96 = .ok (.iload 11, 2) := by decide +kernel
theorem dL_isLine_98 : decode cL_isLine 98 = .ok (.iconst 4, 1) := by decide +kernel
theorem dL_isLine_99 : decode cL_isLine 99 = .ok (.irem, 1) := by decide +kernel
theorem dL_isLine_100 : decode cL_isLine 100 = .ok (.if_icmp .ne 15, 3) := by decide +kernel
theorem dL_isLine_103 : decode cL_isLine 103 = .ok (.iload 10, 2) := by decide +kernel
theorem dL_isLine_105 : decode cL_isLine 105 = .ok (.iconst 4, 1) := by decide +kernel
theorem dL_isLine_106 : decode cL_isLine 106 = .ok (.irem, 1) := by decide +kernel
theorem dL_isLine_107 : decode cL_isLine 107 = .ok (.iconst 2, 1) := by decide +kernel
theorem dL_isLine_108 : decode cL_isLine 108 = .ok (.if_icmp .eq 7, 3) := by decide +kernel
theorem dL_isLine_111 : decode cL_isLine 111 = .ok (.iconst 0, 1) := by decide +kernel
theorem dL_isLine_112 : decode cL_isLine 112 = .ok (.goto 5, 3) := by decide +kernel
theorem dL_isLine_115 : decode cL_isLine 115 = .ok (.iload 7, 2) := by decide +kernel
theorem dL_isLine_117 : decode cL_isLine 117 = .ok (.istore 7, 2) := by decide +kernel
theorem dL_isLine_119 : decode cL_isLine 119 = .ok (.iload 8, 2) := by decide +kernel
theorem dL_isLine_121 : decode cL_isLine 121 = .ok (.ifCond .eq 22, 3) := by decide +kernel
theorem dL_isLine_124 : decode cL_isLine 124 = .ok (.aload_n 0, 1) := by decide +kernel
theorem dL_isLine_125 : decode cL_isLine 125 = .ok (.iload 4, 2) := by decide +kernel
theorem dL_isLine_127 : decode cL_isLine 127 = .ok (.iload 5, 2) := by decide +kernel
theorem dL_isLine_129 : decode cL_isLine 129 = .ok (.iload 9, 2) := by decide +kernel
theorem dL_isLine_131 : decode cL_isLine 131 = .ok (.invokevirtual 63, 3) := by decide +kernel
theorem dL_isLine_134 : decode cL_isLine 134 = .ok (.iload 10, 2) := by decide +kernel
theorem dL_isLine_136 : decode cL_isLine 136 = .ok (.if_icmp .ne 7, 3) := by decide +kernel
theorem dL_isLine_139 : decode cL_isLine 139 = .ok (.iconst 1, 1) := by decide +kernel
theorem dL_isLine_140 : decode cL_isLine 140 = .ok (.goto 4, 3) := by decide +kernel
theorem dL_isLine_143 : decode cL_isLine 143 = .ok (.iconst 0, 1) := by decide +kernel
theorem dL_isLine_144 : decode cL_isLine 144 = .ok (.istore 8, 2) := by decide +kernel
theorem dL_isLine_146 : decode cL_isLine 146 = .ok (.iinc 9 1, 3) := by decide +kernel
theorem dL_isLine_149 : decode cL_isLine 149 = .ok (.goto (-94), 3) := by decide +kernel
theorem dL_isLine_152 : decode cL_isLine 152 = .ok (.iload 8, 2) := by decide +kernel
theorem dL_isLine_154 : decode cL_isLine 154 = .ok (.ifCond .eq 76, 3) := by decide +kernel
theorem dL_isLine_157 : decode cL_isLine 157 = .ok (.aload_n 0, 1) := by decide +kernel
theorem dL_isLine_158 : decode cL_isLine 158 = .ok (.iload 4, 2) := by decide +kernel
theorem dL_isLine_160 : decode cL_isLine 160 = .ok (.iload 5, 2) := by decide +kernel
theorem dL_isLine_162 : decode cL_isLine 162 = .ok (.iconst 0, 1) := by decide +kernel
theorem dL_isLine_163 : decode cL_isLine 163 = .ok (.invokevirtual 67, 3) := by decide +kernel
theorem dL_isLine_166 : decode cL_isLine 166 = .ok (.aload_n 1, 1) := by decide +kernel
theorem dL_isLine_167 : decode cL_isLine 167 = .ok (.iload_n 3, 1) := by decide +kernel
theorem dL_isLine_168 : decode cL_isLine 168 = .ok (.invokestatic 15, 3) := by decide +kernel
theorem dL_isLine_171 : decode cL_isLine 171 = .ok (.if_icmp .ne 59, 3) := by decide +kernel
theorem dL_isLine_174 : decode cL_isLine 174 = .ok (.aload_n 0, 1) := by decide +kernel
theorem dL_isLine_175 : decode cL_isLine 175 = .ok (.iload 4, 2) := by decide +kernel
theorem dL_isLine_177 : decode cL_isLine 177 = .ok (.iload 5, 2) := by decide +kernel
theorem dL_isLine_179 : decode cL_isLine 179 = .ok (.iconst 1, 1) := by decide +kernel
theorem dL_isLine_180 : decode cL_isLine 180 = .ok (.invokevirtual 67, 3) := by decide +kernel
theorem dL_isLine_183 : decode cL_isLine 183 = .ok (.aload_n 1, 1) := by decide +kernel
theorem dL_isLine_184 : decode cL_isLine 184 = .ok (.iload_n 3, 1) := by decide +kernel
theorem dL_isLine_185 : decode cL_isLine 185 = .ok (.invokestatic 30, 3) := by decide +kernel
theorem dL_isLine_188 : decode cL_isLine 188 = .ok (.if_icmp .ne 42, 3) := by decide +kernel
theorem dL_isLine_191 : decode cL_isLine 191 = .ok (.aload_n 0, 1) := by decide +kernel
theorem dL_isLine_192 : decode cL_isLine 192 = .ok (.iload 4, 2) := by decide +kernel
theorem dL_isLine_194 : decode cL_isLine 194 = .ok (.iload 5, 2) := by decide +kernel
theorem dL_isLine_196 : decode cL_isLine 196 = .ok (.iconst 2, 1) := by decide +kernel
theorem dL_isLine_197 : decode cL_isLine 197 = .ok (.invokevirtual 67, 3) := by decide +kernel
theorem dL_isLine_200 : decode cL_isLine 200 = .ok (.aload_n 1, 1) := by decide +kernel
theorem dL_isLine_201 : decode cL_isLine 201 = .ok (.iload_n 3, 1) := by decide +kernel
theorem dL_isLine_202 : decode cL_isLine 202 = .ok (.invokestatic 37, 3) := by decide +kernel
theorem dL_isLine_205 : decode cL_isLine 205 = .ok (.if_icmp .ne 25, 3) := by decide +kernel
theorem dL_isLine_208 : decode cL_isLine 208 = .ok (.aload_n 0, 1) := by decide +kernel
theorem dL_isLine_209 : decode cL_isLine 209 = .ok (.iload 4, 2) := by decide +kernel
theorem dL_isLine_211 : decode cL_isLine 211 = .ok (.iload 5, 2) := by decide +kernel
theorem dL_isLine_213 : decode cL_isLine 213 = .ok (.iconst 3, 1) := by decide +kernel
theorem dL_isLine_214 : decode cL_isLine 214 = .ok (.invokevirtual 67, 3) := by decide +kernel
theorem dL_isLine_217 : decode cL_isLine 217 = .ok (.aload_n 1, 1) := by decide +kernel
theorem dL_isLine_218 : decode cL_isLine 218 = .ok (.aload_n 2, 1) := by decide +kernel
theorem dL_isLine_219 : decode cL_isLine 219 = .ok (.iload_n 3, 1) := by decide +kernel
theorem dL_isLine_220 : decode cL_isLine 220 = .ok (.invokestatic 33, 3) := by decide +kernel
theorem dL_isLine_223 : decode cL_isLine 223 = .ok (.if_icmp .ne 7, 3) := by decide +kernel
theorem dL_isLine_226 : decode cL_isLine 226 = .ok (.iconst 1, 1) := by decide +kernel
theorem dL_isLine_227 : decode cL_isLine 227 = .ok (.goto 4, 3) := by decide +kernel
theorem dL_isLine_230 : decode cL_isLine 230 = .ok (.iconst 0, 1) := by decide +kernel
theorem dL_isLine_231 : decode cL_isLine 231 = .ok (.istore 8, 2) := by decide +kernel
theorem dL_isLine_233 : decode cL_isLine 233 = .ok (.iload 8, 2) := by decide +kernel
theorem dL_isLine_235 : decode cL_isLine 235 = .ok (.ifCond .eq 76, 3) := by decide +kernel
theorem dL_isLine_238 : decode cL_isLine 238 = .ok (.aload_n 0, 1) := by decide +kernel
theorem dL_isLine_239 : decode cL_isLine 239 = .ok (.iload 4, 2) := by decide +kernel
theorem dL_isLine_241 : decode cL_isLine 241 = .ok (.iload 5, 2) := by decide +kernel
theorem dL_isLine_243 : decode cL_isLine 243 = .ok (.iconst 4, 1) := by decide +kernel
theorem dL_isLine_244 : decode cL_isLine 244 = .ok (.invokevirtual 67, 3) := by decide +kernel
theorem dL_isLine_247 : decode cL_isLine 247 = .ok (.aload_n 2, 1) := by decide +kernel
theorem dL_isLine_248 : decode cL_isLine 248 = .ok (.iload_n 3, 1) := by decide +kernel
theorem dL_isLine_249 : decode cL_isLine 249 = .ok (.iaload, 1) := by decide +kernel
theorem dL_isLine_250 : decode cL_isLine 250 = .ok (.invokestatic 70, 3) := by decide +kernel
theorem dL_isLine_253 : decode cL_isLine 253 = .ok (.if_icmp .ne 58, 3) := by decide +kernel
theorem dL_isLine_256 : decode cL_isLine 256 = .ok (.aload_n 0, 1) := by decide +kernel
theorem dL_isLine_257 : decode cL_isLine 257 = .ok (.iload 4, 2) := by decide +kernel
theorem dL_isLine_259 : decode cL_isLine 259 = .ok (.iload 5, 2) := by decide +kernel
theorem dL_isLine_261 : decode cL_isLine 261 = .ok (.iconst 5, 1) := by decide +kernel
theorem dL_isLine_262 : decode cL_isLine 262 = .ok (.invokevirtual 67, 3) := by decide +kernel
theorem dL_isLine_265 : decode cL_isLine 265 = .ok (.iload 6, 2) := by decide +kernel
theorem dL_isLine_267 : decode cL_isLine 267 = .ok (.invokestatic 70, 3) := by decide +kernel
theorem dL_isLine_270 : decode cL_isLine 270 = .ok (.if_icmp .ne 41, 3) := by decide +kernel
theorem dL_isLine_273 : decode cL_isLine 273 = .ok (.aload_n 0, 1) := by decide +kernel
theorem dL_isLine_274 : decode cL_isLine 274 = .ok (.iload 4, 2) := by decide +kernel
theorem dL_isLine_276 : decode cL_isLine 276 = .ok (.iload 5, 2) := by decide +kernel
theorem dL_isLine_278 : decode cL_isLine 278 = .ok (.bipush 6, 2) := by decide +kernel
theorem dL_isLine_280 : decode cL_isLine 280 = .ok (.invokevirtual 67, 3) := by decide +kernel
theorem dL_isLine_283 : decode cL_isLine 283 = .ok (.aload_n 1, 1) := by decide +kernel
theorem dL_isLine_284 : decode cL_isLine 284 = .ok (.aload_n 2, 1) := by decide +kernel
theorem dL_isLine_285 : decode cL_isLine 285 = .ok (.iload_n 3, 1) := by decide +kernel
theorem dL_isLine_286 : decode cL_isLine 286 = .ok (.invokestatic 40, 3) := by decide +kernel
theorem dL_isLine_289 : decode cL_isLine 289 = .ok (.if_icmp .ne 22, 3) := by decide +kernel
theorem dL_isLine_292 : decode cL_isLine 292 = .ok (.aload_n 0, 1) := by decide +kernel
theorem dL_isLine_293 : decode cL_isLine 293 = .ok (.iload 4, 2) := by decide +kernel
theorem dL_isLine_295 : decode cL_isLine 295 = .ok (.iload 5, 2) := by decide +kernel
theorem dL_isLine_297 : decode cL_isLine 297 = .ok (.bipush 7, 2) := by decide +kernel
theorem dL_isLine_299 : decode cL_isLine 299 = .ok (.invokevirtual 67, 3) := by decide +kernel
theorem dL_isLine_302 : decode cL_isLine 302 = .ok (.iload 7, 2) := by decide +kernel
theorem dL_isLine_304 : decode cL_isLine 304 = .ok (.if_icmp .ne 7, 3) := by decide +kernel
theorem dL_isLine_307 : decode cL_isLine 307 = .ok (.iconst 1, 1) := by decide +kernel
theorem dL_isLine_308 : decode cL_isLine 308 = .ok (.goto 4, 3) := by decide +kernel
theorem dL_isLine_311 : decode cL_isLine 311 = .ok (.iconst 0, 1) := by decide +kernel
theorem dL_isLine_312 : decode cL_isLine 312 = .ok (.ireturn, 1) := by decide +kernel
theorem dL_areDoors_0 : decode cL_areDoors 0 = .ok (.iconst 0, 1) := by decide +kernel
theorem dL_areDoors_1 : decode cL_areDoors 1 = .ok (.istore 4, 2) := by decide +kernel
theorem dL_areDoors_3 : decode cL_areDoors 3 = .ok (.iconst 0, 1) := by decide +kernel
theorem dL_areDoors_4 : decode cL_areDoors 4 = .ok (.istore 5, 2) := by decide +kernel
theorem dL_areDoors_6 : decode cL_areDoors 6 = .ok (.iconst 0, 1) := by decide +kernel
theorem dL_areDoors_7 : decode cL_areDoors 7 = .ok (.istore 6, 2) := by decide +kernel
theorem dL_areDoors_9 : decode cL_areDoors 9 = .ok (.iconst 0, 1) := by decide +kernel
theorem dL_areDoors_10 : decode cL_areDoors 10 = .ok (.istore 7, 2) := by decide +kernel
theorem dL_areDoors_12 : decode cL_areDoors 12 = .ok (.iconst 1, 1) := by decide +kernel
theorem dL_areDoors_13 : decode cL_areDoors 13 = .ok (.istore 8, 2) := by decide +kernel
theorem dL_areDoors_15 : decode cL_areDoors 15 = .ok (.iconst 0, 1) := by decide +kernel
theorem dL_areDoors_16 : decode cL_areDoors 16 = .ok (.istore 9, 2) := by decide +kernel
theorem dL_areDoors_18 : decode cL_areDoors 18 = .ok (.iload 9, 2) := by decide +kernel
theorem dL_areDoors_20 : decode cL_areDoors 20 = .ok (.bipush 16, 2) := by decide +kernel
theorem dL_areDoors_22 : decode cL_areDoors 22 = .ok (.if_icmp .ge 41, 3) := by decide +kernel
theorem dL_areDoors_25 : decode cL_areDoors 25 = .ok (.iload 8, 2) := by decide +kernel
theorem dL_areDoors_27 : decode cL_areDoors 27 = .ok (.ifCond .eq 36, 3) := by decide +kernel
theorem dL_areDoors_30 : decode cL_areDoors 30 = .ok (.aload_n 0, 1) := by decide +kernel
theorem dL_areDoors_31 : decode cL_areDoors 31 = .ok (.aload_n 1, 1) := by decide +kernel
theorem dL_areDoors_32 : decode cL_areDoors 32 = .ok (.aload_n 2, 1) := by decide +kernel
theorem dL_areDoors_33 : decode cL_areDoors 33 = .ok (.iload 9, 2) := by decide +kernel
theorem dL_areDoors_35 : decode cL_areDoors 35 = .ok (.invokestatic 74, 3) := by decide +kernel
theorem dL_areDoors_38 : decode cL_areDoors 38 = .ok (.istore 8, 2) := by decide +kernel
theorem dL_areDoors_40 : decode cL_areDoors 40 = .ok (.iload 7, 2) := by decide +kernel
theorem dL_areDoors_42 : decode cL_areDoors 42 = .ok (.aload_n 2, 1) := by decide +kernel
theorem dL_areDoors_43 : decode cL_areDoors 43 = .ok (.iload 9, 2) := by decide +kernel
theorem dL_areDoors_45 : decode cL_areDoors 45 = .ok (.iaload, 1) := by decide +kernel
theorem dL_areDoors_46 : decode cL_areDoors 46 = .ok (.ifCond .ge 7, 3) := by decide +kernel
theorem dL_areDoors_49 : decode cL_areDoors 49 = .ok (.iconst 0, 1) := by decide +kernel
theorem dL_areDoors_50 : decode cL_areDoors 50 = .ok (.goto 4, 3) := by decide +kernel
theorem dL_areDoors_53 : decode cL_areDoors 53 = .ok (.iconst 1, 1) := by decide +kernel
theorem dL_areDoors_54 : decode cL_areDoors 54 = .ok (.iadd, 1) := by decide +kernel
theorem dL_areDoors_55 : decode cL_areDoors 55 = .ok (.istore 7, 2) := by decide +kernel
theorem dL_areDoors_57 : decode cL_areDoors 57 = .ok (.iinc 9 1, 3) := by decide +kernel
theorem dL_areDoors_60 : decode cL_areDoors 60 = .ok (.goto (-42), 3) := by decide +kernel
theorem dL_areDoors_63 : decode cL_areDoors 63 = .ok (.iconst 0, 1) := by decide +kernel
theorem dL_areDoors_64 : decode cL_areDoors 64 = .ok (.istore 9, 2) := by decide +kernel
theorem dL_areDoors_66 : decode cL_areDoors 66 = .ok (.iload 9, 2) := by decide +kernel
theorem dL_areDoors_68 : decode cL_areDoors 68 = .ok (.iconst 4, 1) := by decide +kernel
theorem dL_areDoors_69 : decode cL_areDoors 69 = .ok (.if_icmp .ge 175, 3) := by decide +kernel
theorem dL_areDoors_72 : decode cL_areDoors 72 = .ok (.iload 8, 2) := by decide +kernel
theorem dL_areDoors_74 : decode cL_areDoors 74 = .ok (.ifCond .eq 170, 3) := by decide +kernel
theorem dL_areDoors_77 : decode cL_areDoors 77 = .ok (.iconst 0, 1) := by decide +kernel
theorem dL_areDoors_78 : decode cL_areDoors 78 = .ok (.istore 10, 2) := by decide +kernel
theorem dL_areDoors_80 : decode cL_areDoors 80 = .ok (.iconst 4, 1) := by decide +kernel
theorem dL_areDoors_81 : decode cL_areDoors 81 = .ok (.iload 9, 2) := by decide +kernel
theorem dL_areDoors_83 : decode cL_areDoors 83 = .ok (.imul, 1) := by decide +kernel
theorem dL_areDoors_84 : decode cL_areDoors 84 = .ok (.istore 11, 2) := by decide +kernel
theorem dL_areDoors_86 : decode cL_areDoors 86 = .ok (.iload 11, 2) := by decide +kernel
theorem dL_areDoors_88 : decode cL_areDoors 88 = .ok (.iconst 4, 1) := by decide +kernel
theorem dL_areDoors_89 : decode cL_areDoors 89 = .ok (.iload 9, 2) := by decide +kernel
theorem dL_areDoors_91 : decode cL_areDoors 91 = .ok (.imul, 1) := by decide +kernel
theorem dL_areDoors_92 : decode cL_areDoors 92 = .ok (.iconst 4, 1) := by decide +kernel
theorem dL_areDoors_93 : decode cL_areDoors 93 = .ok (.iadd, 1) := by decide +kernel
theorem dL_areDoors_94 : decode cL_areDoors 94 = .ok (.if_icmp .ge 21, 3) := by decide +kernel
theorem dL_areDoors_97 : decode cL_areDoors 97 = .ok (.iload 10, 2) := by decide +kernel
theorem dL_areDoors_99 : decode cL_areDoors 99 = .ok (.aload_n 1, 1) := by decide +kernel
theorem dL_areDoors_100 : decode cL_areDoors 100 = .ok (.aload_n 2, 1) := by decide +kernel
theorem dL_areDoors_101 : decode cL_areDoors 101 = .ok (.iload 11, 2) := by decide +kernel
theorem dL_areDoors_103 : decode cL_areDoors 103 = .ok (.invokestatic 40, 3) := by decide +kernel
theorem dL_areDoors_106 : decode cL_areDoors 106 = .ok (.iadd, 1) := by decide +kernel
theorem dL_areDoors_107 : decode cL_areDoors 107 = .ok (.istore 10, 2) := by decide +kernel
theorem dL_areDoors_109 : decode cL_areDoors 109 = .ok (.iinc 11 1, 3) := by decide +kernel
theorem dL_areDoors_112 : decode cL_areDoors 112 = .ok (.goto (-26), 3) := by decide +kernel
theorem dL_areDoors_115 : decode cL_areDoors 115 = .ok (.iload 4, 2) := by decide +kernel
theorem dL_areDoors_117 : decode cL_areDoors 117 = .ok (.aload_n 1, 1) := by decide +kernel
theorem dL_areDoors_118 : decode cL_areDoors 118 = .ok (.aload_n 2, 1) := by decide +kernel
theorem dL_areDoors_119 : decode cL_areDoors 119 = .ok (.iload 9, 2) := by decide +kernel
theorem dL_areDoors_121 : decode cL_areDoors 121 = .ok (.invokestatic 46, 3) := by decide +kernel
theorem dL_areDoors_124 : decode cL_areDoors 124 = .ok (.iadd, 1) := by decide +kernel
theorem dL_areDoors_125 : decode cL_areDoors 125 = .ok (.istore 4, 2) := by decide +kernel
theorem dL_areDoors_127 : decode cL_areDoors 127 = .ok (.iload 5, 2) := by decide +kernel
theorem dL_areDoors_129 : decode cL_areDoors 129 = .ok (.aload_n 1, 1) := by decide +kernel
theorem dL_areDoors_130 : decode cL_areDoors 130 = .ok (.iload 9, 2) := by decide +kernel
theorem dL_areDoors_132 : decode cL_areDoors 132 = .ok (.invokestatic 43, 3) := by decide +kernel
theorem dL_areDoors_135 : decode cL_areDoors 135 = .ok (.iadd, 1) := by decide +kernel
theorem dL_areDoors_136 : decode cL_areDoors 136 = .ok (.istore 5, 2) := by decide +kernel
theorem dL_areDoors_138 : decode cL_areDoors 138 = .ok (.iload 6, 2) := by decide +kernel
theorem dL_areDoors_140 : decode cL_areDoors 140 = .ok (.aload_n 3, 1) := by decide +kernel
theorem dL_areDoors_141 : decode cL_areDoors 141 = .ok (.bipush 10, 2) := by decide +kernel
theorem dL_areDoors_143 : decode cL_areDoors 143 = .ok (.iload 9, 2) := by decide +kernel
theorem dL_areDoors_145 : decode cL_areDoors 145 = .ok (.iadd, 1) := by decide +kernel
theorem dL_areDoors_146 : decode cL_areDoors 146 = .ok (.iaload, 1) := by decide +kernel
theorem dL_areDoors_147 : decode cL_areDoors 147 = .ok (.iadd, 1) := by decide +kernel
theorem dL_areDoors_148 : decode cL_areDoors 148 = .ok (.istore 6, 2) := by decide +kernel
theorem dL_areDoors_150 : decode cL_areDoors 150 = .ok (.aload_n 0, 1) := by decide +kernel
theorem dL_areDoors_151 : decode cL_areDoors 151 = .ok (.iload 9, 2) := by decide +kernel
theorem dL_areDoors_153 : decode cL_areDoors 153 = .ok (.iconst 0, 1) := by decide +kernel
theorem dL_areDoors_154 : decode cL_areDoors 154 = .ok (.invokevirtual 78, 3) := by decide +kernel
theorem dL_areDoors_157 : decode cL_areDoors 157 = .ok (.aload_n 1, 1) := by decide +kernel
theorem dL_areDoors_158 : decode cL_areDoors 158 = .ok (.aload_n 2, 1) := by decide +kernel
theorem dL_areDoors_159 : decode cL_areDoors 159 = .ok (.iload 9, 2) := by decide +kernel
theorem dL_areDoors_161 : decode cL_areDoors 161 = .ok (.invokestatic 46, 3) := by decide +kernel
theorem dL_areDoors_164 : decode cL_areDoors 164 = .ok (.if_icmp .ne 71, 3) := by decide +kernel
theorem dL_areDoors_167 : decode cL_areDoors 167 = .ok (.aload_n 0, 1) := by decide +kernel
theorem dL_areDoors_168 : decode cL_areDoors 168 = .ok (.iload 9, 2) := by decide +kernel

theorem dX4_lineWorth_10 : decode cX4_lineWorth 10 = .ok (.invokevirtual 88, 3) := by decide +kernel
theorem dX4_lineWorth_13 : decode cX4_lineWorth 13 = .ok (.ifCond .eq 16, 3) := by decide +kernel
theorem dX4_lineWorth_16 : decode cX4_lineWorth 16 = .ok (.aload_n 0, 1) := by decide +kernel
theorem dX4_lineWorth_17 : decode cX4_lineWorth 17 = .ok (.iload_n 1, 1) := by decide +kernel
theorem dX4_lineWorth_18 : decode cX4_lineWorth 18 = .ok (.iconst 1, 1) := by decide +kernel
theorem dX4_lineWorth_19 : decode cX4_lineWorth 19 = .ok (.invokevirtual 88, 3) := by decide +kernel
theorem dX4_lineWorth_22 : decode cX4_lineWorth 22 = .ok (.ifCond .eq 7, 3) := by decide +kernel
theorem dX4_lineWorth_25 : decode cX4_lineWorth 25 = .ok (.iconst 5, 1) := by decide +kernel
theorem dX4_lineWorth_26 : decode cX4_lineWorth 26 = .ok (.goto 4, 3) := by decide +kernel
theorem dX4_lineWorth_29 : decode cX4_lineWorth 29 = .ok (.iconst 0, 1) := by decide +kernel
theorem dX4_lineWorth_30 : decode cX4_lineWorth 30 = .ok (.iadd, 1) := by decide +kernel
theorem dX4_lineWorth_31 : decode cX4_lineWorth 31 = .ok (.istore_n 3, 1) := by decide +kernel
theorem dX4_lineWorth_32 : decode cX4_lineWorth 32 = .ok (.iload_n 3, 1) := by decide +kernel
theorem dX4_lineWorth_33 : decode cX4_lineWorth 33 = .ok (.iload_n 2, 1) := by decide +kernel
theorem dX4_lineWorth_34 : decode cX4_lineWorth 34 = .ok (.bipush 8, 2) := by decide +kernel
theorem dX4_lineWorth_36 : decode cX4_lineWorth 36 = .ok (.if_icmp .ne 7, 3) := by decide +kernel
theorem dX4_lineWorth_39 : decode cX4_lineWorth 39 = .ok (.iconst 3, 1) := by decide +kernel
theorem dX4_lineWorth_40 : decode cX4_lineWorth 40 = .ok (.goto 4, 3) := by decide +kernel
theorem dX4_lineWorth_43 : decode cX4_lineWorth 43 = .ok (.iconst 0, 1) := by decide +kernel
theorem dX4_lineWorth_44 : decode cX4_lineWorth 44 = .ok (.iadd, 1) := by decide +kernel
theorem dX4_lineWorth_45 : decode cX4_lineWorth 45 = .ok (.ireturn, 1) := by decide +kernel
theorem dX4_lineEnding_0 : decode cX4_lineEnding 0 = .ok (.aload_n 0, 1) := by decide +kernel
theorem dX4_lineEnding_1 : decode cX4_lineEnding 1 = .ok (.getfield 7, 3) := by decide +kernel
theorem dX4_lineEnding_4 : decode cX4_lineEnding 4 = .ok (.iconst 0, 1) := by decide +kernel
theorem dX4_lineEnding_5 : decode cX4_lineEnding 5 = .ok (.iload_n 1, 1) := by decide +kernel
theorem dX4_lineEnding_6 : decode cX4_lineEnding 6 = .ok (.iadd, 1) := by decide +kernel
theorem dX4_lineEnding_7 : decode cX4_lineEnding 7 = .ok (.iaload, 1) := by decide +kernel
theorem dX4_lineEnding_8 : decode cX4_lineEnding 8 = .ok (.ifCond .ne 5, 3) := by decide +kernel
theorem dX4_lineEnding_11 : decode cX4_lineEnding 11 = .ok (.iconst (-1), 1) := by decide +kernel
theorem dX4_lineEnding_12 : decode cX4_lineEnding 12 = .ok (.ireturn, 1) := by decide +kernel
theorem dX4_lineEnding_13 : decode cX4_lineEnding 13 = .ok (.aload_n 0, 1) := by decide +kernel
theorem dX4_lineEnding_14 : decode cX4_lineEnding 14 = .ok (.aload_n 0, 1) := by decide +kernel
theorem dX4_lineEnding_15 : decode cX4_lineEnding 15 = .ok (.getfield 7, 3) := by decide +kernel
theorem dX4_lineEnding_18 : decode cX4_lineEnding 18 = .ok (.bipush 112, 2) := by decide +kernel
theorem dX4_lineEnding_20 : decode cX4_lineEnding 20 = .ok (.iload_n 1, 1) := by decide +kernel
theorem dX4_lineEnding_21 : decode cX4_lineEnding 21 = .ok (.iadd, 1) := by decide +kernel
theorem dX4_lineEnding_22 : decode cX4_lineEnding 22 = .ok (.iaload, 1) := by decide +kernel
theorem dX4_lineEnding_23 : decode cX4_lineEnding 23 = .ok (.ifCond .le 17, 3) := by decide +kernel
theorem dX4_lineEnding_26 : decode cX4_lineEnding 26 = .ok (.aload_n 0, 1) := by decide +kernel
theorem dX4_lineEnding_27 : decode cX4_lineEnding 27 = .ok (.getfield 7, 3) := by decide +kernel
theorem dX4_lineEnding_30 : decode cX4_lineEnding 30 = .ok (.bipush 112, 2) := by decide +kernel
theorem dX4_lineEnding_32 : decode cX4_lineEnding 32 = .ok (.iload_n 1, 1) := by decide +kernel
theorem dX4_lineEnding_33 : decode cX4_lineEnding 33 = .ok (.iadd, 1) := by decide +kernel
theorem dX4_lineEnding_34 : decode cX4_lineEnding 34 = .ok (.iaload, 1) := by decide +kernel
theorem dX4_lineEnding_35 : decode cX4_lineEnding 35 = .ok (.iconst 1, 1) := by decide +kernel
theorem dX4_lineEnding_36 : decode cX4_lineEnding 36 = .ok (.isub, 1) := by decide +kernel
theorem dX4_lineEnding_37 : decode cX4_lineEnding 37 = .ok (.goto 4, 3) := by decide +kernel
theorem dX4_lineEnding_40 : decode cX4_lineEnding 40 = .ok (.iload_n 1, 1) := by decide +kernel
theorem dX4_lineEnding_41 : decode cX4_lineEnding 41 = .ok (.invokevirtual 61, 3) := by decide +kernel
theorem dX4_lineEnding_44 : decode cX4_lineEnding 44 = .ok (.invokestatic 91, 3) := by decide +kernel
theorem dX4_lineEnding_47 : decode cX4_lineEnding 47 = .ok (.ireturn, 1) := by decide +kernel
theorem dX4_rhymes_0 : decode cX4_rhymes 0 = .ok (.iconst 0, 1) := by decide +kernel
theorem dX4_rhymes_1 : decode cX4_rhymes 1 = .ok (.istore_n 2, 1) := by decide +kernel
theorem dX4_rhymes_2 : decode cX4_rhymes 2 = .ok (.iload_n 1, 1) := by decide +kernel
theorem dX4_rhymes_3 : decode cX4_rhymes 3 = .ok (.iconst 4, 1) := by decide +kernel
theorem dX4_rhymes_4 : decode cX4_rhymes 4 = .ok (.idiv, 1) := by decide +kernel
theorem dX4_rhymes_5 : decode cX4_rhymes 5 = .ok (.iconst 4, 1) := by decide +kernel
theorem dX4_rhymes_6 : decode cX4_rhymes 6 = .ok (.imul, 1) := by decide +kernel
theorem dX4_rhymes_7 : decode cX4_rhymes 7 = .ok (.istore_n 3, 1) := by decide +kernel
theorem dX4_rhymes_8 : decode cX4_rhymes 8 = .ok (.iload_n 3, 1) := by decide +kernel
theorem dX4_rhymes_9 : decode cX4_rhymes 9 = .ok (.iload_n 1, 1) := by decide +kernel
theorem dX4_rhymes_10 : decode cX4_rhymes 10 = .ok (.iconst 4, 1) := by decide +kernel
theorem dX4_rhymes_11 : decode cX4_rhymes 11 = .ok (.idiv, 1) := by decide +kernel
theorem dX4_rhymes_12 : decode cX4_rhymes 12 = .ok (.iconst 4, 1) := by decide +kernel
theorem dX4_rhymes_13 : decode cX4_rhymes 13 = .ok (.imul, 1) := by decide +kernel
theorem dX4_rhymes_14 : decode cX4_rhymes 14 = .ok (.iconst 4, 1) := by decide +kernel
theorem dX4_rhymes_15 : decode cX4_rhymes 15 = .ok (.iadd, 1) := by decide +kernel
theorem dX4_rhymes_16 : decode cX4_rhymes 16 = .ok (.if_icmp .ge 44, 3) := by decide +kernel
theorem dX4_rhymes_19 : decode cX4_rhymes 19 = .ok (.iload_n 2, 1) := by decide +kernel
theorem dX4_rhymes_20 : decode cX4_rhymes 20 = .ok (.iload_n 3, 1) := by decide +kernel
theorem dX4_rhymes_21 : decode cX4_rhymes 21 = .ok (.iload_n 1, 1) := by decide +kernel
theorem dX4_rhymes_22 : decode cX4_rhymes 22 = .ok (.if_icmp .eq 29, 3) := by decide +kernel
theorem dX4_rhymes_25 : decode cX4_rhymes 25 = .ok (.aload_n 0, 1) := by decide +kernel
theorem dX4_rhymes_26 : decode cX4_rhymes 26 = .ok (.iload_n 1, 1) := by decide +kernel
theorem dX4_rhymes_27 : decode cX4_rhymes 27 = .ok (.invokevirtual 94, 3) := by decide +kernel
theorem dX4_rhymes_30 : decode cX4_rhymes 30 = .ok (.iconst (-1), 1) := by decide +kernel
theorem dX4_rhymes_31 : decode cX4_rhymes 31 = .ok (.if_icmp .eq 20, 3) := by decide +kernel
theorem dX4_rhymes_34 : decode cX4_rhymes 34 = .ok (.aload_n 0, 1) := by decide +kernel
theorem dX4_rhymes_35 : decode cX4_rhymes 35 = .ok (.iload_n 3, 1) := by decide +kernel
theorem dX4_rhymes_36 : decode cX4_rhymes 36 = .ok (.invokevirtual 94, 3) := by decide +kernel
theorem dX4_rhymes_39 : decode cX4_rhymes 39 = .ok (.aload_n 0, 1) := by decide +kernel
theorem dX4_rhymes_40 : decode cX4_rhymes 40 = .ok (.iload_n 1, 1) := by decide +kernel
theorem dX4_rhymes_41 : decode cX4_rhymes 41 = .ok (.invokevirtual 94, 3) := by decide +kernel
theorem dX4_rhymes_44 : decode cX4_rhymes 44 = .ok (.if_icmp .ne 7, 3) := by decide +kernel
theorem dX4_rhymes_47 : decode cX4_rhymes 47 = .ok (.iconst 1, 1) := by decide +kernel
theorem dX4_rhymes_48 : decode cX4_rhymes 48 = .ok (.goto 4, 3) := by decide +kernel
theorem dX4_rhymes_51 : decode cX4_rhymes 51 = .ok (.iconst 0, 1) := by decide +kernel
theorem dX4_rhymes_52 : decode cX4_rhymes 52 = .ok (.iadd, 1) := by decide +kernel
theorem dX4_rhymes_53 : decode cX4_rhymes 53 = .ok (.istore_n 2, 1) := by decide +kernel
theorem dX4_rhymes_54 : decode cX4_rhymes 54 = .ok (.iinc 3 1, 3) := by decide +kernel
theorem dX4_rhymes_57 : decode cX4_rhymes 57 = .ok (.goto (-49), 3) := by decide +kernel
theorem dX4_rhymes_60 : decode cX4_rhymes 60 = .ok (.iload_n 2, 1) := by decide +kernel
theorem dX4_rhymes_61 : decode cX4_rhymes 61 = .ok (.ireturn, 1) := by decide +kernel
theorem dX4_pairs_0 : decode cX4_pairs 0 = .ok (.iconst 0, 1) := by decide +kernel
theorem dX4_pairs_1 : decode cX4_pairs 1 = .ok (.istore_n 2, 1) := by decide +kernel
theorem dX4_pairs_2 : decode cX4_pairs 2 = .ok (.iconst 4, 1) := by decide +kernel
theorem dX4_pairs_3 : decode cX4_pairs 3 = .ok (.iload_n 1, 1) := by decide +kernel
theorem dX4_pairs_4 : decode cX4_pairs 4 = .ok (.imul, 1) := by decide +kernel
theorem dX4_pairs_5 : decode cX4_pairs 5 = .ok (.istore_n 3, 1) := by decide +kernel
theorem dX4_pairs_6 : decode cX4_pairs 6 = .ok (.iload_n 3, 1) := by decide +kernel
theorem dX4_pairs_7 : decode cX4_pairs 7 = .ok (.iconst 4, 1) := by decide +kernel
theorem dX4_pairs_8 : decode cX4_pairs 8 = .ok (.iload_n 1, 1) := by decide +kernel
theorem dX4_pairs_9 : decode cX4_pairs 9 = .ok (.imul, 1) := by decide +kernel
theorem dX4_pairs_10 : decode cX4_pairs 10 = .ok (.iconst 4, 1) := by decide +kernel
theorem dX4_pairs_11 : decode cX4_pairs 11 = .ok (.iadd, 1) := by decide +kernel
theorem dX4_pairs_12 : decode cX4_pairs 12 = .ok (.if_icmp .ge 17, 3) := by decide +kernel
theorem dX4_pairs_15 : decode cX4_pairs 15 = .ok (.iload_n 2, 1) := by decide +kernel
theorem dX4_pairs_16 : decode cX4_pairs 16 = .ok (.aload_n 0, 1) := by decide +kernel
theorem dX4_pairs_17 : decode cX4_pairs 17 = .ok (.iload_n 3, 1) := by decide +kernel
theorem dX4_pairs_18 : decode cX4_pairs 18 = .ok (.invokevirtual 97, 3) := by decide +kernel
theorem dX4_pairs_21 : decode cX4_pairs 21 = .ok (.iadd, 1) := by decide +kernel
theorem dX4_pairs_22 : decode cX4_pairs 22 = .ok (.istore_n 2, 1) := by decide +kernel
theorem dX4_pairs_23 : decode cX4_pairs 23 = .ok (.iinc 3 1, 3) := by decide +kernel
theorem dX4_pairs_26 : decode cX4_pairs 26 = .ok (.goto (-20), 3) := by decide +kernel
theorem dX4_pairs_29 : decode cX4_pairs 29 = .ok (.iload_n 2, 1) := by decide +kernel
theorem dX4_pairs_30 : decode cX4_pairs 30 = .ok (.iconst 2, 1) := by decide +kernel
theorem dX4_pairs_31 : decode cX4_pairs 31 = .ok (.idiv, 1) := by decide +kernel
theorem dX4_pairs_32 : decode cX4_pairs 32 = .ok (.ireturn, 1) := by decide +kernel
theorem dX4_doorWorth_0 : decode cX4_doorWorth 0 = .ok (.iconst 4, 1) := by decide +kernel
theorem dX4_doorWorth_1 : decode cX4_doorWorth 1 = .ok (.aload_n 0, 1) := by decide +kernel
theorem dX4_doorWorth_2 : decode cX4_doorWorth 2 = .ok (.iload_n 1, 1) := by decide +kernel
theorem dX4_doorWorth_3 : decode cX4_doorWorth 3 = .ok (.invokevirtual 100, 3) := by decide +kernel
theorem dX4_doorWorth_6 : decode cX4_doorWorth 6 = .ok (.imul, 1) := by decide +kernel
theorem dX4_doorWorth_7 : decode cX4_doorWorth 7 = .ok (.istore_n 2, 1) := by decide +kernel
theorem dX4_doorWorth_8 : decode cX4_doorWorth 8 = .ok (.iconst 4, 1) := by decide +kernel
theorem dX4_doorWorth_9 : decode cX4_doorWorth 9 = .ok (.iload_n 1, 1) := by decide +kernel
theorem dX4_doorWorth_10 : decode cX4_doorWorth 10 = .ok (.imul, 1) := by decide +kernel
theorem dX4_doorWorth_11 : decode cX4_doorWorth 11 = .ok (.istore_n 3, 1) := by decide +kernel
theorem dX4_doorWorth_12 : decode cX4_doorWorth 12 = .ok (.iload_n 3, 1) := by decide +kernel
theorem dX4_doorWorth_13 : decode cX4_doorWorth 13 = .ok (.iconst 4, 1) := by decide +kernel
theorem dX4_doorWorth_14 : decode cX4_doorWorth 14 = .ok (.iload_n 1, 1) := by decide +kernel
theorem dX4_doorWorth_15 : decode cX4_doorWorth 15 = .ok (.imul, 1) := by decide +kernel
theorem dX4_doorWorth_16 : decode cX4_doorWorth 16 = .ok (.iconst 4, 1) := by decide +kernel
theorem dX4_doorWorth_17 : decode cX4_doorWorth 17 = .ok (.iadd, 1) := by decide +kernel
theorem dX4_doorWorth_18 : decode cX4_doorWorth 18 = .ok (.if_icmp .ge 17, 3) := by decide +kernel
theorem dX4_doorWorth_21 : decode cX4_doorWorth 21 = .ok (.iload_n 2, 1) := by decide +kernel
theorem dX4_doorWorth_22 : decode cX4_doorWorth 22 = .ok (.aload_n 0, 1) := by decide +kernel
theorem dX4_doorWorth_23 : decode cX4_doorWorth 23 = .ok (.iload_n 3, 1) := by decide +kernel
theorem dX4_doorWorth_24 : decode cX4_doorWorth 24 = .ok (.invokevirtual 103, 3) := by decide +kernel
theorem dX4_doorWorth_27 : decode cX4_doorWorth 27 = .ok (.iadd, 1) := by decide +kernel
theorem dX4_doorWorth_28 : decode cX4_doorWorth 28 = .ok (.istore_n 2, 1) := by decide +kernel
theorem dX4_doorWorth_29 : decode cX4_doorWorth 29 = .ok (.iinc 3 1, 3) := by decide +kernel
theorem dX4_doorWorth_32 : decode cX4_doorWorth 32 = .ok (.goto (-20), 3) := by decide +kernel
theorem dX4_doorWorth_35 : decode cX4_doorWorth 35 = .ok (.iload_n 2, 1) := by decide +kernel
theorem dX4_doorWorth_36 : decode cX4_doorWorth 36 = .ok (.ireturn, 1) := by decide +kernel
theorem dX4_doorWords_0 : decode cX4_doorWords 0 = .ok (.iconst 0, 1) := by decide +kernel
theorem dX4_doorWords_1 : decode cX4_doorWords 1 = .ok (.istore_n 2, 1) := by decide +kernel
theorem dX4_doorWords_2 : decode cX4_doorWords 2 = .ok (.iconst 4, 1) := by decide +kernel
theorem dX4_doorWords_3 : decode cX4_doorWords 3 = .ok (.iload_n 1, 1) := by decide +kernel
theorem dX4_doorWords_4 : decode cX4_doorWords 4 = .ok (.imul, 1) := by decide +kernel
theorem dX4_doorWords_5 : decode cX4_doorWords 5 = .ok (.istore_n 3, 1) := by decide +kernel
theorem dX4_doorWords_6 : decode cX4_doorWords 6 = .ok (.iload_n 3, 1) := by decide +kernel
theorem dX4_doorWords_7 : decode cX4_doorWords 7 = .ok (.iconst 4, 1) := by decide +kernel
theorem dX4_doorWords_8 : decode cX4_doorWords 8 = .ok (.iload_n 1, 1) := by decide +kernel
theorem dX4_doorWords_9 : decode cX4_doorWords 9 = .ok (.imul, 1) := by decide +kernel
theorem dX4_doorWords_10 : decode cX4_doorWords 10 = .ok (.iconst 4, 1) := by decide +kernel
theorem dX4_doorWords_11 : decode cX4_doorWords 11 = .ok (.iadd, 1) := by decide +kernel
theorem dX4_doorWords_12 : decode cX4_doorWords 12 = .ok (.if_icmp .ge 20, 3) := by decide +kernel
theorem dX4_doorWords_15 : decode cX4_doorWords 15 = .ok (.iload_n 2, 1) := by decide +kernel
theorem dX4_doorWords_16 : decode cX4_doorWords 16 = .ok (.aload_n 0, 1) := by decide +kernel
theorem dX4_doorWords_17 : decode cX4_doorWords 17 = .ok (.getfield 7, 3) := by decide +kernel
theorem dX4_doorWords_20 : decode cX4_doorWords 20 = .ok (.iconst 0, 1) := by decide +kernel
theorem dX4_doorWords_21 : decode cX4_doorWords 21 = .ok (.iload_n 3, 1) := by decide +kernel
theorem dX4_doorWords_22 : decode cX4_doorWords 22 = .ok (.iadd, 1) := by decide +kernel
theorem dX4_doorWords_23 : decode cX4_doorWords 23 = .ok (.iaload, 1) := by decide +kernel
theorem dX4_doorWords_24 : decode cX4_doorWords 24 = .ok (.iadd, 1) := by decide +kernel
theorem dX4_doorWords_25 : decode cX4_doorWords 25 = .ok (.istore_n 2, 1) := by decide +kernel
theorem dX4_doorWords_26 : decode cX4_doorWords 26 = .ok (.iinc 3 1, 3) := by decide +kernel
theorem dX4_doorWords_29 : decode cX4_doorWords 29 = .ok (.goto (-23), 3) := by decide +kernel
theorem dX4_doorWords_32 : decode cX4_doorWords 32 = .ok (.iload_n 2, 1) := by decide +kernel
theorem dX4_doorWords_33 : decode cX4_doorWords 33 = .ok (.ireturn, 1) := by decide +kernel
theorem dX4_borrowerOf_0 : decode cX4_borrowerOf 0 = .ok (.iconst 0, 1) := by decide +kernel
theorem dX4_borrowerOf_1 : decode cX4_borrowerOf 1 = .ok (.istore_n 2, 1) := by decide +kernel
theorem dX4_borrowerOf_2 : decode cX4_borrowerOf 2 = .ok (.iload_n 2, 1) := by decide +kernel
theorem dX4_borrowerOf_3 : decode cX4_borrowerOf 3 = .ok (.bipush 16, 2) := by decide +kernel
theorem dX4_borrowerOf_5 : decode cX4_borrowerOf 5 = .ok (.if_icmp .ge 26, 3) := by decide +kernel
theorem dX4_borrowerOf_8 : decode cX4_borrowerOf 8 = .ok (.aload_n 0, 1) := by decide +kernel
theorem dX4_borrowerOf_9 : decode cX4_borrowerOf 9 = .ok (.getfield 7, 3) := by decide +kernel
theorem dX4_borrowerOf_12 : decode cX4_borrowerOf 12 = .ok (.bipush 112, 2) := by decide +kernel
theorem dX4_borrowerOf_14 : decode cX4_borrowerOf 14 = .ok (.iload_n 2, 1) := by decide +kernel
theorem dX4_borrowerOf_15 : decode cX4_borrowerOf 15 = .ok (.iadd, 1) := by decide +kernel
theorem dX4_borrowerOf_16 : decode cX4_borrowerOf 16 = .ok (.iaload, 1) := by decide +kernel
theorem dX4_borrowerOf_17 : decode cX4_borrowerOf 17 = .ok (.iload_n 1, 1) := by decide +kernel
theorem dX4_borrowerOf_18 : decode cX4_borrowerOf 18 = .ok (.iconst 1, 1) := by decide +kernel
theorem dX4_borrowerOf_19 : decode cX4_borrowerOf 19 = .ok (.iadd, 1) := by decide +kernel
theorem dX4_borrowerOf_20 : decode cX4_borrowerOf 20 = .ok (.if_icmp .ne 5, 3) := by decide +kernel
theorem dX4_borrowerOf_23 : decode cX4_borrowerOf 23 = .ok (.iload_n 2, 1) := by decide +kernel
theorem dX4_borrowerOf_24 : decode cX4_borrowerOf 24 = .ok (.ireturn, 1) := by decide +kernel
theorem dX4_borrowerOf_25 : decode cX4_borrowerOf 25 = .ok (.iinc 2 1, 3) := by decide +kernel
theorem dX4_borrowerOf_28 : decode cX4_borrowerOf 28 = .ok (.goto (-26), 3) := by decide +kernel
theorem dX4_borrowerOf_31 : decode cX4_borrowerOf 31 = .ok (.iconst (-1), 1) := by decide +kernel
theorem dX4_borrowerOf_32 : decode cX4_borrowerOf 32 = .ok (.ireturn, 1) := by decide +kernel
theorem dX4_target_0 : decode cX4_target 0 = .ok (.iconst (-1), 1) := by decide +kernel
theorem dX4_target_1 : decode cX4_target 1 = .ok (.istore_n 1, 1) := by decide +kernel
theorem dX4_target_2 : decode cX4_target 2 = .ok (.iconst 0, 1) := by decide +kernel
theorem dX4_target_3 : decode cX4_target 3 = .ok (.istore_n 2, 1) := by decide +kernel
theorem dX4_target_4 : decode cX4_target 4 = .ok (.iload_n 2, 1) := by decide +kernel
theorem dX4_target_5 : decode cX4_target 5 = .ok (.iconst 4, 1) := by decide +kernel
theorem dX4_target_6 : decode cX4_target 6 = .ok (.if_icmp .ge 50, 3) := by decide +kernel
theorem dX4_target_9 : decode cX4_target 9 = .ok (.aload_n 0, 1) := by decide +kernel
theorem dX4_target_10 : decode cX4_target 10 = .ok (.iload_n 2, 1) := by decide +kernel
theorem dX4_target_11 : decode cX4_target 11 = .ok (.invokevirtual 106, 3) := by decide +kernel
theorem dX4_target_14 : decode cX4_target 14 = .ok (.ifCond .le 36, 3) := by decide +kernel
theorem dX4_target_17 : decode cX4_target 17 = .ok (.aload_n 0, 1) := by decide +kernel
theorem dX4_target_18 : decode cX4_target 18 = .ok (.getfield 7, 3) := by decide +kernel
theorem dX4_target_21 : decode cX4_target 21 = .ok (.sipush 128, 3) := by decide +kernel
theorem dX4_target_24 : decode cX4_target 24 = .ok (.iload_n 2, 1) := by decide +kernel
theorem dX4_target_25 : decode cX4_target 25 = .ok (.iadd, 1) := by decide +kernel
theorem dX4_target_26 : decode cX4_target 26 = .ok (.iaload, 1) := by decide +kernel
theorem dX4_target_27 : decode cX4_target 27 = .ok (.ifCond .ne 23, 3) := by decide +kernel
theorem dX4_target_30 : decode cX4_target 30 = .ok (.iload_n 1, 1) := by decide +kernel
theorem dX4_target_31 : decode cX4_target 31 = .ok (.iconst (-1), 1) := by decide +kernel
theorem dX4_target_32 : decode cX4_target 32 = .ok (.if_icmp .eq 16, 3) := by decide +kernel
theorem dX4_target_35 : decode cX4_target 35 = .ok (.aload_n 0, 1) := by decide +kernel
theorem dX4_target_36 : decode cX4_target 36 = .ok (.iload_n 2, 1) := by decide +kernel
theorem dX4_target_37 : decode cX4_target 37 = .ok (.invokevirtual 109, 3) := by decide +kernel
theorem dX4_target_40 : decode cX4_target 40 = .ok (.aload_n 0, 1) := by decide +kernel
theorem dX4_target_41 : decode cX4_target 41 = .ok (.iload_n 1, 1) := by decide +kernel
theorem dX4_target_42 : decode cX4_target 42 = .ok (.invokevirtual 109, 3) := by decide +kernel
theorem dX4_target_45 : decode cX4_target 45 = .ok (.if_icmp .le 5, 3) := by decide +kernel
theorem dX4_target_48 : decode cX4_target 48 = .ok (.iload_n 2, 1) := by decide +kernel
theorem dX4_target_49 : decode cX4_target 49 = .ok (.istore_n 1, 1) := by decide +kernel
theorem dX4_target_50 : decode cX4_target 50 = .ok (.iinc 2 1, 3) := by decide +kernel
theorem dX4_target_53 : decode cX4_target 53 = .ok (.goto (-49), 3) := by decide +kernel
theorem dX4_target_56 : decode cX4_target 56 = .ok (.iload_n 1, 1) := by decide +kernel
theorem dX4_target_57 : decode cX4_target 57 = .ok (.iconst (-1), 1) := by decide +kernel
theorem dX4_target_58 : decode cX4_target 58 = .ok (.if_icmp .eq 23, 3) := by decide +kernel
theorem dX4_target_61 : decode cX4_target 61 = .ok (.aload_n 0, 1) := by decide +kernel
theorem dX4_target_62 : decode cX4_target 62 = .ok (.iload_n 1, 1) := by decide +kernel
theorem dX4_target_63 : decode cX4_target 63 = .ok (.invokevirtual 109, 3) := by decide +kernel
theorem dX4_target_66 : decode cX4_target 66 = .ok (.aload_n 0, 1) := by decide +kernel
theorem dX4_target_67 : decode cX4_target 67 = .ok (.getfield 7, 3) := by decide +kernel
theorem dX4_target_70 : decode cX4_target 70 = .ok (.sipush 177, 3) := by decide +kernel
theorem dX4_target_73 : decode cX4_target 73 = .ok (.iaload, 1) := by decide +kernel
theorem dX4_target_74 : decode cX4_target 74 = .ok (.if_icmp .lt 7, 3) := by decide +kernel
theorem dX4_target_77 : decode cX4_target 77 = .ok (.iload_n 1, 1) := by decide +kernel
theorem dX4_target_78 : decode cX4_target 78 = .ok (.goto 4, 3) := by decide +kernel
theorem dX4_target_81 : decode cX4_target 81 = .ok (.iconst (-1), 1) := by decide +kernel
theorem dX4_target_82 : decode cX4_target 82 = .ok (.ireturn, 1) := by decide +kernel
theorem dX4_preyOn_0 : decode cX4_preyOn 0 = .ok (.iconst (-1), 1) := by decide +kernel
theorem dX4_preyOn_1 : decode cX4_preyOn 1 = .ok (.istore_n 2, 1) := by decide +kernel
theorem dX4_preyOn_2 : decode cX4_preyOn 2 = .ok (.iconst 4, 1) := by decide +kernel
theorem dX4_preyOn_3 : decode cX4_preyOn 3 = .ok (.iload_n 1, 1) := by decide +kernel
theorem dX4_preyOn_4 : decode cX4_preyOn 4 = .ok (.imul, 1) := by decide +kernel
theorem dX4_preyOn_5 : decode cX4_preyOn 5 = .ok (.iconst 4, 1) := by decide +kernel
theorem dX4_preyOn_6 : decode cX4_preyOn 6 = .ok (.iadd, 1) := by decide +kernel
theorem dX4_preyOn_7 : decode cX4_preyOn 7 = .ok (.iconst 1, 1) := by decide +kernel
theorem dX4_preyOn_8 : decode cX4_preyOn 8 = .ok (.isub, 1) := by decide +kernel
theorem dX4_preyOn_9 : decode cX4_preyOn 9 = .ok (.istore_n 3, 1) := by decide +kernel
theorem dX4_preyOn_10 : decode cX4_preyOn 10 = .ok (.iload_n 3, 1) := by decide +kernel
theorem dX4_preyOn_11 : decode cX4_preyOn 11 = .ok (.iconst 4, 1) := by decide +kernel
theorem dX4_preyOn_12 : decode cX4_preyOn 12 = .ok (.iload_n 1, 1) := by decide +kernel
theorem dX4_preyOn_13 : decode cX4_preyOn 13 = .ok (.imul, 1) := by decide +kernel
theorem dX4_preyOn_14 : decode cX4_preyOn 14 = .ok (.if_icmp .lt 64, 3) := by decide +kernel
theorem dX4_preyOn_17 : decode cX4_preyOn 17 = .ok (.iconst 0, 1) := by decide +kernel
theorem dX4_preyOn_18 : decode cX4_preyOn 18 = .ok (.istore 4, 2) := by decide +kernel
theorem dX4_preyOn_20 : decode cX4_preyOn 20 = .ok (.iload 4, 2) := by decide +kernel
theorem dX4_preyOn_22 : decode cX4_preyOn 22 = .ok (.aload_n 0, 1) := by decide +kernel
theorem dX4_preyOn_23 : decode cX4_preyOn 23 = .ok (.getfield 7, 3) := by decide +kernel
theorem dX4_preyOn_26 : decode cX4_preyOn 26 = .ok (.iconst 0, 1) := by decide +kernel
theorem dX4_preyOn_27 : decode cX4_preyOn 27 = .ok (.iload_n 3, 1) := by decide +kernel
theorem dX4_preyOn_28 : decode cX4_preyOn 28 = .ok (.iadd, 1) := by decide +kernel
theorem dX4_preyOn_29 : decode cX4_preyOn 29 = .ok (.iaload, 1) := by decide +kernel
theorem dX4_preyOn_30 : decode cX4_preyOn 30 = .ok (.if_icmp .ge 42, 3) := by decide +kernel
theorem dX4_preyOn_33 : decode cX4_preyOn 33 = .ok (.aload_n 0, 1) := by decide +kernel
theorem dX4_preyOn_34 : decode cX4_preyOn 34 = .ok (.iload_n 3, 1) := by decide +kernel
theorem dX4_preyOn_35 : decode cX4_preyOn 35 = .ok (.iload 4, 2) := by decide +kernel
theorem dX4_preyOn_37 : decode cX4_preyOn 37 = .ok (.invokevirtual 53, 3) := by decide +kernel
theorem dX4_preyOn_40 : decode cX4_preyOn 40 = .ok (.istore 5, 2) := by decide +kernel
theorem dX4_preyOn_42 : decode cX4_preyOn 42 = .ok (.iload_n 2, 1) := by decide +kernel
theorem dX4_preyOn_43 : decode cX4_preyOn 43 = .ok (.iconst (-1), 1) := by decide +kernel
theorem dX4_preyOn_44 : decode cX4_preyOn 44 = .ok (.if_icmp .eq 15, 3) := by decide +kernel
theorem dX4_preyOn_47 : decode cX4_preyOn 47 = .ok (.iload 5, 2) := by decide +kernel
theorem dX4_preyOn_49 : decode cX4_preyOn 49 = .ok (.invokestatic 71, 3) := by decide +kernel
theorem dX4_preyOn_52 : decode cX4_preyOn 52 = .ok (.iload_n 2, 1) := by decide +kernel
theorem dX4_preyOn_53 : decode cX4_preyOn 53 = .ok (.invokestatic 71, 3) := by decide +kernel
theorem dX4_preyOn_56 : decode cX4_preyOn 56 = .ok (.if_icmp .le 8, 3) := by decide +kernel
theorem dX4_preyOn_59 : decode cX4_preyOn 59 = .ok (.iload 5, 2) := by decide +kernel
theorem dX4_preyOn_61 : decode cX4_preyOn 61 = .ok (.goto 4, 3) := by decide +kernel
theorem dX4_preyOn_64 : decode cX4_preyOn 64 = .ok (.iload_n 2, 1) := by decide +kernel
theorem dX4_preyOn_65 : decode cX4_preyOn 65 = .ok (.istore_n 2, 1) := by decide +kernel
theorem dX4_preyOn_66 : decode cX4_preyOn 66 = .ok (.iinc 4 1, 3) := by decide +kernel
theorem dX4_preyOn_69 : decode cX4_preyOn 69 = .ok (.goto (-49), 3) := by decide +kernel
theorem dX4_preyOn_72 : decode cX4_preyOn 72 = .ok (.iinc 3 (-1), 3) := by decide +kernel
theorem dX4_preyOn_75 : decode cX4_preyOn 75 = .ok (.goto (-65), 3) := by decide +kernel
theorem dX4_preyOn_78 : decode cX4_preyOn 78 = .ok (.iload_n 2, 1) := by decide +kernel
theorem dX4_preyOn_79 : decode cX4_preyOn 79 = .ok (.ireturn, 1) := by decide +kernel
theorem dX4_preyNow_0 : decode cX4_preyNow 0 = .ok (.aload_n 0, 1) := by decide +kernel
theorem dX4_preyNow_1 : decode cX4_preyNow 1 = .ok (.invokevirtual 112, 3) := by decide +kernel
theorem dX4_preyNow_4 : decode cX4_preyNow 4 = .ok (.istore_n 1, 1) := by decide +kernel
theorem dX4_preyNow_5 : decode cX4_preyNow 5 = .ok (.iload_n 1, 1) := by decide +kernel
theorem dX4_preyNow_6 : decode cX4_preyNow 6 = .ok (.iconst (-1), 1) := by decide +kernel
theorem dX4_preyNow_7 : decode cX4_preyNow 7 = .ok (.if_icmp .ne 7, 3) := by decide +kernel
theorem dX4_preyNow_10 : decode cX4_preyNow 10 = .ok (.iconst (-1), 1) := by decide +kernel
theorem dX4_preyNow_11 : decode cX4_preyNow 11 = .ok (.goto 8, 3) := by decide +kernel
theorem dX4_preyNow_14 : decode cX4_preyNow 14 = .ok (.aload_n 0, 1) := by decide +kernel
theorem dX4_preyNow_15 : decode cX4_preyNow 15 = .ok (.iload_n 1, 1) := by decide +kernel
theorem dX4_preyNow_16 : decode cX4_preyNow 16 = .ok (.invokevirtual 116, 3) := by decide +kernel
theorem dX4_preyNow_19 : decode cX4_preyNow 19 = .ok (.ireturn, 1) := by decide +kernel
theorem dX4_night_0 : decode cX4_night 0 = .ok (.aload_n 0, 1) := by decide +kernel
theorem dX4_night_1 : decode cX4_night 1 = .ok (.invokevirtual 119, 3) := by decide +kernel
theorem dX4_night_4 : decode cX4_night 4 = .ok (.istore_n 1, 1) := by decide +kernel
theorem dX4_night_5 : decode cX4_night 5 = .ok (.iconst 0, 1) := by decide +kernel
theorem dX4_night_6 : decode cX4_night 6 = .ok (.istore_n 2, 1) := by decide +kernel
theorem dX4_night_7 : decode cX4_night 7 = .ok (.iload_n 2, 1) := by decide +kernel
theorem dX4_night_8 : decode cX4_night 8 = .ok (.iconst 4, 1) := by decide +kernel
theorem dX4_night_9 : decode cX4_night 9 = .ok (.if_icmp .ge 40, 3) := by decide +kernel
theorem dX4_night_12 : decode cX4_night 12 = .ok (.aload_n 0, 1) := by decide +kernel
theorem dX4_night_13 : decode cX4_night 13 = .ok (.getfield 7, 3) := by decide +kernel
theorem dX4_night_16 : decode cX4_night 16 = .ok (.sipush 128, 3) := by decide +kernel
theorem dX4_night_19 : decode cX4_night 19 = .ok (.iload_n 2, 1) := by decide +kernel
theorem dX4_night_20 : decode cX4_night 20 = .ok (.iadd, 1) := by decide +kernel
theorem dX4_night_21 : decode cX4_night 21 = .ok (.dup2, 1) := by decide +kernel
theorem dX4_night_22 : decode cX4_night 22 = .ok (.iaload, 1) := by decide +kernel
theorem dX4_night_23 : decode cX4_night 23 = .ok (.aload_n 0, 1) := by decide +kernel
theorem dX4_night_24 : decode cX4_night 24 = .ok (.getfield 7, 3) := by decide +kernel
theorem dX4_night_27 : decode cX4_night 27 = .ok (.sipush 128, 3) := by decide +kernel
theorem dX4_night_30 : decode cX4_night 30 = .ok (.iload_n 2, 1) := by decide +kernel
theorem dX4_night_31 : decode cX4_night 31 = .ok (.iadd, 1) := by decide +kernel
theorem dX4_night_32 : decode cX4_night 32 = .ok (.iaload, 1) := by decide +kernel
theorem dX4_night_33 : decode cX4_night 33 = .ok (.ifCond .le 7, 3) := by decide +kernel
theorem dX4_night_36 : decode cX4_night 36 = .ok (.iconst 1, 1) := by decide +kernel
theorem dX4_night_37 : decode cX4_night 37 = .ok (.goto 4, 3) := by decide +kernel
theorem dX4_night_40 : decode cX4_night 40 = .ok (.iconst 0, 1) := by decide +kernel
theorem dX4_night_41 : decode cX4_night 41 = .ok (.isub, 1) := by decide +kernel
theorem dX4_night_42 : decode cX4_night 42 = .ok (.iastore, 1) := by decide +kernel
theorem dX4_night_43 : decode cX4_night 43 = .ok (.iinc 2 1, 3) := by decide +kernel
theorem dX4_night_46 : decode cX4_night 46 = .ok (.goto (-39), 3) := by decide +kernel
theorem dX4_night_49 : decode cX4_night 49 = .ok (.aload_n 0, 1) := by decide +kernel
theorem dX4_night_50 : decode cX4_night 50 = .ok (.getfield 7, 3) := by decide +kernel
theorem dX4_night_53 : decode cX4_night 53 = .ok (.sipush 179, 3) := by decide +kernel
theorem dX4_night_56 : decode cX4_night 56 = .ok (.dup2, 1) := by decide +kernel
theorem dX4_night_57 : decode cX4_night 57 = .ok (.iaload, 1) := by decide +kernel
theorem dX4_night_58 : decode cX4_night 58 = .ok (.iconst 1, 1) := by decide +kernel
theorem dX4_night_59 : decode cX4_night 59 = .ok (.iadd, 1) := by decide +kernel
theorem dX4_night_60 : decode cX4_night 60 = .ok (.iastore, 1) := by decide +kernel
theorem dX4_night_61 : decode cX4_night 61 = .ok (.iload_n 1, 1) := by decide +kernel
theorem dX4_night_62 : decode cX4_night 62 = .ok (.iconst (-1), 1) := by decide +kernel
theorem dX4_night_63 : decode cX4_night 63 = .ok (.if_icmp .ne 5, 3) := by decide +kernel
theorem dX4_night_66 : decode cX4_night 66 = .ok (.iconst 0, 1) := by decide +kernel
theorem dX4_night_67 : decode cX4_night 67 = .ok (.ireturn, 1) := by decide +kernel
theorem dX4_night_68 : decode cX4_night 68 = .ok (.aload_n 0, 1) := by decide +kernel
theorem dX4_night_69 : decode cX4_night 69 = .ok (.iload_n 1, 1) := by decide +kernel
theorem dX4_night_70 : decode cX4_night 70 = .ok (.invokevirtual 57, 3) := by decide +kernel
theorem dX4_night_73 : decode cX4_night 73 = .ok (.istore_n 2, 1) := by decide +kernel
theorem dX4_night_74 : decode cX4_night 74 = .ok (.aload_n 0, 1) := by decide +kernel
theorem dX4_night_75 : decode cX4_night 75 = .ok (.iload_n 2, 1) := by decide +kernel
theorem dX4_night_76 : decode cX4_night 76 = .ok (.aload_n 0, 1) := by decide +kernel
theorem dX4_night_77 : decode cX4_night 77 = .ok (.iload_n 1, 1) := by decide +kernel
theorem dX4_night_78 : decode cX4_night 78 = .ok (.invokevirtual 122, 3) := by decide +kernel
theorem dX4_night_81 : decode cX4_night 81 = .ok (.invokevirtual 68, 3) := by decide +kernel
theorem dX4_night_84 : decode cX4_night 84 = .ok (.aload_n 0, 1) := by decide +kernel
theorem dX4_night_85 : decode cX4_night 85 = .ok (.getfield 7, 3) := by decide +kernel
theorem dX4_night_88 : decode cX4_night 88 = .ok (.sipush 136, 3) := by decide +kernel
theorem dX4_night_91 : decode cX4_night 91 = .ok (.iload_n 1, 1) := by decide +kernel
theorem dX4_night_92 : decode cX4_night 92 = .ok (.iadd, 1) := by decide +kernel
theorem dX4_night_93 : decode cX4_night 93 = .ok (.dup2, 1) := by decide +kernel
theorem dX4_night_94 : decode cX4_night 94 = .ok (.iaload, 1) := by decide +kernel
theorem dX4_night_95 : decode cX4_night 95 = .ok (.iconst 1, 1) := by decide +kernel
theorem dX4_night_96 : decode cX4_night 96 = .ok (.iadd, 1) := by decide +kernel
theorem dX4_night_97 : decode cX4_night 97 = .ok (.iastore, 1) := by decide +kernel
theorem dX4_night_98 : decode cX4_night 98 = .ok (.aload_n 0, 1) := by decide +kernel
theorem dX4_night_99 : decode cX4_night 99 = .ok (.getfield 7, 3) := by decide +kernel
theorem dX4_night_102 : decode cX4_night 102 = .ok (.sipush 132, 3) := by decide +kernel
theorem dX4_night_105 : decode cX4_night 105 = .ok (.iload_n 2, 1) := by decide +kernel
theorem dX4_night_106 : decode cX4_night 106 = .ok (.iconst 4, 1) := by decide +kernel
theorem dX4_night_107 : decode cX4_night 107 = .ok (.idiv, 1) := by decide +kernel
theorem dX4_night_108 : decode cX4_night 108 = .ok (.iadd, 1) := by decide +kernel
theorem dX4_night_109 : decode cX4_night 109 = .ok (.dup2, 1) := by decide +kernel
theorem dX4_night_110 : decode cX4_night 110 = .ok (.iaload, 1) := by decide +kernel
theorem dX4_night_111 : decode cX4_night 111 = .ok (.iconst 1, 1) := by decide +kernel
theorem dX4_night_112 : decode cX4_night 112 = .ok (.iadd, 1) := by decide +kernel
theorem dX4_night_113 : decode cX4_night 113 = .ok (.iastore, 1) := by decide +kernel
theorem dX4_night_114 : decode cX4_night 114 = .ok (.aload_n 0, 1) := by decide +kernel
theorem dX4_night_115 : decode cX4_night 115 = .ok (.getfield 7, 3) := by decide +kernel
theorem dX4_night_118 : decode cX4_night 118 = .ok (.sipush 128, 3) := by decide +kernel
theorem dX4_night_121 : decode cX4_night 121 = .ok (.iload_n 2, 1) := by decide +kernel
theorem dX4_night_122 : decode cX4_night 122 = .ok (.iconst 4, 1) := by decide +kernel
theorem dX4_night_123 : decode cX4_night 123 = .ok (.idiv, 1) := by decide +kernel
theorem dX4_night_124 : decode cX4_night 124 = .ok (.iadd, 1) := by decide +kernel
theorem dX4_night_125 : decode cX4_night 125 = .ok (.aload_n 0, 1) := by decide +kernel
theorem dX4_night_126 : decode cX4_night 126 = .ok (.getfield 7, 3) := by decide +kernel
theorem dX4_night_129 : decode cX4_night 129 = .ok (.sipush 178, 3) := by decide +kernel
theorem dX4_night_132 : decode cX4_night 132 = .ok (.iaload, 1) := by decide +kernel
theorem dX4_night_133 : decode cX4_night 133 = .ok (.iastore, 1) := by decide +kernel
theorem dX4_night_134 : decode cX4_night 134 = .ok (.iconst 1, 1) := by decide +kernel
theorem dX4_night_135 : decode cX4_night 135 = .ok (.ireturn, 1) := by decide +kernel
theorem dX4_nights_0 : decode cX4_nights 0 = .ok (.iconst 0, 1) := by decide +kernel
theorem dX4_nights_1 : decode cX4_nights 1 = .ok (.istore_n 2, 1) := by decide +kernel
theorem dX4_nights_2 : decode cX4_nights 2 = .ok (.iconst 0, 1) := by decide +kernel
theorem dX4_nights_3 : decode cX4_nights 3 = .ok (.istore_n 3, 1) := by decide +kernel
theorem dX4_nights_4 : decode cX4_nights 4 = .ok (.iload_n 3, 1) := by decide +kernel
theorem dX4_nights_5 : decode cX4_nights 5 = .ok (.iload_n 1, 1) := by decide +kernel
theorem dX4_nights_6 : decode cX4_nights 6 = .ok (.if_icmp .ge 16, 3) := by decide +kernel
theorem dX4_nights_9 : decode cX4_nights 9 = .ok (.iload_n 2, 1) := by decide +kernel
theorem dX4_nights_10 : decode cX4_nights 10 = .ok (.aload_n 0, 1) := by decide +kernel
theorem dX4_nights_11 : decode cX4_nights 11 = .ok (.invokevirtual 125, 3) := by decide +kernel
theorem dX4_nights_14 : decode cX4_nights 14 = .ok (.iadd, 1) := by decide +kernel
theorem dX4_nights_15 : decode cX4_nights 15 = .ok (.istore_n 2, 1) := by decide +kernel
theorem dX4_nights_16 : decode cX4_nights 16 = .ok (.iinc 3 1, 3) := by decide +kernel
theorem dX4_nights_19 : decode cX4_nights 19 = .ok (.goto (-15), 3) := by decide +kernel
theorem dX4_nights_22 : decode cX4_nights 22 = .ok (.iload_n 2, 1) := by decide +kernel
theorem dX4_nights_23 : decode cX4_nights 23 = .ok (.ireturn, 1) := by decide +kernel
theorem dX4_put_0 : decode cX4_put 0 = .ok (.aload_n 0, 1) := by decide +kernel
theorem dX4_put_1 : decode cX4_put 1 = .ok (.iconst 0, 1) := by decide +kernel
theorem dX4_put_2 : decode cX4_put 2 = .ok (.putfield 38, 3) := by decide +kernel
theorem dX4_put_5 : decode cX4_put 5 = .ok (.iload_n 1, 1) := by decide +kernel
theorem dX4_put_6 : decode cX4_put 6 = .ok (.invokestatic 128, 3) := by decide +kernel
theorem dX4_put_9 : decode cX4_put 9 = .ok (.ifCond .eq 32, 3) := by decide +kernel
theorem dX4_put_12 : decode cX4_put 12 = .ok (.iload_n 2, 1) := by decide +kernel
theorem dX4_put_13 : decode cX4_put 13 = .ok (.iload_n 3, 1) := by decide +kernel
theorem dX4_put_14 : decode cX4_put 14 = .ok (.invokestatic 131, 3) := by decide +kernel
theorem dX4_put_17 : decode cX4_put 17 = .ok (.ifCond .eq 24, 3) := by decide +kernel
theorem dX4_put_20 : decode cX4_put 20 = .ok (.iload 4, 2) := by decide +kernel
theorem dX4_put_22 : decode cX4_put 22 = .ok (.iconst 0, 1) := by decide +kernel
theorem dX4_put_23 : decode cX4_put 23 = .ok (.aload_n 0, 1) := by decide +kernel
theorem dX4_put_24 : decode cX4_put 24 = .ok (.getfield 7, 3) := by decide +kernel
theorem dX4_put_27 : decode cX4_put 27 = .ok (.iconst 0, 1) := by decide +kernel
theorem dX4_put_28 : decode cX4_put 28 = .ok (.iconst 4, 1) := by decide +kernel
theorem dX4_put_29 : decode cX4_put 29 = .ok (.iload_n 2, 1) := by decide +kernel
theorem dX4_put_30 : decode cX4_put 30 = .ok (.imul, 1) := by decide +kernel
theorem dX4_put_31 : decode cX4_put 31 = .ok (.iadd, 1) := by decide +kernel
theorem dX4_put_32 : decode cX4_put 32 = .ok (.iload_n 3, 1) := by decide +kernel
theorem dX4_put_33 : decode cX4_put 33 = .ok (.iadd, 1) := by decide +kernel
theorem dX4_put_34 : decode cX4_put 34 = .ok (.iaload, 1) := by decide +kernel
theorem dX4_put_35 : decode cX4_put 35 = .ok (.invokestatic 42, 3) := by decide +kernel
theorem dX4_put_38 : decode cX4_put 38 = .ok (.ifCond .ne 9, 3) := by decide +kernel
theorem dX4_put_41 : decode cX4_put 41 = .ok (.aload_n 0, 1) := by decide +kernel
theorem dX4_put_42 : decode cX4_put 42 = .ok (.iconst 1, 1) := by decide +kernel
theorem dX4_put_43 : decode cX4_put 43 = .ok (.invokevirtual 134, 3) := by decide +kernel
theorem dX4_put_46 : decode cX4_put 46 = .ok (.ireturn, 1) := by decide +kernel
theorem dX4_put_47 : decode cX4_put 47 = .ok (.aload_n 0, 1) := by decide +kernel
theorem dX4_put_48 : decode cX4_put 48 = .ok (.iload_n 1, 1) := by decide +kernel
theorem dX4_put_49 : decode cX4_put 49 = .ok (.invokevirtual 57, 3) := by decide +kernel
theorem dX4_put_52 : decode cX4_put 52 = .ok (.iconst (-1), 1) := by decide +kernel
theorem dX4_put_53 : decode cX4_put 53 = .ok (.if_icmp .eq 9, 3) := by decide +kernel
theorem dX4_put_56 : decode cX4_put 56 = .ok (.aload_n 0, 1) := by decide +kernel
theorem dX4_put_57 : decode cX4_put 57 = .ok (.iconst 2, 1) := by decide +kernel
theorem dX4_put_58 : decode cX4_put 58 = .ok (.invokevirtual 134, 3) := by decide +kernel
theorem dX4_put_61 : decode cX4_put 61 = .ok (.ireturn, 1) := by decide +kernel
theorem dX4_put_62 : decode cX4_put 62 = .ok (.aload_n 0, 1) := by decide +kernel
theorem dX4_put_63 : decode cX4_put 63 = .ok (.invokevirtual 137, 3) := by decide +kernel
theorem dX4_put_66 : decode cX4_put 66 = .ok (.aload_n 0, 1) := by decide +kernel
theorem dX4_put_67 : decode cX4_put 67 = .ok (.iload_n 1, 1) := by decide +kernel
theorem dX4_put_68 : decode cX4_put 68 = .ok (.iconst 4, 1) := by decide +kernel
theorem dX4_put_69 : decode cX4_put 69 = .ok (.iload_n 2, 1) := by decide +kernel
theorem dX4_put_70 : decode cX4_put 70 = .ok (.imul, 1) := by decide +kernel
theorem dX4_put_71 : decode cX4_put 71 = .ok (.iload_n 3, 1) := by decide +kernel
theorem dX4_put_72 : decode cX4_put 72 = .ok (.iadd, 1) := by decide +kernel
theorem dX4_put_73 : decode cX4_put 73 = .ok (.iload 4, 2) := by decide +kernel
theorem dX4_put_75 : decode cX4_put 75 = .ok (.invokevirtual 140, 3) := by decide +kernel
theorem dX4_put_78 : decode cX4_put 78 = .ok (.istore 5, 2) := by decide +kernel
theorem dX4_put_80 : decode cX4_put 80 = .ok (.iload 5, 2) := by decide +kernel
theorem dX4_put_82 : decode cX4_put 82 = .ok (.ifCond .ne 30, 3) := by decide +kernel
theorem dX4_put_85 : decode cX4_put 85 = .ok (.aload_n 0, 1) := by decide +kernel
theorem dX4_put_86 : decode cX4_put 86 = .ok (.iload_n 1, 1) := by decide +kernel
theorem dX4_put_87 : decode cX4_put 87 = .ok (.iconst 4, 1) := by decide +kernel
theorem dX4_put_88 : decode cX4_put 88 = .ok (.iload_n 2, 1) := by decide +kernel
theorem dX4_put_89 : decode cX4_put 89 = .ok (.imul, 1) := by decide +kernel
theorem dX4_put_90 : decode cX4_put 90 = .ok (.iload_n 3, 1) := by decide +kernel
theorem dX4_put_91 : decode cX4_put 91 = .ok (.iadd, 1) := by decide +kernel
theorem dX4_put_92 : decode cX4_put 92 = .ok (.iload 4, 2) := by decide +kernel
theorem dX4_put_94 : decode cX4_put 94 = .ok (.invokevirtual 144, 3) := by decide +kernel
theorem dX4_put_97 : decode cX4_put 97 = .ok (.aload_n 0, 1) := by decide +kernel
theorem dX4_put_98 : decode cX4_put 98 = .ok (.getfield 7, 3) := by decide +kernel
theorem dX4_put_101 : decode cX4_put 101 = .ok (.sipush 180, 3) := by decide +kernel
theorem dX4_put_104 : decode cX4_put 104 = .ok (.dup2, 1) := by decide +kernel
theorem dX4_put_105 : decode cX4_put 105 = .ok (.iaload, 1) := by decide +kernel
theorem dX4_put_106 : decode cX4_put 106 = .ok (.iconst 1, 1) := by decide +kernel
theorem dX4_put_107 : decode cX4_put 107 = .ok (.iadd, 1) := by decide +kernel
theorem dX4_put_108 : decode cX4_put 108 = .ok (.iastore, 1) := by decide +kernel
theorem dX4_put_109 : decode cX4_put 109 = .ok (.goto 15, 3) := by decide +kernel
theorem dX4_put_112 : decode cX4_put 112 = .ok (.aload_n 0, 1) := by decide +kernel
theorem dX4_put_113 : decode cX4_put 113 = .ok (.getfield 7, 3) := by decide +kernel
theorem dX4_put_116 : decode cX4_put 116 = .ok (.sipush 181, 3) := by decide +kernel
theorem dX4_put_119 : decode cX4_put 119 = .ok (.dup2, 1) := by decide +kernel
theorem dX4_put_120 : decode cX4_put 120 = .ok (.iaload, 1) := by decide +kernel
theorem dX4_put_121 : decode cX4_put 121 = .ok (.iconst 1, 1) := by decide +kernel
theorem dX4_put_122 : decode cX4_put 122 = .ok (.iadd, 1) := by decide +kernel
theorem dX4_put_123 : decode cX4_put 123 = .ok (.iastore, 1) := by decide +kernel
theorem dX4_put_124 : decode cX4_put 124 = .ok (.iload 5, 2) := by decide +kernel
theorem dX4_put_126 : decode cX4_put 126 = .ok (.ireturn, 1) := by decide +kernel
theorem dX4_takeOff_0 : decode cX4_takeOff 0 = .ok (.aload_n 0, 1) := by decide +kernel
theorem dX4_takeOff_1 : decode cX4_takeOff 1 = .ok (.iconst 0, 1) := by decide +kernel
theorem dX4_takeOff_2 : decode cX4_takeOff 2 = .ok (.putfield 38, 3) := by decide +kernel
theorem dX4_takeOff_5 : decode cX4_takeOff 5 = .ok (.iload_n 1, 1) := by decide +kernel
theorem dX4_takeOff_6 : decode cX4_takeOff 6 = .ok (.invokestatic 128, 3) := by decide +kernel
theorem dX4_takeOff_9 : decode cX4_takeOff 9 = .ok (.ifCond .ne 9, 3) := by decide +kernel
theorem dX4_takeOff_12 : decode cX4_takeOff 12 = .ok (.aload_n 0, 1) := by decide +kernel
theorem dX4_takeOff_13 : decode cX4_takeOff 13 = .ok (.iconst 1, 1) := by decide +kernel
theorem dX4_takeOff_14 : decode cX4_takeOff 14 = .ok (.invokevirtual 134, 3) := by decide +kernel
theorem dX4_takeOff_17 : decode cX4_takeOff 17 = .ok (.ireturn, 1) := by decide +kernel
theorem dX4_takeOff_18 : decode cX4_takeOff 18 = .ok (.aload_n 0, 1) := by decide +kernel
theorem dX4_takeOff_19 : decode cX4_takeOff 19 = .ok (.iload_n 1, 1) := by decide +kernel
theorem dX4_takeOff_20 : decode cX4_takeOff 20 = .ok (.invokevirtual 57, 3) := by decide +kernel
theorem dX4_takeOff_23 : decode cX4_takeOff 23 = .ok (.istore_n 2, 1) := by decide +kernel
theorem dX4_takeOff_24 : decode cX4_takeOff 24 = .ok (.iload_n 2, 1) := by decide +kernel
theorem dX4_takeOff_25 : decode cX4_takeOff 25 = .ok (.iconst (-1), 1) := by decide +kernel
theorem dX4_takeOff_26 : decode cX4_takeOff 26 = .ok (.if_icmp .ne 9, 3) := by decide +kernel
theorem dX4_takeOff_29 : decode cX4_takeOff 29 = .ok (.aload_n 0, 1) := by decide +kernel
theorem dX4_takeOff_30 : decode cX4_takeOff 30 = .ok (.iconst 2, 1) := by decide +kernel
theorem dX4_takeOff_31 : decode cX4_takeOff 31 = .ok (.invokevirtual 134, 3) := by decide +kernel
theorem dX4_takeOff_34 : decode cX4_takeOff 34 = .ok (.ireturn, 1) := by decide +kernel
theorem dX4_takeOff_35 : decode cX4_takeOff 35 = .ok (.aload_n 0, 1) := by decide +kernel
theorem dX4_takeOff_36 : decode cX4_takeOff 36 = .ok (.invokevirtual 137, 3) := by decide +kernel
theorem dX4_takeOff_39 : decode cX4_takeOff 39 = .ok (.aload_n 0, 1) := by decide +kernel
theorem dX4_takeOff_40 : decode cX4_takeOff 40 = .ok (.iload_n 2, 1) := by decide +kernel
theorem dX4_takeOff_41 : decode cX4_takeOff 41 = .ok (.aload_n 0, 1) := by decide +kernel
theorem dX4_takeOff_42 : decode cX4_takeOff 42 = .ok (.iload_n 1, 1) := by decide +kernel
theorem dX4_takeOff_43 : decode cX4_takeOff 43 = .ok (.invokevirtual 122, 3) := by decide +kernel
theorem dX4_takeOff_46 : decode cX4_takeOff 46 = .ok (.invokevirtual 68, 3) := by decide +kernel
theorem dX4_takeOff_49 : decode cX4_takeOff 49 = .ok (.bipush 10, 2) := by decide +kernel
theorem dX4_takeOff_51 : decode cX4_takeOff 51 = .ok (.iload_n 2, 1) := by decide +kernel
theorem dX4_takeOff_52 : decode cX4_takeOff 52 = .ok (.iconst 4, 1) := by decide +kernel
theorem dX4_takeOff_53 : decode cX4_takeOff 53 = .ok (.idiv, 1) := by decide +kernel
theorem dX4_takeOff_54 : decode cX4_takeOff 54 = .ok (.imul, 1) := by decide +kernel
theorem dX4_takeOff_55 : decode cX4_takeOff 55 = .ok (.iload_n 2, 1) := by decide +kernel
theorem dX4_takeOff_56 : decode cX4_takeOff 56 = .ok (.iconst 4, 1) := by decide +kernel
theorem dX4_takeOff_57 : decode cX4_takeOff 57 = .ok (.irem, 1) := by decide +kernel
theorem dX4_takeOff_58 : decode cX4_takeOff 58 = .ok (.iadd, 1) := by decide +kernel
theorem dX4_takeOff_59 : decode cX4_takeOff 59 = .ok (.ireturn, 1) := by decide +kernel
theorem dX4_move_0 : decode cX4_move 0 = .ok (.aload_n 0, 1) := by decide +kernel
theorem dX4_move_1 : decode cX4_move 1 = .ok (.iconst 0, 1) := by decide +kernel
theorem dX4_move_2 : decode cX4_move 2 = .ok (.putfield 38, 3) := by decide +kernel
theorem dX4_move_5 : decode cX4_move 5 = .ok (.iload_n 1, 1) := by decide +kernel
theorem dX4_move_6 : decode cX4_move 6 = .ok (.invokestatic 128, 3) := by decide +kernel
theorem dX4_move_9 : decode cX4_move 9 = .ok (.ifCond .eq 11, 3) := by decide +kernel
theorem dX4_move_12 : decode cX4_move 12 = .ok (.iload_n 2, 1) := by decide +kernel
theorem dX4_move_13 : decode cX4_move 13 = .ok (.iload_n 3, 1) := by decide +kernel
theorem dX4_move_14 : decode cX4_move 14 = .ok (.invokestatic 131, 3) := by decide +kernel
theorem dX4_move_17 : decode cX4_move 17 = .ok (.ifCond .ne 9, 3) := by decide +kernel
theorem dX4_move_20 : decode cX4_move 20 = .ok (.aload_n 0, 1) := by decide +kernel
theorem dX4_move_21 : decode cX4_move 21 = .ok (.iconst 1, 1) := by decide +kernel
theorem dX4_move_22 : decode cX4_move 22 = .ok (.invokevirtual 134, 3) := by decide +kernel
theorem dX4_move_25 : decode cX4_move 25 = .ok (.ireturn, 1) := by decide +kernel
theorem dX4_move_26 : decode cX4_move 26 = .ok (.aload_n 0, 1) := by decide +kernel
theorem dX4_move_27 : decode cX4_move 27 = .ok (.iload_n 1, 1) := by decide +kernel
theorem dX4_move_28 : decode cX4_move 28 = .ok (.invokevirtual 57, 3) := by decide +kernel
theorem dX4_move_31 : decode cX4_move 31 = .ok (.istore 4, 2) := by decide +kernel
theorem dX4_move_33 : decode cX4_move 33 = .ok (.iconst 4, 1) := by decide +kernel
theorem dX4_move_34 : decode cX4_move 34 = .ok (.iload_n 2, 1) := by decide +kernel
theorem dX4_move_35 : decode cX4_move 35 = .ok (.imul, 1) := by decide +kernel
theorem dX4_move_36 : decode cX4_move 36 = .ok (.iload_n 3, 1) := by decide +kernel
theorem dX4_move_37 : decode cX4_move 37 = .ok (.iadd, 1) := by decide +kernel
theorem dX4_move_38 : decode cX4_move 38 = .ok (.istore 5, 2) := by decide +kernel
theorem dX4_move_40 : decode cX4_move 40 = .ok (.iload 4, 2) := by decide +kernel
theorem dX4_move_42 : decode cX4_move 42 = .ok (.iconst (-1), 1) := by decide +kernel
theorem dX4_move_43 : decode cX4_move 43 = .ok (.if_icmp .eq 10, 3) := by decide +kernel
theorem dX4_move_46 : decode cX4_move 46 = .ok (.iload 4, 2) := by decide +kernel
theorem dX4_move_48 : decode cX4_move 48 = .ok (.iload 5, 2) := by decide +kernel
theorem dX4_move_50 : decode cX4_move 50 = .ok (.if_icmp .ne 9, 3) := by decide +kernel
theorem dX4_move_53 : decode cX4_move 53 = .ok (.aload_n 0, 1) := by decide +kernel
theorem dX4_move_54 : decode cX4_move 54 = .ok (.iconst 2, 1) := by decide +kernel
theorem dX4_move_55 : decode cX4_move 55 = .ok (.invokevirtual 134, 3) := by decide +kernel
theorem dX4_move_58 : decode cX4_move 58 = .ok (.ireturn, 1) := by decide +kernel
theorem dX4_move_59 : decode cX4_move 59 = .ok (.aload_n 0, 1) := by decide +kernel
theorem dX4_move_60 : decode cX4_move 60 = .ok (.invokevirtual 137, 3) := by decide +kernel
theorem dX4_move_63 : decode cX4_move 63 = .ok (.aload_n 0, 1) := by decide +kernel
theorem dX4_move_64 : decode cX4_move 64 = .ok (.iload_n 1, 1) := by decide +kernel
theorem dX4_move_65 : decode cX4_move 65 = .ok (.iload 5, 2) := by decide +kernel
theorem dX4_move_67 : decode cX4_move 67 = .ok (.aload_n 0, 1) := by decide +kernel
theorem dX4_move_68 : decode cX4_move 68 = .ok (.getfield 7, 3) := by decide +kernel
theorem dX4_move_71 : decode cX4_move 71 = .ok (.iconst 0, 1) := by decide +kernel
theorem dX4_move_72 : decode cX4_move 72 = .ok (.iload 5, 2) := by decide +kernel
theorem dX4_move_74 : decode cX4_move 74 = .ok (.iadd, 1) := by decide +kernel
theorem dX4_move_75 : decode cX4_move 75 = .ok (.iaload, 1) := by decide +kernel
theorem dX4_move_76 : decode cX4_move 76 = .ok (.invokevirtual 140, 3) := by decide +kernel
theorem dX4_move_79 : decode cX4_move 79 = .ok (.istore 6, 2) := by decide +kernel
theorem dX4_move_81 : decode cX4_move 81 = .ok (.iload 6, 2) := by decide +kernel
theorem dX4_move_83 : decode cX4_move 83 = .ok (.ifCond .ne 45, 3) := by decide +kernel
theorem dX4_move_86 : decode cX4_move 86 = .ok (.aload_n 0, 1) := by decide +kernel
theorem dX4_move_87 : decode cX4_move 87 = .ok (.iload 4, 2) := by decide +kernel
theorem dX4_move_89 : decode cX4_move 89 = .ok (.aload_n 0, 1) := by decide +kernel
theorem dX4_move_90 : decode cX4_move 90 = .ok (.iload_n 1, 1) := by decide +kernel
theorem dX4_move_91 : decode cX4_move 91 = .ok (.invokevirtual 122, 3) := by decide +kernel
theorem dX4_move_94 : decode cX4_move 94 = .ok (.invokevirtual 68, 3) := by decide +kernel
theorem dX4_move_97 : decode cX4_move 97 = .ok (.aload_n 0, 1) := by decide +kernel
theorem dX4_move_98 : decode cX4_move 98 = .ok (.iload_n 1, 1) := by decide +kernel
theorem dX4_move_99 : decode cX4_move 99 = .ok (.iload 5, 2) := by decide +kernel
theorem dX4_move_101 : decode cX4_move 101 = .ok (.aload_n 0, 1) := by decide +kernel
theorem dX4_move_102 : decode cX4_move 102 = .ok (.getfield 7, 3) := by decide +kernel
theorem dX4_move_105 : decode cX4_move 105 = .ok (.iconst 0, 1) := by decide +kernel
theorem dX4_move_106 : decode cX4_move 106 = .ok (.iload 5, 2) := by decide +kernel
theorem dX4_move_108 : decode cX4_move 108 = .ok (.iadd, 1) := by decide +kernel
theorem dX4_move_109 : decode cX4_move 109 = .ok (.iaload, 1) := by decide +kernel
theorem dX4_move_110 : decode cX4_move 110 = .ok (.invokevirtual 144, 3) := by decide +kernel
theorem dX4_move_113 : decode cX4_move 113 = .ok (.aload_n 0, 1) := by decide +kernel
theorem dX4_move_114 : decode cX4_move 114 = .ok (.getfield 7, 3) := by decide +kernel
theorem dX4_move_117 : decode cX4_move 117 = .ok (.sipush 180, 3) := by decide +kernel
theorem dX4_move_120 : decode cX4_move 120 = .ok (.dup2, 1) := by decide +kernel
theorem dX4_move_121 : decode cX4_move 121 = .ok (.iaload, 1) := by decide +kernel
theorem dX4_move_122 : decode cX4_move 122 = .ok (.iconst 1, 1) := by decide +kernel
theorem dX4_move_123 : decode cX4_move 123 = .ok (.iadd, 1) := by decide +kernel
theorem dX4_move_124 : decode cX4_move 124 = .ok (.iastore, 1) := by decide +kernel
theorem dX4_move_125 : decode cX4_move 125 = .ok (.goto 15, 3) := by decide +kernel
theorem dX4_move_128 : decode cX4_move 128 = .ok (.aload_n 0, 1) := by decide +kernel
theorem dX4_move_129 : decode cX4_move 129 = .ok (.getfield 7, 3) := by decide +kernel
theorem dX4_move_132 : decode cX4_move 132 = .ok (.sipush 181, 3) := by decide +kernel
theorem dX4_move_135 : decode cX4_move 135 = .ok (.dup2, 1) := by decide +kernel
theorem dX4_move_136 : decode cX4_move 136 = .ok (.iaload, 1) := by decide +kernel
theorem dX4_move_137 : decode cX4_move 137 = .ok (.iconst 1, 1) := by decide +kernel
theorem dX4_move_138 : decode cX4_move 138 = .ok (.iadd, 1) := by decide +kernel
theorem dX4_move_139 : decode cX4_move 139 = .ok (.iastore, 1) := by decide +kernel
theorem dX4_move_140 : decode cX4_move 140 = .ok (.iload 6, 2) := by decide +kernel
theorem dX4_move_142 : decode cX4_move 142 = .ok (.ireturn, 1) := by decide +kernel
theorem dX4_clearDoor_0 : decode cX4_clearDoor 0 = .ok (.aload_n 0, 1) := by decide +kernel
theorem dX4_clearDoor_1 : decode cX4_clearDoor 1 = .ok (.iconst 0, 1) := by decide +kernel
theorem dX4_clearDoor_2 : decode cX4_clearDoor 2 = .ok (.putfield 38, 3) := by decide +kernel
theorem dX4_clearDoor_5 : decode cX4_clearDoor 5 = .ok (.iload_n 1, 1) := by decide +kernel
theorem dX4_clearDoor_6 : decode cX4_clearDoor 6 = .ok (.invokestatic 46, 3) := by decide +kernel
theorem dX4_clearDoor_9 : decode cX4_clearDoor 9 = .ok (.ifCond .ne 9, 3) := by decide +kernel
theorem dX4_clearDoor_12 : decode cX4_clearDoor 12 = .ok (.aload_n 0, 1) := by decide +kernel
theorem dX4_clearDoor_13 : decode cX4_clearDoor 13 = .ok (.iconst 1, 1) := by decide +kernel
theorem dX4_clearDoor_14 : decode cX4_clearDoor 14 = .ok (.invokevirtual 134, 3) := by decide +kernel
theorem dX4_clearDoor_17 : decode cX4_clearDoor 17 = .ok (.ireturn, 1) := by decide +kernel
theorem dX4_clearDoor_18 : decode cX4_clearDoor 18 = .ok (.aload_n 0, 1) := by decide +kernel
theorem dX4_clearDoor_19 : decode cX4_clearDoor 19 = .ok (.invokevirtual 137, 3) := by decide +kernel
theorem dX4_clearDoor_22 : decode cX4_clearDoor 22 = .ok (.aload_n 0, 1) := by decide +kernel
theorem dX4_clearDoor_23 : decode cX4_clearDoor 23 = .ok (.iload_n 1, 1) := by decide +kernel
theorem dX4_clearDoor_24 : decode cX4_clearDoor 24 = .ok (.invokevirtual 148, 3) := by decide +kernel
theorem dX4_clearDoor_27 : decode cX4_clearDoor 27 = .ok (.ireturn, 1) := by decide +kernel
theorem dX4_canLend_0 : decode cX4_canLend 0 = .ok (.aload_n 0, 1) := by decide +kernel
theorem dX4_canLend_1 : decode cX4_canLend 1 = .ok (.getfield 7, 3) := by decide +kernel
theorem dX4_canLend_4 : decode cX4_canLend 4 = .ok (.iconst 0, 1) := by decide +kernel
theorem dX4_canLend_5 : decode cX4_canLend 5 = .ok (.iload_n 1, 1) := by decide +kernel
theorem dX4_canLend_6 : decode cX4_canLend 6 = .ok (.iadd, 1) := by decide +kernel
theorem dX4_canLend_7 : decode cX4_canLend 7 = .ok (.iaload, 1) := by decide +kernel
theorem dX4_canLend_8 : decode cX4_canLend 8 = .ok (.ifCond .le 28, 3) := by decide +kernel
theorem dX4_canLend_11 : decode cX4_canLend 11 = .ok (.aload_n 0, 1) := by decide +kernel
theorem dX4_canLend_12 : decode cX4_canLend 12 = .ok (.getfield 7, 3) := by decide +kernel
theorem dX4_canLend_15 : decode cX4_canLend 15 = .ok (.bipush 112, 2) := by decide +kernel
theorem dX4_canLend_17 : decode cX4_canLend 17 = .ok (.iload_n 1, 1) := by decide +kernel
theorem dX4_canLend_18 : decode cX4_canLend 18 = .ok (.iadd, 1) := by decide +kernel
theorem dX4_canLend_19 : decode cX4_canLend 19 = .ok (.iaload, 1) := by decide +kernel
theorem dX4_canLend_20 : decode cX4_canLend 20 = .ok (.ifCond .ne 16, 3) := by decide +kernel
theorem dX4_canLend_23 : decode cX4_canLend 23 = .ok (.aload_n 0, 1) := by decide +kernel
theorem dX4_canLend_24 : decode cX4_canLend 24 = .ok (.iload_n 1, 1) := by decide +kernel
theorem dX4_canLend_25 : decode cX4_canLend 25 = .ok (.invokevirtual 151, 3) := by decide +kernel
theorem dX4_canLend_28 : decode cX4_canLend 28 = .ok (.iconst (-1), 1) := by decide +kernel
theorem dX4_canLend_29 : decode cX4_canLend 29 = .ok (.if_icmp .ne 7, 3) := by decide +kernel
theorem dX4_canLend_32 : decode cX4_canLend 32 = .ok (.iconst 1, 1) := by decide +kernel
theorem dX4_canLend_33 : decode cX4_canLend 33 = .ok (.goto 4, 3) := by decide +kernel
theorem dX4_canLend_36 : decode cX4_canLend 36 = .ok (.iconst 0, 1) := by decide +kernel
theorem dX4_canLend_37 : decode cX4_canLend 37 = .ok (.ireturn, 1) := by decide +kernel
theorem dX4_borrow_0 : decode cX4_borrow 0 = .ok (.aload_n 0, 1) := by decide +kernel
theorem dX4_borrow_1 : decode cX4_borrow 1 = .ok (.iconst 0, 1) := by decide +kernel
theorem dX4_borrow_2 : decode cX4_borrow 2 = .ok (.putfield 38, 3) := by decide +kernel
theorem dX4_borrow_5 : decode cX4_borrow 5 = .ok (.iload_n 1, 1) := by decide +kernel
theorem dX4_borrow_6 : decode cX4_borrow 6 = .ok (.iload_n 2, 1) := by decide +kernel
theorem dX4_borrow_7 : decode cX4_borrow 7 = .ok (.invokestatic 131, 3) := by decide +kernel
theorem dX4_borrow_10 : decode cX4_borrow 10 = .ok (.ifCond .eq 12, 3) := by decide +kernel
theorem dX4_borrow_13 : decode cX4_borrow 13 = .ok (.iload_n 3, 1) := by decide +kernel
theorem dX4_borrow_14 : decode cX4_borrow 14 = .ok (.iload 4, 2) := by decide +kernel
theorem dX4_borrow_16 : decode cX4_borrow 16 = .ok (.invokestatic 131, 3) := by decide +kernel
theorem dX4_borrow_19 : decode cX4_borrow 19 = .ok (.ifCond .ne 9, 3) := by decide +kernel
theorem dX4_borrow_22 : decode cX4_borrow 22 = .ok (.aload_n 0, 1) := by decide +kernel
theorem dX4_borrow_23 : decode cX4_borrow 23 = .ok (.iconst 1, 1) := by decide +kernel
theorem dX4_borrow_24 : decode cX4_borrow 24 = .ok (.invokevirtual 134, 3) := by decide +kernel
theorem dX4_borrow_27 : decode cX4_borrow 27 = .ok (.ireturn, 1) := by decide +kernel
theorem dX4_borrow_28 : decode cX4_borrow 28 = .ok (.iload_n 1, 1) := by decide +kernel
theorem dX4_borrow_29 : decode cX4_borrow 29 = .ok (.iload_n 3, 1) := by decide +kernel
theorem dX4_borrow_30 : decode cX4_borrow 30 = .ok (.if_icmp .ne 9, 3) := by decide +kernel
theorem dX4_borrow_33 : decode cX4_borrow 33 = .ok (.aload_n 0, 1) := by decide +kernel
theorem dX4_borrow_34 : decode cX4_borrow 34 = .ok (.iconst 2, 1) := by decide +kernel
theorem dX4_borrow_35 : decode cX4_borrow 35 = .ok (.invokevirtual 134, 3) := by decide +kernel
theorem dX4_borrow_38 : decode cX4_borrow 38 = .ok (.ireturn, 1) := by decide +kernel
theorem dX4_borrow_39 : decode cX4_borrow 39 = .ok (.iconst 4, 1) := by decide +kernel
theorem dX4_borrow_40 : decode cX4_borrow 40 = .ok (.iload_n 1, 1) := by decide +kernel
theorem dX4_borrow_41 : decode cX4_borrow 41 = .ok (.imul, 1) := by decide +kernel
theorem dX4_borrow_42 : decode cX4_borrow 42 = .ok (.iload_n 2, 1) := by decide +kernel
theorem dX4_borrow_43 : decode cX4_borrow 43 = .ok (.iadd, 1) := by decide +kernel
theorem dX4_borrow_44 : decode cX4_borrow 44 = .ok (.istore 5, 2) := by decide +kernel
theorem dX4_borrow_46 : decode cX4_borrow 46 = .ok (.iconst 4, 1) := by decide +kernel
theorem dX4_borrow_47 : decode cX4_borrow 47 = .ok (.iload_n 3, 1) := by decide +kernel
theorem dX4_borrow_48 : decode cX4_borrow 48 = .ok (.imul, 1) := by decide +kernel
theorem dX4_borrow_49 : decode cX4_borrow 49 = .ok (.iload 4, 2) := by decide +kernel
theorem dX4_borrow_51 : decode cX4_borrow 51 = .ok (.iadd, 1) := by decide +kernel
theorem dX4_borrow_52 : decode cX4_borrow 52 = .ok (.istore 6, 2) := by decide +kernel
theorem dX4_borrow_54 : decode cX4_borrow 54 = .ok (.aload_n 0, 1) := by decide +kernel
theorem dX4_borrow_55 : decode cX4_borrow 55 = .ok (.iload 5, 2) := by decide +kernel
theorem dX4_borrow_57 : decode cX4_borrow 57 = .ok (.invokevirtual 154, 3) := by decide +kernel
theorem dX4_borrow_60 : decode cX4_borrow 60 = .ok (.ifCond .eq 12, 3) := by decide +kernel
theorem dX4_borrow_63 : decode cX4_borrow 63 = .ok (.aload_n 0, 1) := by decide +kernel
theorem dX4_borrow_64 : decode cX4_borrow 64 = .ok (.iload 6, 2) := by decide +kernel
theorem dX4_borrow_66 : decode cX4_borrow 66 = .ok (.invokevirtual 154, 3) := by decide +kernel
theorem dX4_borrow_69 : decode cX4_borrow 69 = .ok (.ifCond .ne 9, 3) := by decide +kernel
theorem dX4_borrow_72 : decode cX4_borrow 72 = .ok (.aload_n 0, 1) := by decide +kernel
theorem dX4_borrow_73 : decode cX4_borrow 73 = .ok (.iconst 3, 1) := by decide +kernel
theorem dX4_borrow_74 : decode cX4_borrow 74 = .ok (.invokevirtual 134, 3) := by decide +kernel
theorem dX4_borrow_77 : decode cX4_borrow 77 = .ok (.ireturn, 1) := by decide +kernel
theorem dX4_borrow_78 : decode cX4_borrow 78 = .ok (.aload_n 0, 1) := by decide +kernel
theorem dX4_borrow_79 : decode cX4_borrow 79 = .ok (.invokevirtual 137, 3) := by decide +kernel
theorem dX4_borrow_82 : decode cX4_borrow 82 = .ok (.aload_n 0, 1) := by decide +kernel
theorem dX4_borrow_83 : decode cX4_borrow 83 = .ok (.getfield 7, 3) := by decide +kernel
theorem dX4_borrow_86 : decode cX4_borrow 86 = .ok (.bipush 112, 2) := by decide +kernel
theorem dX4_borrow_88 : decode cX4_borrow 88 = .ok (.iload 5, 2) := by decide +kernel
theorem dX4_borrow_90 : decode cX4_borrow 90 = .ok (.iadd, 1) := by decide +kernel
theorem dX4_borrow_91 : decode cX4_borrow 91 = .ok (.iload 6, 2) := by decide +kernel
theorem dX4_borrow_93 : decode cX4_borrow 93 = .ok (.iconst 1, 1) := by decide +kernel
theorem dX4_borrow_94 : decode cX4_borrow 94 = .ok (.iadd, 1) := by decide +kernel
theorem dX4_borrow_95 : decode cX4_borrow 95 = .ok (.iastore, 1) := by decide +kernel
theorem dX4_borrow_96 : decode cX4_borrow 96 = .ok (.aload_n 0, 1) := by decide +kernel
theorem dX4_borrow_97 : decode cX4_borrow 97 = .ok (.iload 5, 2) := by decide +kernel
theorem dX4_borrow_99 : decode cX4_borrow 99 = .ok (.invokevirtual 94, 3) := by decide +kernel
theorem dX4_borrow_102 : decode cX4_borrow 102 = .ok (.ireturn, 1) := by decide +kernel
theorem dX4_bringBack_0 : decode cX4_bringBack 0 = .ok (.aload_n 0, 1) := by decide +kernel
theorem dX4_bringBack_1 : decode cX4_bringBack 1 = .ok (.iconst 0, 1) := by decide +kernel
theorem dX4_bringBack_2 : decode cX4_bringBack 2 = .ok (.putfield 38, 3) := by decide +kernel
theorem dX4_bringBack_5 : decode cX4_bringBack 5 = .ok (.iload_n 1, 1) := by decide +kernel
theorem dX4_bringBack_6 : decode cX4_bringBack 6 = .ok (.iload_n 2, 1) := by decide +kernel
theorem dX4_bringBack_7 : decode cX4_bringBack 7 = .ok (.invokestatic 131, 3) := by decide +kernel
theorem dX4_bringBack_10 : decode cX4_bringBack 10 = .ok (.ifCond .ne 9, 3) := by decide +kernel
theorem dX4_bringBack_13 : decode cX4_bringBack 13 = .ok (.aload_n 0, 1) := by decide +kernel
theorem dX4_bringBack_14 : decode cX4_bringBack 14 = .ok (.iconst 1, 1) := by decide +kernel
theorem dX4_bringBack_15 : decode cX4_bringBack 15 = .ok (.invokevirtual 134, 3) := by decide +kernel
theorem dX4_bringBack_18 : decode cX4_bringBack 18 = .ok (.ireturn, 1) := by decide +kernel
theorem dX4_bringBack_19 : decode cX4_bringBack 19 = .ok (.aload_n 0, 1) := by decide +kernel
theorem dX4_bringBack_20 : decode cX4_bringBack 20 = .ok (.getfield 7, 3) := by decide +kernel
theorem dX4_bringBack_23 : decode cX4_bringBack 23 = .ok (.bipush 112, 2) := by decide +kernel
theorem dX4_bringBack_25 : decode cX4_bringBack 25 = .ok (.iconst 4, 1) := by decide +kernel
theorem dX4_bringBack_26 : decode cX4_bringBack 26 = .ok (.iload_n 1, 1) := by decide +kernel
theorem dX4_bringBack_27 : decode cX4_bringBack 27 = .ok (.imul, 1) := by decide +kernel
theorem dX4_bringBack_28 : decode cX4_bringBack 28 = .ok (.iadd, 1) := by decide +kernel
theorem dX4_bringBack_29 : decode cX4_bringBack 29 = .ok (.iload_n 2, 1) := by decide +kernel
theorem dX4_bringBack_30 : decode cX4_bringBack 30 = .ok (.iadd, 1) := by decide +kernel
theorem dX4_bringBack_31 : decode cX4_bringBack 31 = .ok (.iaload, 1) := by decide +kernel
theorem dX4_bringBack_32 : decode cX4_bringBack 32 = .ok (.ifCond .ne 9, 3) := by decide +kernel
theorem dX4_bringBack_35 : decode cX4_bringBack 35 = .ok (.aload_n 0, 1) := by decide +kernel
theorem dX4_bringBack_36 : decode cX4_bringBack 36 = .ok (.iconst 2, 1) := by decide +kernel
theorem dX4_bringBack_37 : decode cX4_bringBack 37 = .ok (.invokevirtual 134, 3) := by decide +kernel
theorem dX4_bringBack_40 : decode cX4_bringBack 40 = .ok (.ireturn, 1) := by decide +kernel
theorem dX4_bringBack_41 : decode cX4_bringBack 41 = .ok (.aload_n 0, 1) := by decide +kernel
theorem dX4_bringBack_42 : decode cX4_bringBack 42 = .ok (.invokevirtual 137, 3) := by decide +kernel
theorem dX4_bringBack_45 : decode cX4_bringBack 45 = .ok (.aload_n 0, 1) := by decide +kernel
theorem dX4_bringBack_46 : decode cX4_bringBack 46 = .ok (.getfield 7, 3) := by decide +kernel
theorem dX4_bringBack_49 : decode cX4_bringBack 49 = .ok (.bipush 112, 2) := by decide +kernel
theorem dX4_bringBack_51 : decode cX4_bringBack 51 = .ok (.iconst 4, 1) := by decide +kernel
theorem dX4_bringBack_52 : decode cX4_bringBack 52 = .ok (.iload_n 1, 1) := by decide +kernel
theorem dX4_bringBack_53 : decode cX4_bringBack 53 = .ok (.imul, 1) := by decide +kernel
theorem dX4_bringBack_54 : decode cX4_bringBack 54 = .ok (.iadd, 1) := by decide +kernel
theorem dX4_bringBack_55 : decode cX4_bringBack 55 = .ok (.iload_n 2, 1) := by decide +kernel
theorem dX4_bringBack_56 : decode cX4_bringBack 56 = .ok (.iadd, 1) := by decide +kernel
theorem dX4_bringBack_57 : decode cX4_bringBack 57 = .ok (.iconst 0, 1) := by decide +kernel
theorem dX4_bringBack_58 : decode cX4_bringBack 58 = .ok (.iastore, 1) := by decide +kernel
theorem dX4_bringBack_59 : decode cX4_bringBack 59 = .ok (.aload_n 0, 1) := by decide +kernel
theorem dX4_bringBack_60 : decode cX4_bringBack 60 = .ok (.iconst 4, 1) := by decide +kernel
theorem dX4_bringBack_61 : decode cX4_bringBack 61 = .ok (.iload_n 1, 1) := by decide +kernel
theorem dX4_bringBack_62 : decode cX4_bringBack 62 = .ok (.imul, 1) := by decide +kernel
theorem dX4_bringBack_63 : decode cX4_bringBack 63 = .ok (.iload_n 2, 1) := by decide +kernel
theorem dX4_bringBack_64 : decode cX4_bringBack 64 = .ok (.iadd, 1) := by decide +kernel
theorem dX4_bringBack_65 : decode cX4_bringBack 65 = .ok (.invokevirtual 94, 3) := by decide +kernel
theorem dX4_bringBack_68 : decode cX4_bringBack 68 = .ok (.ireturn, 1) := by decide +kernel
theorem dX4_sleep_0 : decode cX4_sleep 0 = .ok (.aload_n 0, 1) := by decide +kernel
theorem dX4_sleep_1 : decode cX4_sleep 1 = .ok (.iconst 0, 1) := by decide +kernel
theorem dX4_sleep_2 : decode cX4_sleep 2 = .ok (.putfield 38, 3) := by decide +kernel
theorem dX4_sleep_5 : decode cX4_sleep 5 = .ok (.iload_n 1, 1) := by decide +kernel
theorem dX4_sleep_6 : decode cX4_sleep 6 = .ok (.iconst 1, 1) := by decide +kernel
theorem dX4_sleep_7 : decode cX4_sleep 7 = .ok (.bipush 20, 2) := by decide +kernel
theorem dX4_sleep_9 : decode cX4_sleep 9 = .ok (.invokestatic 42, 3) := by decide +kernel
theorem dX4_sleep_12 : decode cX4_sleep 12 = .ok (.ifCond .ne 9, 3) := by decide +kernel
theorem dX4_sleep_15 : decode cX4_sleep 15 = .ok (.aload_n 0, 1) := by decide +kernel
theorem dX4_sleep_16 : decode cX4_sleep 16 = .ok (.iconst 1, 1) := by decide +kernel
theorem dX4_sleep_17 : decode cX4_sleep 17 = .ok (.invokevirtual 134, 3) := by decide +kernel
theorem dX4_sleep_20 : decode cX4_sleep 20 = .ok (.ireturn, 1) := by decide +kernel
theorem dX4_sleep_21 : decode cX4_sleep 21 = .ok (.aload_n 0, 1) := by decide +kernel
theorem dX4_sleep_22 : decode cX4_sleep 22 = .ok (.getfield 7, 3) := by decide +kernel
theorem dX4_sleep_25 : decode cX4_sleep 25 = .ok (.sipush 179, 3) := by decide +kernel
theorem dX4_sleep_28 : decode cX4_sleep 28 = .ok (.iaload, 1) := by decide +kernel
theorem dX4_sleep_29 : decode cX4_sleep 29 = .ok (.iload_n 1, 1) := by decide +kernel
theorem dX4_sleep_30 : decode cX4_sleep 30 = .ok (.iadd, 1) := by decide +kernel
theorem dX4_sleep_31 : decode cX4_sleep 31 = .ok (.sipush 9999, 3) := by decide +kernel
theorem dX4_sleep_34 : decode cX4_sleep 34 = .ok (.if_icmp .le 9, 3) := by decide +kernel
theorem dX4_sleep_37 : decode cX4_sleep 37 = .ok (.aload_n 0, 1) := by decide +kernel
theorem dX4_sleep_38 : decode cX4_sleep 38 = .ok (.iconst 2, 1) := by decide +kernel
theorem dX4_sleep_39 : decode cX4_sleep 39 = .ok (.invokevirtual 134, 3) := by decide +kernel
theorem dX4_sleep_42 : decode cX4_sleep 42 = .ok (.ireturn, 1) := by decide +kernel
theorem dX4_sleep_43 : decode cX4_sleep 43 = .ok (.aload_n 0, 1) := by decide +kernel
theorem dX4_sleep_44 : decode cX4_sleep 44 = .ok (.invokevirtual 137, 3) := by decide +kernel
theorem dX4_sleep_47 : decode cX4_sleep 47 = .ok (.aload_n 0, 1) := by decide +kernel
theorem dX4_sleep_48 : decode cX4_sleep 48 = .ok (.iload_n 1, 1) := by decide +kernel
theorem dX4_sleep_49 : decode cX4_sleep 49 = .ok (.invokevirtual 157, 3) := by decide +kernel
theorem dX4_sleep_52 : decode cX4_sleep 52 = .ok (.ireturn, 1) := by decide +kernel
theorem dX4_mostOf_0 : decode cX4_mostOf 0 = .ok (.iload_n 0, 1) := by decide +kernel
theorem dX4_mostOf_1 : decode cX4_mostOf 1 = .ok (.ifCond .ne 7, 3) := by decide +kernel
theorem dX4_mostOf_4 : decode cX4_mostOf 4 = .ok (.iconst 1, 1) := by decide +kernel
theorem dX4_mostOf_5 : decode cX4_mostOf 5 = .ok (.goto 16, 3) := by decide +kernel
theorem dX4_mostOf_8 : decode cX4_mostOf 8 = .ok (.iload_n 0, 1) := by decide +kernel
theorem dX4_mostOf_9 : decode cX4_mostOf 9 = .ok (.iconst 1, 1) := by decide +kernel
theorem dX4_mostOf_10 : decode cX4_mostOf 10 = .ok (.if_icmp .ne 9, 3) := by decide +kernel
theorem dX4_mostOf_13 : decode cX4_mostOf 13 = .ok (.sipush 200, 3) := by decide +kernel
theorem dX4_mostOf_16 : decode cX4_mostOf 16 = .ok (.goto 5, 3) := by decide +kernel
theorem dX4_mostOf_19 : decode cX4_mostOf 19 = .ok (.bipush 9, 2) := by decide +kernel
theorem dX4_mostOf_21 : decode cX4_mostOf 21 = .ok (.ireturn, 1) := by decide +kernel
theorem dX4_set_0 : decode cX4_set 0 = .ok (.aload_n 0, 1) := by decide +kernel
theorem dX4_set_1 : decode cX4_set 1 = .ok (.iconst 0, 1) := by decide +kernel
theorem dX4_set_2 : decode cX4_set 2 = .ok (.putfield 38, 3) := by decide +kernel
theorem dX4_set_5 : decode cX4_set 5 = .ok (.iload_n 1, 1) := by decide +kernel
theorem dX4_set_6 : decode cX4_set 6 = .ok (.iconst 0, 1) := by decide +kernel
theorem dX4_set_7 : decode cX4_set 7 = .ok (.iconst 2, 1) := by decide +kernel
theorem dX4_set_8 : decode cX4_set 8 = .ok (.invokestatic 42, 3) := by decide +kernel
theorem dX4_set_11 : decode cX4_set 11 = .ok (.ifCond .ne 9, 3) := by decide +kernel
theorem dX4_set_14 : decode cX4_set 14 = .ok (.aload_n 0, 1) := by decide +kernel
theorem dX4_set_15 : decode cX4_set 15 = .ok (.iconst 1, 1) := by decide +kernel
theorem dX4_set_16 : decode cX4_set 16 = .ok (.invokevirtual 134, 3) := by decide +kernel
theorem dX4_set_19 : decode cX4_set 19 = .ok (.ireturn, 1) := by decide +kernel
theorem dX4_set_20 : decode cX4_set 20 = .ok (.iload_n 2, 1) := by decide +kernel
theorem dX4_set_21 : decode cX4_set 21 = .ok (.iconst 0, 1) := by decide +kernel
theorem dX4_set_22 : decode cX4_set 22 = .ok (.iload_n 1, 1) := by decide +kernel
theorem dX4_set_23 : decode cX4_set 23 = .ok (.invokestatic 160, 3) := by decide +kernel
theorem dX4_set_26 : decode cX4_set 26 = .ok (.invokestatic 42, 3) := by decide +kernel
theorem dX4_set_29 : decode cX4_set 29 = .ok (.ifCond .ne 9, 3) := by decide +kernel
theorem dX4_set_32 : decode cX4_set 32 = .ok (.aload_n 0, 1) := by decide +kernel
theorem dX4_set_33 : decode cX4_set 33 = .ok (.iconst 2, 1) := by decide +kernel
theorem dX4_set_34 : decode cX4_set 34 = .ok (.invokevirtual 134, 3) := by decide +kernel
theorem dX4_set_37 : decode cX4_set 37 = .ok (.ireturn, 1) := by decide +kernel
theorem dX4_set_38 : decode cX4_set 38 = .ok (.aload_n 0, 1) := by decide +kernel
theorem dX4_set_39 : decode cX4_set 39 = .ok (.invokevirtual 137, 3) := by decide +kernel
theorem dX4_set_42 : decode cX4_set 42 = .ok (.aload_n 0, 1) := by decide +kernel
theorem dX4_set_43 : decode cX4_set 43 = .ok (.getfield 7, 3) := by decide +kernel
theorem dX4_set_46 : decode cX4_set 46 = .ok (.sipush 176, 3) := by decide +kernel
theorem dX4_set_49 : decode cX4_set 49 = .ok (.iload_n 1, 1) := by decide +kernel
theorem dX4_set_50 : decode cX4_set 50 = .ok (.iadd, 1) := by decide +kernel
theorem dX4_set_51 : decode cX4_set 51 = .ok (.iaload, 1) := by decide +kernel
theorem dX4_set_52 : decode cX4_set 52 = .ok (.istore_n 3, 1) := by decide +kernel
theorem dX4_set_53 : decode cX4_set 53 = .ok (.aload_n 0, 1) := by decide +kernel
theorem dX4_set_54 : decode cX4_set 54 = .ok (.getfield 7, 3) := by decide +kernel
theorem dX4_set_57 : decode cX4_set 57 = .ok (.sipush 176, 3) := by decide +kernel
theorem dX4_set_60 : decode cX4_set 60 = .ok (.iload_n 1, 1) := by decide +kernel
theorem dX4_set_61 : decode cX4_set 61 = .ok (.iadd, 1) := by decide +kernel
theorem dX4_set_62 : decode cX4_set 62 = .ok (.iload_n 2, 1) := by decide +kernel
theorem dX4_set_63 : decode cX4_set 63 = .ok (.iastore, 1) := by decide +kernel
theorem dX4_set_64 : decode cX4_set 64 = .ok (.iload_n 3, 1) := by decide +kernel
theorem dX4_set_65 : decode cX4_set 65 = .ok (.ireturn, 1) := by decide +kernel
theorem dX4_append_0 : decode cX4_append 0 = .ok (.aload_n 0, 1) := by decide +kernel
theorem dX4_append_1 : decode cX4_append 1 = .ok (.iconst 0, 1) := by decide +kernel
theorem dX4_append_2 : decode cX4_append 2 = .ok (.putfield 38, 3) := by decide +kernel
theorem dX4_append_5 : decode cX4_append 5 = .ok (.iload_n 1, 1) := by decide +kernel
theorem dX4_append_6 : decode cX4_append 6 = .ok (.bipush 33, 2) := by decide +kernel
theorem dX4_append_8 : decode cX4_append 8 = .ok (.bipush 126, 2) := by decide +kernel
theorem dX4_append_10 : decode cX4_append 10 = .ok (.invokestatic 42, 3) := by decide +kernel
theorem dX4_append_13 : decode cX4_append 13 = .ok (.ifCond .ne 9, 3) := by decide +kernel
theorem dX4_append_16 : decode cX4_append 16 = .ok (.aload_n 0, 1) := by decide +kernel
theorem dX4_append_17 : decode cX4_append 17 = .ok (.iconst 1, 1) := by decide +kernel
theorem dX4_append_18 : decode cX4_append 18 = .ok (.invokevirtual 134, 3) := by decide +kernel
theorem dX4_append_21 : decode cX4_append 21 = .ok (.ireturn, 1) := by decide +kernel
theorem dX4_append_22 : decode cX4_append 22 = .ok (.aload_n 0, 1) := by decide +kernel
theorem dX4_append_23 : decode cX4_append 23 = .ok (.getfield 163, 3) := by decide +kernel
theorem dX4_append_26 : decode cX4_append 26 = .ok (.bipush 60, 2) := by decide +kernel
theorem dX4_append_28 : decode cX4_append 28 = .ok (.if_icmp .ne 9, 3) := by decide +kernel
theorem dX4_append_31 : decode cX4_append 31 = .ok (.aload_n 0, 1) := by decide +kernel
theorem dX4_append_32 : decode cX4_append 32 = .ok (.iconst 2, 1) := by decide +kernel
theorem dX4_append_33 : decode cX4_append 33 = .ok (.invokevirtual 134, 3) := by decide +kernel
theorem dX4_append_36 : decode cX4_append 36 = .ok (.ireturn, 1) := by decide +kernel
theorem dX4_append_37 : decode cX4_append 37 = .ok (.aload_n 0, 1) := by decide +kernel
theorem dX4_append_38 : decode cX4_append 38 = .ok (.getfield 26, 3) := by decide +kernel
theorem dX4_append_41 : decode cX4_append 41 = .ok (.aload_n 0, 1) := by decide +kernel
theorem dX4_append_42 : decode cX4_append 42 = .ok (.getfield 163, 3) := by decide +kernel
theorem dX4_append_45 : decode cX4_append 45 = .ok (.iload_n 1, 1) := by decide +kernel
theorem dX4_append_46 : decode cX4_append 46 = .ok (.iastore, 1) := by decide +kernel
theorem dX4_append_47 : decode cX4_append 47 = .ok (.aload_n 0, 1) := by decide +kernel
theorem dX4_append_48 : decode cX4_append 48 = .ok (.dup, 1) := by decide +kernel
theorem dX4_append_49 : decode cX4_append 49 = .ok (.getfield 163, 3) := by decide +kernel
theorem dX4_append_52 : decode cX4_append 52 = .ok (.iconst 1, 1) := by decide +kernel
theorem dX4_append_53 : decode cX4_append 53 = .ok (.iadd, 1) := by decide +kernel
theorem dX4_append_54 : decode cX4_append 54 = .ok (.putfield 163, 3) := by decide +kernel
theorem dX4_append_57 : decode cX4_append 57 = .ok (.aload_n 0, 1) := by decide +kernel
theorem dX4_append_58 : decode cX4_append 58 = .ok (.getfield 163, 3) := by decide +kernel
theorem dX4_append_61 : decode cX4_append 61 = .ok (.ireturn, 1) := by decide +kernel
theorem dX4_clearBuffer_0 : decode cX4_clearBuffer 0 = .ok (.aload_n 0, 1) := by decide +kernel
theorem dX4_clearBuffer_1 : decode cX4_clearBuffer 1 = .ok (.iconst 0, 1) := by decide +kernel
theorem dX4_clearBuffer_2 : decode cX4_clearBuffer 2 = .ok (.putfield 38, 3) := by decide +kernel
theorem dX4_clearBuffer_5 : decode cX4_clearBuffer 5 = .ok (.aload_n 0, 1) := by decide +kernel
theorem dX4_clearBuffer_6 : decode cX4_clearBuffer 6 = .ok (.getfield 163, 3) := by decide +kernel
theorem dX4_clearBuffer_9 : decode cX4_clearBuffer 9 = .ok (.istore_n 1, 1) := by decide +kernel
theorem dX4_clearBuffer_10 : decode cX4_clearBuffer 10 = .ok (.aload_n 0, 1) := by decide +kernel
theorem dX4_clearBuffer_11 : decode cX4_clearBuffer 11 = .ok (.iconst 0, 1) := by decide +kernel
theorem dX4_clearBuffer_12 : decode cX4_clearBuffer 12 = .ok (.putfield 163, 3) := by decide +kernel
theorem dX4_clearBuffer_15 : decode cX4_clearBuffer 15 = .ok (.iload_n 1, 1) := by decide +kernel
theorem dX4_clearBuffer_16 : decode cX4_clearBuffer 16 = .ok (.ireturn, 1) := by decide +kernel
theorem dX4_hasStood_0 : decode cX4_hasStood 0 = .ok (.aload_n 0, 1) := by decide +kernel
theorem dX4_hasStood_1 : decode cX4_hasStood 1 = .ok (.getfield 166, 3) := by decide +kernel
theorem dX4_hasStood_4 : decode cX4_hasStood 4 = .ok (.iload_n 1, 1) := by decide +kernel
theorem dX4_hasStood_5 : decode cX4_hasStood 5 = .ok (.lshr, 1) := by decide +kernel
theorem dX4_hasStood_6 : decode cX4_hasStood 6 = .ok (.lconst 1, 1) := by decide +kernel
theorem dX4_hasStood_7 : decode cX4_hasStood 7 = .ok (.land, 1) := by decide +kernel
theorem dX4_hasStood_8 : decode cX4_hasStood 8 = .ok (.lconst 1, 1) := by decide +kernel
theorem dX4_hasStood_9 : decode cX4_hasStood 9 = .ok (.lcmp, 1) := by decide +kernel
theorem dX4_hasStood_10 : decode cX4_hasStood 10 = .ok (.ifCond .ne 7, 3) := by decide +kernel
theorem dX4_hasStood_13 : decode cX4_hasStood 13 = .ok (.iconst 1, 1) := by decide +kernel
theorem dX4_hasStood_14 : decode cX4_hasStood 14 = .ok (.goto 4, 3) := by decide +kernel
theorem dX4_hasStood_17 : decode cX4_hasStood 17 = .ok (.iconst 0, 1) := by decide +kernel
theorem dX4_hasStood_18 : decode cX4_hasStood 18 = .ok (.ireturn, 1) := by decide +kernel
theorem dX4_digitAt_0 : decode cX4_digitAt 0 = .ok (.iload_n 1, 1) := by decide +kernel
theorem dX4_digitAt_1 : decode cX4_digitAt 1 = .ok (.aload_n 0, 1) := by decide +kernel
theorem dX4_digitAt_2 : decode cX4_digitAt 2 = .ok (.getfield 163, 3) := by decide +kernel
theorem dX4_digitAt_5 : decode cX4_digitAt 5 = .ok (.if_icmp .ge 31, 3) := by decide +kernel
theorem dX4_digitAt_8 : decode cX4_digitAt 8 = .ok (.aload_n 0, 1) := by decide +kernel
theorem dX4_digitAt_9 : decode cX4_digitAt 9 = .ok (.getfield 26, 3) := by decide +kernel
theorem dX4_digitAt_12 : decode cX4_digitAt 12 = .ok (.iload_n 1, 1) := by decide +kernel
theorem dX4_digitAt_13 : decode cX4_digitAt 13 = .ok (.iaload, 1) := by decide +kernel
theorem dX4_digitAt_14 : decode cX4_digitAt 14 = .ok (.bipush 48, 2) := by decide +kernel
theorem dX4_digitAt_16 : decode cX4_digitAt 16 = .ok (.bipush 57, 2) := by decide +kernel
theorem dX4_digitAt_18 : decode cX4_digitAt 18 = .ok (.invokestatic 42, 3) := by decide +kernel
theorem dX4_digitAt_21 : decode cX4_digitAt 21 = .ok (.ifCond .eq 15, 3) := by decide +kernel
theorem dX4_digitAt_24 : decode cX4_digitAt 24 = .ok (.aload_n 0, 1) := by decide +kernel
theorem dX4_digitAt_25 : decode cX4_digitAt 25 = .ok (.getfield 26, 3) := by decide +kernel
theorem dX4_digitAt_28 : decode cX4_digitAt 28 = .ok (.iload_n 1, 1) := by decide +kernel
theorem dX4_digitAt_29 : decode cX4_digitAt 29 = .ok (.iaload, 1) := by decide +kernel
theorem dX4_digitAt_30 : decode cX4_digitAt 30 = .ok (.bipush 48, 2) := by decide +kernel
theorem dX4_digitAt_32 : decode cX4_digitAt 32 = .ok (.isub, 1) := by decide +kernel
theorem dX4_digitAt_33 : decode cX4_digitAt 33 = .ok (.goto 4, 3) := by decide +kernel
theorem dX4_digitAt_36 : decode cX4_digitAt 36 = .ok (.iconst (-1), 1) := by decide +kernel
theorem dX4_digitAt_37 : decode cX4_digitAt 37 = .ok (.ireturn, 1) := by decide +kernel
theorem dX4_canBegin_0 : decode cX4_canBegin 0 = .ok (.aload_n 0, 1) := by decide +kernel
theorem dX4_canBegin_1 : decode cX4_canBegin 1 = .ok (.iload_n 1, 1) := by decide +kernel
theorem dX4_canBegin_2 : decode cX4_canBegin 2 = .ok (.invokevirtual 170, 3) := by decide +kernel
theorem dX4_canBegin_5 : decode cX4_canBegin 5 = .ok (.ifCond .ne 7, 3) := by decide +kernel
theorem dX4_canBegin_8 : decode cX4_canBegin 8 = .ok (.iconst 1, 1) := by decide +kernel
theorem dX4_canBegin_9 : decode cX4_canBegin 9 = .ok (.goto 4, 3) := by decide +kernel
theorem dX4_canBegin_12 : decode cX4_canBegin 12 = .ok (.iconst 0, 1) := by decide +kernel
theorem dX4_canBegin_13 : decode cX4_canBegin 13 = .ok (.istore_n 2, 1) := by decide +kernel
theorem dX4_canBegin_14 : decode cX4_canBegin 14 = .ok (.bipush 10, 2) := by decide +kernel
theorem dX4_canBegin_16 : decode cX4_canBegin 16 = .ok (.iload_n 1, 1) := by decide +kernel
theorem dX4_canBegin_17 : decode cX4_canBegin 17 = .ok (.imul, 1) := by decide +kernel
theorem dX4_canBegin_18 : decode cX4_canBegin 18 = .ok (.istore_n 3, 1) := by decide +kernel
theorem dX4_canBegin_19 : decode cX4_canBegin 19 = .ok (.iload_n 3, 1) := by decide +kernel
theorem dX4_canBegin_20 : decode cX4_canBegin 20 = .ok (.bipush 10, 2) := by decide +kernel
theorem dX4_canBegin_22 : decode cX4_canBegin 22 = .ok (.iload_n 1, 1) := by decide +kernel
theorem dX4_canBegin_23 : decode cX4_canBegin 23 = .ok (.imul, 1) := by decide +kernel
theorem dX4_canBegin_24 : decode cX4_canBegin 24 = .ok (.bipush 10, 2) := by decide +kernel
theorem dX4_canBegin_26 : decode cX4_canBegin 26 = .ok (.iadd, 1) := by decide +kernel
theorem dX4_canBegin_27 : decode cX4_canBegin 27 = .ok (.if_icmp .ge 36, 3) := by decide +kernel
theorem dX4_canBegin_30 : decode cX4_canBegin 30 = .ok (.iload_n 1, 1) := by decide +kernel
theorem dX4_canBegin_31 : decode cX4_canBegin 31 = .ok (.iconst 1, 1) := by decide +kernel
theorem dX4_canBegin_32 : decode cX4_canBegin 32 = .ok (.iconst 3, 1) := by decide +kernel
theorem dX4_canBegin_33 : decode cX4_canBegin 33 = .ok (.invokestatic 42, 3) := by decide +kernel
theorem dX4_canBegin_36 : decode cX4_canBegin 36 = .ok (.ifCond .eq 27, 3) := by decide +kernel
theorem dX4_canBegin_39 : decode cX4_canBegin 39 = .ok (.iload_n 2, 1) := by decide +kernel
theorem dX4_canBegin_40 : decode cX4_canBegin 40 = .ok (.ifCond .ne 11, 3) := by decide +kernel
theorem dX4_canBegin_43 : decode cX4_canBegin 43 = .ok (.aload_n 0, 1) := by decide +kernel
theorem dX4_canBegin_44 : decode cX4_canBegin 44 = .ok (.iload_n 3, 1) := by decide +kernel
theorem dX4_canBegin_45 : decode cX4_canBegin 45 = .ok (.invokevirtual 170, 3) := by decide +kernel
theorem dX4_canBegin_48 : decode cX4_canBegin 48 = .ok (.ifCond .ne 7, 3) := by decide +kernel
theorem dX4_canBegin_51 : decode cX4_canBegin 51 = .ok (.iconst 1, 1) := by decide +kernel
theorem dX4_canBegin_52 : decode cX4_canBegin 52 = .ok (.goto 4, 3) := by decide +kernel
theorem dX4_canBegin_55 : decode cX4_canBegin 55 = .ok (.iconst 0, 1) := by decide +kernel
theorem dX4_canBegin_56 : decode cX4_canBegin 56 = .ok (.istore_n 2, 1) := by decide +kernel
theorem dX4_canBegin_57 : decode cX4_canBegin 57 = .ok (.iinc 3 1, 3) := by decide +kernel
theorem dX4_canBegin_60 : decode cX4_canBegin 60 = .ok (.goto (-41), 3) := by decide +kernel
theorem dX4_canBegin_63 : decode cX4_canBegin 63 = .ok (.iload_n 2, 1) := by decide +kernel
theorem dX4_canBegin_64 : decode cX4_canBegin 64 = .ok (.ireturn, 1) := by decide +kernel
theorem dX4_readNumber_0 : decode cX4_readNumber 0 = .ok (.aload_n 0, 1) := by decide +kernel
theorem dX4_readNumber_1 : decode cX4_readNumber 1 = .ok (.aload_n 0, 1) := by decide +kernel
theorem dX4_readNumber_2 : decode cX4_readNumber 2 = .ok (.getfield 173, 3) := by decide +kernel
theorem dX4_readNumber_5 : decode cX4_readNumber 5 = .ok (.invokevirtual 176, 3) := by decide +kernel
theorem dX4_readNumber_8 : decode cX4_readNumber 8 = .ok (.istore_n 1, 1) := by decide +kernel
theorem dX4_readNumber_9 : decode cX4_readNumber 9 = .ok (.iload_n 1, 1) := by decide +kernel
theorem dX4_readNumber_10 : decode cX4_readNumber 10 = .ok (.iconst (-1), 1) := by decide +kernel
theorem dX4_readNumber_11 : decode cX4_readNumber 11 = .ok (.if_icmp .eq 11, 3) := by decide +kernel
theorem dX4_readNumber_14 : decode cX4_readNumber 14 = .ok (.aload_n 0, 1) := by decide +kernel
theorem dX4_readNumber_15 : decode cX4_readNumber 15 = .ok (.iload_n 1, 1) := by decide +kernel
theorem dX4_readNumber_16 : decode cX4_readNumber 16 = .ok (.invokevirtual 179, 3) := by decide +kernel
theorem dX4_readNumber_19 : decode cX4_readNumber 19 = .ok (.ifCond .ne 5, 3) := by decide +kernel
theorem dX4_readNumber_22 : decode cX4_readNumber 22 = .ok (.iconst (-1), 1) := by decide +kernel
theorem dX4_readNumber_23 : decode cX4_readNumber 23 = .ok (.ireturn, 1) := by decide +kernel
theorem dX4_readNumber_24 : decode cX4_readNumber 24 = .ok (.aload_n 0, 1) := by decide +kernel
theorem dX4_readNumber_25 : decode cX4_readNumber 25 = .ok (.dup, 1) := by decide +kernel
theorem dX4_readNumber_26 : decode cX4_readNumber 26 = .ok (.getfield 173, 3) := by decide +kernel
theorem dX4_readNumber_29 : decode cX4_readNumber 29 = .ok (.iconst 1, 1) := by decide +kernel
theorem dX4_readNumber_30 : decode cX4_readNumber 30 = .ok (.iadd, 1) := by decide +kernel
theorem dX4_readNumber_31 : decode cX4_readNumber 31 = .ok (.putfield 173, 3) := by decide +kernel
theorem dX4_readNumber_34 : decode cX4_readNumber 34 = .ok (.aload_n 0, 1) := by decide +kernel
theorem dX4_readNumber_35 : decode cX4_readNumber 35 = .ok (.aload_n 0, 1) := by decide +kernel
theorem dX4_readNumber_36 : decode cX4_readNumber 36 = .ok (.getfield 173, 3) := by decide +kernel
theorem dX4_readNumber_39 : decode cX4_readNumber 39 = .ok (.invokevirtual 176, 3) := by decide +kernel
theorem dX4_readNumber_42 : decode cX4_readNumber 42 = .ok (.istore_n 2, 1) := by decide +kernel
theorem dX4_readNumber_43 : decode cX4_readNumber 43 = .ok (.iload_n 1, 1) := by decide +kernel
theorem dX4_readNumber_44 : decode cX4_readNumber 44 = .ok (.iconst 1, 1) := by decide +kernel
theorem dX4_readNumber_45 : decode cX4_readNumber 45 = .ok (.iconst 3, 1) := by decide +kernel
theorem dX4_readNumber_46 : decode cX4_readNumber 46 = .ok (.invokestatic 42, 3) := by decide +kernel
theorem dX4_readNumber_49 : decode cX4_readNumber 49 = .ok (.ifCond .eq 8, 3) := by decide +kernel
theorem dX4_readNumber_52 : decode cX4_readNumber 52 = .ok (.iload_n 2, 1) := by decide +kernel
theorem dX4_readNumber_53 : decode cX4_readNumber 53 = .ok (.iconst (-1), 1) := by decide +kernel
theorem dX4_readNumber_54 : decode cX4_readNumber 54 = .ok (.if_icmp .ne 17, 3) := by decide +kernel
theorem dX4_readNumber_57 : decode cX4_readNumber 57 = .ok (.aload_n 0, 1) := by decide +kernel
theorem dX4_readNumber_58 : decode cX4_readNumber 58 = .ok (.iload_n 1, 1) := by decide +kernel
theorem dX4_readNumber_59 : decode cX4_readNumber 59 = .ok (.invokevirtual 170, 3) := by decide +kernel
theorem dX4_readNumber_62 : decode cX4_readNumber 62 = .ok (.ifCond .eq 7, 3) := by decide +kernel
theorem dX4_readNumber_65 : decode cX4_readNumber 65 = .ok (.iconst (-1), 1) := by decide +kernel
theorem dX4_readNumber_66 : decode cX4_readNumber 66 = .ok (.goto 4, 3) := by decide +kernel
theorem dX4_readNumber_69 : decode cX4_readNumber 69 = .ok (.iload_n 1, 1) := by decide +kernel
theorem dX4_readNumber_70 : decode cX4_readNumber 70 = .ok (.ireturn, 1) := by decide +kernel
theorem dX4_readNumber_71 : decode cX4_readNumber 71 = .ok (.aload_n 0, 1) := by decide +kernel
theorem dX4_readNumber_72 : decode cX4_readNumber 72 = .ok (.bipush 10, 2) := by decide +kernel
theorem dX4_readNumber_74 : decode cX4_readNumber 74 = .ok (.iload_n 1, 1) := by decide +kernel
theorem dX4_readNumber_75 : decode cX4_readNumber 75 = .ok (.imul, 1) := by decide +kernel
theorem dX4_readNumber_76 : decode cX4_readNumber 76 = .ok (.iload_n 2, 1) := by decide +kernel
theorem dX4_readNumber_77 : decode cX4_readNumber 77 = .ok (.iadd, 1) := by decide +kernel
theorem dX4_readNumber_78 : decode cX4_readNumber 78 = .ok (.invokevirtual 170, 3) := by decide +kernel
theorem dX4_readNumber_81 : decode cX4_readNumber 81 = .ok (.ifCond .eq 5, 3) := by decide +kernel
theorem dX4_readNumber_84 : decode cX4_readNumber 84 = .ok (.iconst (-1), 1) := by decide +kernel
theorem dX4_readNumber_85 : decode cX4_readNumber 85 = .ok (.ireturn, 1) := by decide +kernel
theorem dX4_readNumber_86 : decode cX4_readNumber 86 = .ok (.aload_n 0, 1) := by decide +kernel
theorem dX4_readNumber_87 : decode cX4_readNumber 87 = .ok (.dup, 1) := by decide +kernel
theorem dX4_readNumber_88 : decode cX4_readNumber 88 = .ok (.getfield 173, 3) := by decide +kernel
theorem dX4_readNumber_91 : decode cX4_readNumber 91 = .ok (.iconst 1, 1) := by decide +kernel
theorem dX4_readNumber_92 : decode cX4_readNumber 92 = .ok (.iadd, 1) := by decide +kernel
theorem dX4_readNumber_93 : decode cX4_readNumber 93 = .ok (.putfield 173, 3) := by decide +kernel
theorem dX4_readNumber_96 : decode cX4_readNumber 96 = .ok (.bipush 10, 2) := by decide +kernel
theorem dX4_readNumber_98 : decode cX4_readNumber 98 = .ok (.iload_n 1, 1) := by decide +kernel
theorem dX4_readNumber_99 : decode cX4_readNumber 99 = .ok (.imul, 1) := by decide +kernel
theorem dX4_readNumber_100 : decode cX4_readNumber 100 = .ok (.iload_n 2, 1) := by decide +kernel
theorem dX4_readNumber_101 : decode cX4_readNumber 101 = .ok (.iadd, 1) := by decide +kernel
theorem dX4_readNumber_102 : decode cX4_readNumber 102 = .ok (.ireturn, 1) := by decide +kernel
theorem dX4_readPoem_0 : decode cX4_readPoem 0 = .ok (.aload_n 0, 1) := by decide +kernel
theorem dX4_readPoem_1 : decode cX4_readPoem 1 = .ok (.iconst 0, 1) := by decide +kernel
theorem dX4_readPoem_2 : decode cX4_readPoem 2 = .ok (.putfield 173, 3) := by decide +kernel
theorem dX4_readPoem_5 : decode cX4_readPoem 5 = .ok (.aload_n 0, 1) := by decide +kernel
theorem dX4_readPoem_6 : decode cX4_readPoem 6 = .ok (.lconst 0, 1) := by decide +kernel
theorem dX4_readPoem_7 : decode cX4_readPoem 7 = .ok (.putfield 166, 3) := by decide +kernel
theorem dX4_readPoem_10 : decode cX4_readPoem 10 = .ok (.aload_n 0, 1) := by decide +kernel
theorem dX4_readPoem_11 : decode cX4_readPoem 11 = .ok (.iconst 0, 1) := by decide +kernel
theorem dX4_readPoem_12 : decode cX4_readPoem 12 = .ok (.putfield 182, 3) := by decide +kernel
theorem dX4_readPoem_15 : decode cX4_readPoem 15 = .ok (.iconst 0, 1) := by decide +kernel
theorem dX4_readPoem_16 : decode cX4_readPoem 16 = .ok (.istore_n 1, 1) := by decide +kernel
theorem dX4_readPoem_17 : decode cX4_readPoem 17 = .ok (.iconst 0, 1) := by decide +kernel
theorem dX4_readPoem_18 : decode cX4_readPoem 18 = .ok (.istore_n 2, 1) := by decide +kernel
theorem dX4_readPoem_19 : decode cX4_readPoem 19 = .ok (.aload_n 0, 1) := by decide +kernel
theorem dX4_readPoem_20 : decode cX4_readPoem 20 = .ok (.invokevirtual 185, 3) := by decide +kernel
theorem dX4_readPoem_23 : decode cX4_readPoem 23 = .ok (.istore_n 3, 1) := by decide +kernel
theorem dX4_readPoem_24 : decode cX4_readPoem 24 = .ok (.iload_n 3, 1) := by decide +kernel
theorem dX4_readPoem_25 : decode cX4_readPoem 25 = .ok (.iconst (-1), 1) := by decide +kernel
theorem dX4_readPoem_26 : decode cX4_readPoem 26 = .ok (.if_icmp .ne 5, 3) := by decide +kernel
theorem dX4_readPoem_29 : decode cX4_readPoem 29 = .ok (.iconst 0, 1) := by decide +kernel
theorem dX4_readPoem_30 : decode cX4_readPoem 30 = .ok (.ireturn, 1) := by decide +kernel
theorem dX4_readPoem_31 : decode cX4_readPoem 31 = .ok (.aload_n 0, 1) := by decide +kernel
theorem dX4_readPoem_32 : decode cX4_readPoem 32 = .ok (.dup, 1) := by decide +kernel
theorem dX4_readPoem_33 : decode cX4_readPoem 33 = .ok (.getfield 166, 3) := by decide +kernel
theorem dX4_readPoem_36 : decode cX4_readPoem 36 = .ok (.lconst 1, 1) := by decide +kernel
theorem dX4_readPoem_37 : decode cX4_readPoem 37 = .ok (.iload_n 3, 1) := by decide +kernel
theorem dX4_readPoem_38 : decode cX4_readPoem 38 = .ok (.lshl, 1) := by decide +kernel
theorem dX4_readPoem_39 : decode cX4_readPoem 39 = .ok (.lor, 1) := by decide +kernel
theorem dX4_readPoem_40 : decode cX4_readPoem 40 = .ok (.putfield 166, 3) := by decide +kernel
theorem dX4_readPoem_43 : decode cX4_readPoem 43 = .ok (.aload_n 0, 1) := by decide +kernel
theorem dX4_readPoem_44 : decode cX4_readPoem 44 = .ok (.getfield 29, 3) := by decide +kernel
theorem dX4_readPoem_47 : decode cX4_readPoem 47 = .ok (.aload_n 0, 1) := by decide +kernel
theorem dX4_readPoem_48 : decode cX4_readPoem 48 = .ok (.getfield 182, 3) := by decide +kernel
theorem dX4_readPoem_51 : decode cX4_readPoem 51 = .ok (.iload_n 3, 1) := by decide +kernel
theorem dX4_readPoem_52 : decode cX4_readPoem 52 = .ok (.iastore, 1) := by decide +kernel
theorem dX4_readPoem_53 : decode cX4_readPoem 53 = .ok (.aload_n 0, 1) := by decide +kernel
theorem dX4_readPoem_54 : decode cX4_readPoem 54 = .ok (.getfield 32, 3) := by decide +kernel
theorem dX4_readPoem_57 : decode cX4_readPoem 57 = .ok (.aload_n 0, 1) := by decide +kernel
theorem dX4_readPoem_58 : decode cX4_readPoem 58 = .ok (.getfield 182, 3) := by decide +kernel
theorem dX4_readPoem_61 : decode cX4_readPoem 61 = .ok (.iload_n 1, 1) := by decide +kernel
theorem dX4_readPoem_62 : decode cX4_readPoem 62 = .ok (.iastore, 1) := by decide +kernel
theorem dX4_readPoem_63 : decode cX4_readPoem 63 = .ok (.aload_n 0, 1) := by decide +kernel
theorem dX4_readPoem_64 : decode cX4_readPoem 64 = .ok (.dup, 1) := by decide +kernel
theorem dX4_readPoem_65 : decode cX4_readPoem 65 = .ok (.getfield 182, 3) := by decide +kernel
theorem dX4_readPoem_68 : decode cX4_readPoem 68 = .ok (.iconst 1, 1) := by decide +kernel
theorem dX4_readPoem_69 : decode cX4_readPoem 69 = .ok (.iadd, 1) := by decide +kernel
theorem dX4_readPoem_70 : decode cX4_readPoem 70 = .ok (.putfield 182, 3) := by decide +kernel
theorem dX4_readPoem_73 : decode cX4_readPoem 73 = .ok (.iinc 2 1, 3) := by decide +kernel
theorem dX4_readPoem_76 : decode cX4_readPoem 76 = .ok (.aload_n 0, 1) := by decide +kernel
theorem dX4_readPoem_77 : decode cX4_readPoem 77 = .ok (.getfield 173, 3) := by decide +kernel
theorem dX4_readPoem_80 : decode cX4_readPoem 80 = .ok (.aload_n 0, 1) := by decide +kernel
theorem dX4_readPoem_81 : decode cX4_readPoem 81 = .ok (.getfield 163, 3) := by decide +kernel
theorem dX4_readPoem_84 : decode cX4_readPoem 84 = .ok (.if_icmp .ne 5, 3) := by decide +kernel
theorem dX4_readPoem_87 : decode cX4_readPoem 87 = .ok (.iconst 1, 1) := by decide +kernel
theorem dX4_readPoem_88 : decode cX4_readPoem 88 = .ok (.ireturn, 1) := by decide +kernel
theorem dX4_readPoem_89 : decode cX4_readPoem 89 = .ok (.aload_n 0, 1) := by decide +kernel
theorem dX4_readPoem_90 : decode cX4_readPoem 90 = .ok (.getfield 26, 3) := by decide +kernel
theorem dX4_readPoem_93 : decode cX4_readPoem 93 = .ok (.aload_n 0, 1) := by decide +kernel
theorem dX4_readPoem_94 : decode cX4_readPoem 94 = .ok (.getfield 173, 3) := by decide +kernel
theorem dX4_readPoem_97 : decode cX4_readPoem 97 = .ok (.iaload, 1) := by decide +kernel
theorem dX4_readPoem_98 : decode cX4_readPoem 98 = .ok (.bipush 44, 2) := by decide +kernel
theorem dX4_readPoem_100 : decode cX4_readPoem 100 = .ok (.if_icmp .ne 13, 3) := by decide +kernel
theorem dX4_readPoem_103 : decode cX4_readPoem 103 = .ok (.iload_n 2, 1) := by decide +kernel
theorem dX4_readPoem_104 : decode cX4_readPoem 104 = .ok (.bipush 6, 2) := by decide +kernel
theorem dX4_readPoem_106 : decode cX4_readPoem 106 = .ok (.if_icmp .ge 7, 3) := by decide +kernel
theorem dX4_readPoem_109 : decode cX4_readPoem 109 = .ok (.iconst 1, 1) := by decide +kernel
theorem dX4_readPoem_110 : decode cX4_readPoem 110 = .ok (.goto 4, 3) := by decide +kernel
theorem dX4_readPoem_113 : decode cX4_readPoem 113 = .ok (.iconst 0, 1) := by decide +kernel
theorem dX4_readPoem_114 : decode cX4_readPoem 114 = .ok (.istore 4, 2) := by decide +kernel
theorem dX4_readPoem_116 : decode cX4_readPoem 116 = .ok (.aload_n 0, 1) := by decide +kernel
theorem dX4_readPoem_117 : decode cX4_readPoem 117 = .ok (.getfield 26, 3) := by decide +kernel
theorem dX4_readPoem_120 : decode cX4_readPoem 120 = .ok (.aload_n 0, 1) := by decide +kernel
theorem dX4_readPoem_121 : decode cX4_readPoem 121 = .ok (.getfield 173, 3) := by decide +kernel
theorem dX4_readPoem_124 : decode cX4_readPoem 124 = .ok (.iaload, 1) := by decide +kernel
theorem dX4_readPoem_125 : decode cX4_readPoem 125 = .ok (.bipush 47, 2) := by decide +kernel
theorem dX4_readPoem_127 : decode cX4_readPoem 127 = .ok (.if_icmp .ne 12, 3) := by decide +kernel
theorem dX4_readPoem_130 : decode cX4_readPoem 130 = .ok (.iload_n 1, 1) := by decide +kernel
theorem dX4_readPoem_131 : decode cX4_readPoem 131 = .ok (.iconst 3, 1) := by decide +kernel
theorem dX4_readPoem_132 : decode cX4_readPoem 132 = .ok (.if_icmp .ge 7, 3) := by decide +kernel
theorem dX4_readPoem_135 : decode cX4_readPoem 135 = .ok (.iconst 1, 1) := by decide +kernel
theorem dX4_readPoem_136 : decode cX4_readPoem 136 = .ok (.goto 4, 3) := by decide +kernel
theorem dX4_readPoem_139 : decode cX4_readPoem 139 = .ok (.iconst 0, 1) := by decide +kernel
theorem dX4_readPoem_140 : decode cX4_readPoem 140 = .ok (.istore 5, 2) := by decide +kernel
theorem dX4_readPoem_142 : decode cX4_readPoem 142 = .ok (.iload 4, 2) := by decide +kernel
theorem dX4_readPoem_144 : decode cX4_readPoem 144 = .ok (.ifCond .ne 10, 3) := by decide +kernel
theorem dX4_readPoem_147 : decode cX4_readPoem 147 = .ok (.iload 5, 2) := by decide +kernel
theorem dX4_readPoem_149 : decode cX4_readPoem 149 = .ok (.ifCond .ne 5, 3) := by decide +kernel
theorem dX4_readPoem_152 : decode cX4_readPoem 152 = .ok (.iconst 0, 1) := by decide +kernel
theorem dX4_readPoem_153 : decode cX4_readPoem 153 = .ok (.ireturn, 1) := by decide +kernel
theorem dX4_readPoem_154 : decode cX4_readPoem 154 = .ok (.iload_n 1, 1) := by decide +kernel
theorem dX4_readPoem_155 : decode cX4_readPoem 155 = .ok (.iload 5, 2) := by decide +kernel
theorem dX4_readPoem_157 : decode cX4_readPoem 157 = .ok (.ifCond .eq 7, 3) := by decide +kernel
theorem dX4_readPoem_160 : decode cX4_readPoem 160 = .ok (.iconst 1, 1) := by decide +kernel
theorem dX4_readPoem_161 : decode cX4_readPoem 161 = .ok (.goto 4, 3) := by decide +kernel
theorem dX4_readPoem_164 : decode cX4_readPoem 164 = .ok (.iconst 0, 1) := by decide +kernel
theorem dX4_readPoem_165 : decode cX4_readPoem 165 = .ok (.iadd, 1) := by decide +kernel
theorem dX4_readPoem_166 : decode cX4_readPoem 166 = .ok (.istore_n 1, 1) := by decide +kernel
theorem dX4_readPoem_167 : decode cX4_readPoem 167 = .ok (.iload 5, 2) := by decide +kernel
theorem dX4_readPoem_169 : decode cX4_readPoem 169 = .ok (.ifCond .eq 7, 3) := by decide +kernel
theorem dX4_readPoem_172 : decode cX4_readPoem 172 = .ok (.iconst 0, 1) := by decide +kernel
theorem dX4_readPoem_173 : decode cX4_readPoem 173 = .ok (.goto 4, 3) := by decide +kernel
theorem dX4_readPoem_176 : decode cX4_readPoem 176 = .ok (.iload_n 2, 1) := by decide +kernel
theorem dX4_readPoem_177 : decode cX4_readPoem 177 = .ok (.istore_n 2, 1) := by decide +kernel
theorem dX4_readPoem_178 : decode cX4_readPoem 178 = .ok (.aload_n 0, 1) := by decide +kernel
theorem dX4_readPoem_179 : decode cX4_readPoem 179 = .ok (.dup, 1) := by decide +kernel
theorem dX4_readPoem_180 : decode cX4_readPoem 180 = .ok (.getfield 173, 3) := by decide +kernel
theorem dX4_readPoem_183 : decode cX4_readPoem 183 = .ok (.iconst 1, 1) := by decide +kernel
theorem dX4_readPoem_184 : decode cX4_readPoem 184 = .ok (.iadd, 1) := by decide +kernel
theorem dX4_readPoem_185 : decode cX4_readPoem 185 = .ok (.putfield 173, 3) := by decide +kernel
theorem dX4_readPoem_188 : decode cX4_readPoem 188 = .ok (.goto (-169), 3) := by decide +kernel
theorem dX4_firstError_0 : decode cX4_firstError 0 = .ok (.aload_n 0, 1) := by decide +kernel
theorem dX4_firstError_1 : decode cX4_firstError 1 = .ok (.iconst 0, 1) := by decide +kernel
theorem dX4_firstError_2 : decode cX4_firstError 2 = .ok (.putfield 38, 3) := by decide +kernel
theorem dX4_firstError_5 : decode cX4_firstError 5 = .ok (.aload_n 0, 1) := by decide +kernel
theorem dX4_firstError_6 : decode cX4_firstError 6 = .ok (.invokevirtual 188, 3) := by decide +kernel
theorem dX4_firstError_9 : decode cX4_firstError 9 = .ok (.ifCond .eq 10, 3) := by decide +kernel
theorem dX4_firstError_12 : decode cX4_firstError 12 = .ok (.aload_n 0, 1) := by decide +kernel
theorem dX4_firstError_13 : decode cX4_firstError 13 = .ok (.getfield 163, 3) := by decide +kernel
theorem dX4_firstError_16 : decode cX4_firstError 16 = .ok (.goto 7, 3) := by decide +kernel
theorem dX4_firstError_19 : decode cX4_firstError 19 = .ok (.aload_n 0, 1) := by decide +kernel
theorem dX4_firstError_20 : decode cX4_firstError 20 = .ok (.getfield 173, 3) := by decide +kernel
theorem dX4_firstError_23 : decode cX4_firstError 23 = .ok (.ireturn, 1) := by decide +kernel
theorem dX4_load_0 : decode cX4_load 0 = .ok (.aload_n 0, 1) := by decide +kernel
theorem dX4_load_1 : decode cX4_load 1 = .ok (.iconst 0, 1) := by decide +kernel
theorem dX4_load_2 : decode cX4_load 2 = .ok (.putfield 38, 3) := by decide +kernel
theorem dX4_load_5 : decode cX4_load 5 = .ok (.iload_n 1, 1) := by decide +kernel
theorem dX4_load_6 : decode cX4_load 6 = .ok (.invokestatic 46, 3) := by decide +kernel
theorem dX4_load_9 : decode cX4_load 9 = .ok (.ifCond .ne 9, 3) := by decide +kernel
theorem dX4_load_12 : decode cX4_load 12 = .ok (.aload_n 0, 1) := by decide +kernel
theorem dX4_load_13 : decode cX4_load 13 = .ok (.iconst 1, 1) := by decide +kernel
theorem dX4_load_14 : decode cX4_load 14 = .ok (.invokevirtual 134, 3) := by decide +kernel
theorem dX4_load_17 : decode cX4_load 17 = .ok (.ireturn, 1) := by decide +kernel
theorem dX4_load_18 : decode cX4_load 18 = .ok (.aload_n 0, 1) := by decide +kernel
theorem dX4_load_19 : decode cX4_load 19 = .ok (.invokevirtual 188, 3) := by decide +kernel
theorem dX4_load_22 : decode cX4_load 22 = .ok (.ifCond .ne 9, 3) := by decide +kernel
theorem dX4_load_25 : decode cX4_load 25 = .ok (.aload_n 0, 1) := by decide +kernel
theorem dX4_load_26 : decode cX4_load 26 = .ok (.iconst 2, 1) := by decide +kernel
theorem dX4_load_27 : decode cX4_load 27 = .ok (.invokevirtual 134, 3) := by decide +kernel
theorem dX4_load_30 : decode cX4_load 30 = .ok (.ireturn, 1) := by decide +kernel
theorem dX4_load_31 : decode cX4_load 31 = .ok (.aload_n 0, 1) := by decide +kernel
theorem dX4_load_32 : decode cX4_load 32 = .ok (.invokevirtual 137, 3) := by decide +kernel
theorem dX4_load_35 : decode cX4_load 35 = .ok (.aload_n 0, 1) := by decide +kernel
theorem dX4_load_36 : decode cX4_load 36 = .ok (.iload_n 1, 1) := by decide +kernel
theorem dX4_load_37 : decode cX4_load 37 = .ok (.invokevirtual 148, 3) := by decide +kernel
theorem dX4_load_40 : decode cX4_load 40 = .ok (.istore_n 2, 1) := by decide +kernel
theorem dX4_load_41 : decode cX4_load 41 = .ok (.iconst 0, 1) := by decide +kernel
theorem dX4_load_42 : decode cX4_load 42 = .ok (.istore_n 3, 1) := by decide +kernel
theorem dX4_load_43 : decode cX4_load 43 = .ok (.iconst 1, 1) := by decide +kernel
theorem dX4_load_44 : decode cX4_load 44 = .ok (.istore 4, 2) := by decide +kernel
theorem dX4_load_46 : decode cX4_load 46 = .ok (.iconst 0, 1) := by decide +kernel
theorem dX4_load_47 : decode cX4_load 47 = .ok (.istore 5, 2) := by decide +kernel
theorem dX4_load_49 : decode cX4_load 49 = .ok (.iload 5, 2) := by decide +kernel
theorem dX4_load_51 : decode cX4_load 51 = .ok (.aload_n 0, 1) := by decide +kernel
theorem dX4_load_52 : decode cX4_load 52 = .ok (.getfield 182, 3) := by decide +kernel
theorem dX4_load_55 : decode cX4_load 55 = .ok (.if_icmp .ge 116, 3) := by decide +kernel
theorem dX4_load_58 : decode cX4_load 58 = .ok (.iload 4, 2) := by decide +kernel
theorem dX4_load_60 : decode cX4_load 60 = .ok (.ifCond .eq 111, 3) := by decide +kernel
theorem dX4_load_63 : decode cX4_load 63 = .ok (.iconst 4, 1) := by decide +kernel
theorem dX4_load_64 : decode cX4_load 64 = .ok (.iload_n 1, 1) := by decide +kernel
theorem dX4_load_65 : decode cX4_load 65 = .ok (.imul, 1) := by decide +kernel
theorem dX4_load_66 : decode cX4_load 66 = .ok (.aload_n 0, 1) := by decide +kernel
theorem dX4_load_67 : decode cX4_load 67 = .ok (.getfield 32, 3) := by decide +kernel
theorem dX4_load_70 : decode cX4_load 70 = .ok (.iload 5, 2) := by decide +kernel
theorem dX4_load_72 : decode cX4_load 72 = .ok (.iaload, 1) := by decide +kernel
theorem dX4_load_73 : decode cX4_load 73 = .ok (.iadd, 1) := by decide +kernel
theorem dX4_load_74 : decode cX4_load 74 = .ok (.istore 6, 2) := by decide +kernel
theorem dX4_load_76 : decode cX4_load 76 = .ok (.aload_n 0, 1) := by decide +kernel
theorem dX4_load_77 : decode cX4_load 77 = .ok (.aload_n 0, 1) := by decide +kernel
theorem dX4_load_78 : decode cX4_load 78 = .ok (.getfield 29, 3) := by decide +kernel
theorem dX4_load_81 : decode cX4_load 81 = .ok (.iload 5, 2) := by decide +kernel
theorem dX4_load_83 : decode cX4_load 83 = .ok (.iaload, 1) := by decide +kernel
theorem dX4_load_84 : decode cX4_load 84 = .ok (.invokevirtual 57, 3) := by decide +kernel
theorem dX4_load_87 : decode cX4_load 87 = .ok (.iconst (-1), 1) := by decide +kernel
theorem dX4_load_88 : decode cX4_load 88 = .ok (.if_icmp .ne 32, 3) := by decide +kernel
theorem dX4_load_91 : decode cX4_load 91 = .ok (.aload_n 0, 1) := by decide +kernel
theorem dX4_load_92 : decode cX4_load 92 = .ok (.aload_n 0, 1) := by decide +kernel
theorem dX4_load_93 : decode cX4_load 93 = .ok (.getfield 29, 3) := by decide +kernel
theorem dX4_load_96 : decode cX4_load 96 = .ok (.iload 5, 2) := by decide +kernel
theorem dX4_load_98 : decode cX4_load 98 = .ok (.iaload, 1) := by decide +kernel
theorem dX4_load_99 : decode cX4_load 99 = .ok (.iload 6, 2) := by decide +kernel
theorem dX4_load_101 : decode cX4_load 101 = .ok (.aload_n 0, 1) := by decide +kernel
theorem dX4_load_102 : decode cX4_load 102 = .ok (.getfield 7, 3) := by decide +kernel
theorem dX4_load_105 : decode cX4_load 105 = .ok (.iconst 0, 1) := by decide +kernel
theorem dX4_load_106 : decode cX4_load 106 = .ok (.iload 6, 2) := by decide +kernel
theorem dX4_load_108 : decode cX4_load 108 = .ok (.iadd, 1) := by decide +kernel
theorem dX4_load_109 : decode cX4_load 109 = .ok (.iaload, 1) := by decide +kernel
theorem dX4_load_110 : decode cX4_load 110 = .ok (.invokevirtual 140, 3) := by decide +kernel
theorem dX4_load_113 : decode cX4_load 113 = .ok (.ifCond .ne 7, 3) := by decide +kernel
theorem dX4_load_116 : decode cX4_load 116 = .ok (.iconst 1, 1) := by decide +kernel
theorem dX4_load_117 : decode cX4_load 117 = .ok (.goto 4, 3) := by decide +kernel
theorem dX4_load_120 : decode cX4_load 120 = .ok (.iconst 0, 1) := by decide +kernel
theorem dX4_load_121 : decode cX4_load 121 = .ok (.istore 4, 2) := by decide +kernel
theorem dX4_load_123 : decode cX4_load 123 = .ok (.iload 4, 2) := by decide +kernel
theorem dX4_load_125 : decode cX4_load 125 = .ok (.ifCond .eq 40, 3) := by decide +kernel
theorem dX4_load_128 : decode cX4_load 128 = .ok (.aload_n 0, 1) := by decide +kernel
theorem dX4_load_129 : decode cX4_load 129 = .ok (.aload_n 0, 1) := by decide +kernel
theorem dX4_load_130 : decode cX4_load 130 = .ok (.getfield 29, 3) := by decide +kernel
theorem dX4_load_133 : decode cX4_load 133 = .ok (.iload 5, 2) := by decide +kernel
theorem dX4_load_135 : decode cX4_load 135 = .ok (.iaload, 1) := by decide +kernel
theorem dX4_load_136 : decode cX4_load 136 = .ok (.iload 6, 2) := by decide +kernel
theorem dX4_load_138 : decode cX4_load 138 = .ok (.aload_n 0, 1) := by decide +kernel
theorem dX4_load_139 : decode cX4_load 139 = .ok (.getfield 7, 3) := by decide +kernel
theorem dX4_load_142 : decode cX4_load 142 = .ok (.iconst 0, 1) := by decide +kernel
theorem dX4_load_143 : decode cX4_load 143 = .ok (.iload 6, 2) := by decide +kernel
theorem dX4_load_145 : decode cX4_load 145 = .ok (.iadd, 1) := by decide +kernel
theorem dX4_load_146 : decode cX4_load 146 = .ok (.iaload, 1) := by decide +kernel
theorem dX4_load_147 : decode cX4_load 147 = .ok (.invokevirtual 144, 3) := by decide +kernel
theorem dX4_load_150 : decode cX4_load 150 = .ok (.aload_n 0, 1) := by decide +kernel
theorem dX4_load_151 : decode cX4_load 151 = .ok (.getfield 7, 3) := by decide +kernel
theorem dX4_load_154 : decode cX4_load 154 = .ok (.sipush 180, 3) := by decide +kernel
theorem dX4_load_157 : decode cX4_load 157 = .ok (.dup2, 1) := by decide +kernel
theorem dX4_load_158 : decode cX4_load 158 = .ok (.iaload, 1) := by decide +kernel
theorem dX4_load_159 : decode cX4_load 159 = .ok (.iconst 1, 1) := by decide +kernel
theorem dX4_load_160 : decode cX4_load 160 = .ok (.iadd, 1) := by decide +kernel
theorem dX4_load_161 : decode cX4_load 161 = .ok (.iastore, 1) := by decide +kernel
theorem dX4_load_162 : decode cX4_load 162 = .ok (.iinc 3 1, 3) := by decide +kernel
theorem dX4_load_165 : decode cX4_load 165 = .ok (.iinc 5 1, 3) := by decide +kernel
theorem dX4_load_168 : decode cX4_load 168 = .ok (.goto (-119), 3) := by decide +kernel
theorem dX4_load_171 : decode cX4_load 171 = .ok (.aload_n 0, 1) := by decide +kernel
theorem dX4_load_172 : decode cX4_load 172 = .ok (.iconst 0, 1) := by decide +kernel
theorem dX4_load_173 : decode cX4_load 173 = .ok (.putfield 163, 3) := by decide +kernel
theorem dX4_load_176 : decode cX4_load 176 = .ok (.iload_n 3, 1) := by decide +kernel
theorem dX4_load_177 : decode cX4_load 177 = .ok (.ireturn, 1) := by decide +kernel
theorem dX4_draftSign_0 : decode cX4_draftSign 0 = .ok (.aload_n 0, 1) := by decide +kernel
theorem dX4_draftSign_1 : decode cX4_draftSign 1 = .ok (.getfield 35, 3) := by decide +kernel
theorem dX4_draftSign_4 : decode cX4_draftSign 4 = .ok (.aload_n 0, 1) := by decide +kernel
theorem dX4_draftSign_5 : decode cX4_draftSign 5 = .ok (.getfield 192, 3) := by decide +kernel
theorem dX4_draftSign_8 : decode cX4_draftSign 8 = .ok (.iload_n 1, 1) := by decide +kernel
theorem dX4_draftSign_9 : decode cX4_draftSign 9 = .ok (.iastore, 1) := by decide +kernel
theorem dX4_draftSign_10 : decode cX4_draftSign 10 = .ok (.aload_n 0, 1) := by decide +kernel
theorem dX4_draftSign_11 : decode cX4_draftSign 11 = .ok (.dup, 1) := by decide +kernel
theorem dX4_draftSign_12 : decode cX4_draftSign 12 = .ok (.getfield 192, 3) := by decide +kernel
theorem dX4_draftSign_15 : decode cX4_draftSign 15 = .ok (.iconst 1, 1) := by decide +kernel
theorem dX4_draftSign_16 : decode cX4_draftSign 16 = .ok (.iadd, 1) := by decide +kernel
theorem dX4_draftSign_17 : decode cX4_draftSign 17 = .ok (.putfield 192, 3) := by decide +kernel
theorem dX4_draftSign_20 : decode cX4_draftSign 20 = .ok (.return_, 1) := by decide +kernel
theorem dX4_draftLine_0 : decode cX4_draftLine 0 = .ok (.iconst 0, 1) := by decide +kernel
theorem dX4_draftLine_1 : decode cX4_draftLine 1 = .ok (.istore_n 2, 1) := by decide +kernel
theorem dX4_draftLine_2 : decode cX4_draftLine 2 = .ok (.iload_n 2, 1) := by decide +kernel
theorem dX4_draftLine_3 : decode cX4_draftLine 3 = .ok (.aload_n 0, 1) := by decide +kernel
theorem dX4_draftLine_4 : decode cX4_draftLine 4 = .ok (.getfield 7, 3) := by decide +kernel
theorem dX4_draftLine_7 : decode cX4_draftLine 7 = .ok (.iconst 0, 1) := by decide +kernel
theorem dX4_draftLine_8 : decode cX4_draftLine 8 = .ok (.iload_n 1, 1) := by decide +kernel
theorem dX4_draftLine_9 : decode cX4_draftLine 9 = .ok (.iadd, 1) := by decide +kernel
theorem dX4_draftLine_10 : decode cX4_draftLine 10 = .ok (.iaload, 1) := by decide +kernel
theorem dX4_draftLine_11 : decode cX4_draftLine 11 = .ok (.if_icmp .ge 54, 3) := by decide +kernel
theorem dX4_draftLine_14 : decode cX4_draftLine 14 = .ok (.aload_n 0, 1) := by decide +kernel
theorem dX4_draftLine_15 : decode cX4_draftLine 15 = .ok (.iload_n 1, 1) := by decide +kernel
theorem dX4_draftLine_16 : decode cX4_draftLine 16 = .ok (.iload_n 2, 1) := by decide +kernel
theorem dX4_draftLine_17 : decode cX4_draftLine 17 = .ok (.invokevirtual 53, 3) := by decide +kernel
theorem dX4_draftLine_20 : decode cX4_draftLine 20 = .ok (.istore_n 3, 1) := by decide +kernel
theorem dX4_draftLine_21 : decode cX4_draftLine 21 = .ok (.iload_n 2, 1) := by decide +kernel
theorem dX4_draftLine_22 : decode cX4_draftLine 22 = .ok (.ifCond .le 9, 3) := by decide +kernel
theorem dX4_draftLine_25 : decode cX4_draftLine 25 = .ok (.aload_n 0, 1) := by decide +kernel
theorem dX4_draftLine_26 : decode cX4_draftLine 26 = .ok (.bipush 44, 2) := by decide +kernel
theorem dX4_draftLine_28 : decode cX4_draftLine 28 = .ok (.invokevirtual 195, 3) := by decide +kernel
theorem dX4_draftLine_31 : decode cX4_draftLine 31 = .ok (.iload_n 3, 1) := by decide +kernel
theorem dX4_draftLine_32 : decode cX4_draftLine 32 = .ok (.bipush 9, 2) := by decide +kernel
theorem dX4_draftLine_34 : decode cX4_draftLine 34 = .ok (.if_icmp .le 14, 3) := by decide +kernel
theorem dX4_draftLine_37 : decode cX4_draftLine 37 = .ok (.aload_n 0, 1) := by decide +kernel
theorem dX4_draftLine_38 : decode cX4_draftLine 38 = .ok (.bipush 48, 2) := by decide +kernel
theorem dX4_draftLine_40 : decode cX4_draftLine 40 = .ok (.iload_n 3, 1) := by decide +kernel
theorem dX4_draftLine_41 : decode cX4_draftLine 41 = .ok (.bipush 10, 2) := by decide +kernel
theorem dX4_draftLine_43 : decode cX4_draftLine 43 = .ok (.idiv, 1) := by decide +kernel
theorem dX4_draftLine_44 : decode cX4_draftLine 44 = .ok (.iadd, 1) := by decide +kernel
theorem dX4_draftLine_45 : decode cX4_draftLine 45 = .ok (.invokevirtual 195, 3) := by decide +kernel
theorem dX4_draftLine_48 : decode cX4_draftLine 48 = .ok (.aload_n 0, 1) := by decide +kernel
theorem dX4_draftLine_49 : decode cX4_draftLine 49 = .ok (.bipush 48, 2) := by decide +kernel
theorem dX4_draftLine_51 : decode cX4_draftLine 51 = .ok (.iload_n 3, 1) := by decide +kernel
theorem dX4_draftLine_52 : decode cX4_draftLine 52 = .ok (.bipush 10, 2) := by decide +kernel
theorem dX4_draftLine_54 : decode cX4_draftLine 54 = .ok (.irem, 1) := by decide +kernel
theorem dX4_draftLine_55 : decode cX4_draftLine 55 = .ok (.iadd, 1) := by decide +kernel
theorem dX4_draftLine_56 : decode cX4_draftLine 56 = .ok (.invokevirtual 195, 3) := by decide +kernel
theorem dX4_draftLine_59 : decode cX4_draftLine 59 = .ok (.iinc 2 1, 3) := by decide +kernel
theorem dX4_draftLine_62 : decode cX4_draftLine 62 = .ok (.goto (-60), 3) := by decide +kernel
theorem dX4_draftLine_65 : decode cX4_draftLine 65 = .ok (.return_, 1) := by decide +kernel
theorem dX4_write_0 : decode cX4_write 0 = .ok (.aload_n 0, 1) := by decide +kernel
theorem dX4_write_1 : decode cX4_write 1 = .ok (.iconst 0, 1) := by decide +kernel
theorem dX4_write_2 : decode cX4_write 2 = .ok (.putfield 38, 3) := by decide +kernel
theorem dX4_write_5 : decode cX4_write 5 = .ok (.iload_n 1, 1) := by decide +kernel
theorem dX4_write_6 : decode cX4_write 6 = .ok (.invokestatic 46, 3) := by decide +kernel
theorem dX4_write_9 : decode cX4_write 9 = .ok (.ifCond .ne 9, 3) := by decide +kernel
theorem dX4_write_12 : decode cX4_write 12 = .ok (.aload_n 0, 1) := by decide +kernel
theorem dX4_write_13 : decode cX4_write 13 = .ok (.iconst 1, 1) := by decide +kernel
theorem dX4_write_14 : decode cX4_write 14 = .ok (.invokevirtual 134, 3) := by decide +kernel
theorem dX4_write_17 : decode cX4_write 17 = .ok (.ireturn, 1) := by decide +kernel
theorem dX4_write_18 : decode cX4_write 18 = .ok (.aload_n 0, 1) := by decide +kernel
theorem dX4_write_19 : decode cX4_write 19 = .ok (.iconst 0, 1) := by decide +kernel
theorem dX4_write_20 : decode cX4_write 20 = .ok (.putfield 192, 3) := by decide +kernel
theorem dX4_write_23 : decode cX4_write 23 = .ok (.iconst 4, 1) := by decide +kernel
theorem dX4_write_24 : decode cX4_write 24 = .ok (.iload_n 1, 1) := by decide +kernel
theorem dX4_write_25 : decode cX4_write 25 = .ok (.imul, 1) := by decide +kernel
theorem dX4_write_26 : decode cX4_write 26 = .ok (.istore_n 2, 1) := by decide +kernel
theorem dX4_write_27 : decode cX4_write 27 = .ok (.iload_n 2, 1) := by decide +kernel
theorem dX4_write_28 : decode cX4_write 28 = .ok (.iconst 4, 1) := by decide +kernel
theorem dX4_write_29 : decode cX4_write 29 = .ok (.iload_n 1, 1) := by decide +kernel
theorem dX4_write_30 : decode cX4_write 30 = .ok (.imul, 1) := by decide +kernel
theorem dX4_write_31 : decode cX4_write 31 = .ok (.iconst 4, 1) := by decide +kernel
theorem dX4_write_32 : decode cX4_write 32 = .ok (.iadd, 1) := by decide +kernel
theorem dX4_write_33 : decode cX4_write 33 = .ok (.if_icmp .ge 38, 3) := by decide +kernel
theorem dX4_write_36 : decode cX4_write 36 = .ok (.aload_n 0, 1) := by decide +kernel
theorem dX4_write_37 : decode cX4_write 37 = .ok (.getfield 7, 3) := by decide +kernel
theorem dX4_write_40 : decode cX4_write 40 = .ok (.iconst 0, 1) := by decide +kernel
theorem dX4_write_41 : decode cX4_write 41 = .ok (.iload_n 2, 1) := by decide +kernel
theorem dX4_write_42 : decode cX4_write 42 = .ok (.iadd, 1) := by decide +kernel
theorem dX4_write_43 : decode cX4_write 43 = .ok (.iaload, 1) := by decide +kernel
theorem dX4_write_44 : decode cX4_write 44 = .ok (.ifCond .le 16, 3) := by decide +kernel
theorem dX4_write_47 : decode cX4_write 47 = .ok (.aload_n 0, 1) := by decide +kernel
theorem dX4_write_48 : decode cX4_write 48 = .ok (.getfield 192, 3) := by decide +kernel
theorem dX4_write_51 : decode cX4_write 51 = .ok (.ifCond .le 9, 3) := by decide +kernel
theorem dX4_write_54 : decode cX4_write 54 = .ok (.aload_n 0, 1) := by decide +kernel
theorem dX4_write_55 : decode cX4_write 55 = .ok (.bipush 47, 2) := by decide +kernel
theorem dX4_write_57 : decode cX4_write 57 = .ok (.invokevirtual 195, 3) := by decide +kernel
theorem dX4_write_60 : decode cX4_write 60 = .ok (.aload_n 0, 1) := by decide +kernel
theorem dX4_write_61 : decode cX4_write 61 = .ok (.iload_n 2, 1) := by decide +kernel
theorem dX4_write_62 : decode cX4_write 62 = .ok (.invokevirtual 199, 3) := by decide +kernel
theorem dX4_write_65 : decode cX4_write 65 = .ok (.iinc 2 1, 3) := by decide +kernel
theorem dX4_write_68 : decode cX4_write 68 = .ok (.goto (-41), 3) := by decide +kernel
theorem dX4_write_71 : decode cX4_write 71 = .ok (.aload_n 0, 1) := by decide +kernel
theorem dX4_write_72 : decode cX4_write 72 = .ok (.getfield 192, 3) := by decide +kernel
theorem dX4_write_75 : decode cX4_write 75 = .ok (.bipush 60, 2) := by decide +kernel
theorem dX4_write_77 : decode cX4_write 77 = .ok (.if_icmp .le 5, 3) := by decide +kernel
theorem dX4_write_80 : decode cX4_write 80 = .ok (.iconst (-1), 1) := by decide +kernel
theorem dX4_write_81 : decode cX4_write 81 = .ok (.ireturn, 1) := by decide +kernel
theorem dX4_write_82 : decode cX4_write 82 = .ok (.iconst 0, 1) := by decide +kernel
theorem dX4_write_83 : decode cX4_write 83 = .ok (.istore_n 2, 1) := by decide +kernel
theorem dX4_write_84 : decode cX4_write 84 = .ok (.iload_n 2, 1) := by decide +kernel
theorem dX4_write_85 : decode cX4_write 85 = .ok (.aload_n 0, 1) := by decide +kernel
theorem dX4_write_86 : decode cX4_write 86 = .ok (.getfield 192, 3) := by decide +kernel
theorem dX4_write_89 : decode cX4_write 89 = .ok (.if_icmp .ge 21, 3) := by decide +kernel
theorem dX4_write_92 : decode cX4_write 92 = .ok (.aload_n 0, 1) := by decide +kernel
theorem dX4_write_93 : decode cX4_write 93 = .ok (.getfield 26, 3) := by decide +kernel
theorem dX4_write_96 : decode cX4_write 96 = .ok (.iload_n 2, 1) := by decide +kernel
theorem dX4_write_97 : decode cX4_write 97 = .ok (.aload_n 0, 1) := by decide +kernel
theorem dX4_write_98 : decode cX4_write 98 = .ok (.getfield 35, 3) := by decide +kernel
theorem dX4_write_101 : decode cX4_write 101 = .ok (.iload_n 2, 1) := by decide +kernel
theorem dX4_write_102 : decode cX4_write 102 = .ok (.iaload, 1) := by decide +kernel
theorem dX4_write_103 : decode cX4_write 103 = .ok (.iastore, 1) := by decide +kernel
theorem dX4_write_104 : decode cX4_write 104 = .ok (.iinc 2 1, 3) := by decide +kernel
theorem dX4_write_107 : decode cX4_write 107 = .ok (.goto (-23), 3) := by decide +kernel
theorem dX4_write_110 : decode cX4_write 110 = .ok (.aload_n 0, 1) := by decide +kernel
theorem dX4_write_111 : decode cX4_write 111 = .ok (.aload_n 0, 1) := by decide +kernel
theorem dX4_write_112 : decode cX4_write 112 = .ok (.getfield 192, 3) := by decide +kernel
theorem dX4_write_115 : decode cX4_write 115 = .ok (.putfield 163, 3) := by decide +kernel
theorem dX4_write_118 : decode cX4_write 118 = .ok (.aload_n 0, 1) := by decide +kernel
theorem dX4_write_119 : decode cX4_write 119 = .ok (.getfield 163, 3) := by decide +kernel
theorem dX4_write_122 : decode cX4_write 122 = .ok (.ireturn, 1) := by decide +kernel
theorem dX4_keep_0 : decode cX4_keep 0 = .ok (.aload_n 0, 1) := by decide +kernel
theorem dX4_keep_1 : decode cX4_keep 1 = .ok (.iconst 0, 1) := by decide +kernel
theorem dX4_keep_2 : decode cX4_keep 2 = .ok (.putfield 38, 3) := by decide +kernel
theorem dX4_keep_5 : decode cX4_keep 5 = .ok (.iload_n 1, 1) := by decide +kernel
theorem dX4_keep_6 : decode cX4_keep 6 = .ok (.iconst 0, 1) := by decide +kernel
theorem dX4_keep_7 : decode cX4_keep 7 = .ok (.iconst 1, 1) := by decide +kernel
theorem dX4_keep_8 : decode cX4_keep 8 = .ok (.invokestatic 42, 3) := by decide +kernel
theorem dX4_keep_11 : decode cX4_keep 11 = .ok (.ifCond .ne 9, 3) := by decide +kernel
theorem dX4_keep_14 : decode cX4_keep 14 = .ok (.aload_n 0, 1) := by decide +kernel
theorem dX4_keep_15 : decode cX4_keep 15 = .ok (.iconst 1, 1) := by decide +kernel
theorem dX4_keep_16 : decode cX4_keep 16 = .ok (.invokevirtual 134, 3) := by decide +kernel
theorem dX4_keep_19 : decode cX4_keep 19 = .ok (.ireturn, 1) := by decide +kernel
theorem dX4_keep_20 : decode cX4_keep 20 = .ok (.iconst 0, 1) := by decide +kernel
theorem dX4_keep_21 : decode cX4_keep 21 = .ok (.istore_n 2, 1) := by decide +kernel
theorem dX4_keep_22 : decode cX4_keep 22 = .ok (.iload_n 2, 1) := by decide +kernel
theorem dX4_keep_23 : decode cX4_keep 23 = .ok (.sipush 182, 3) := by decide +kernel
theorem dX4_keep_26 : decode cX4_keep 26 = .ok (.if_icmp .ge 27, 3) := by decide +kernel
theorem dX4_keep_29 : decode cX4_keep 29 = .ok (.aload_n 0, 1) := by decide +kernel
theorem dX4_keep_30 : decode cX4_keep 30 = .ok (.getfield 16, 3) := by decide +kernel
theorem dX4_keep_33 : decode cX4_keep 33 = .ok (.sipush 182, 3) := by decide +kernel
theorem dX4_keep_36 : decode cX4_keep 36 = .ok (.iload_n 1, 1) := by decide +kernel
theorem dX4_keep_37 : decode cX4_keep 37 = .ok (.imul, 1) := by decide +kernel
theorem dX4_keep_38 : decode cX4_keep 38 = .ok (.iload_n 2, 1) := by decide +kernel
theorem dX4_keep_39 : decode cX4_keep 39 = .ok (.iadd, 1) := by decide +kernel
theorem dX4_keep_40 : decode cX4_keep 40 = .ok (.aload_n 0, 1) := by decide +kernel
theorem dX4_keep_41 : decode cX4_keep 41 = .ok (.getfield 7, 3) := by decide +kernel
theorem dX4_keep_44 : decode cX4_keep 44 = .ok (.iload_n 2, 1) := by decide +kernel
theorem dX4_keep_45 : decode cX4_keep 45 = .ok (.iaload, 1) := by decide +kernel
theorem dX4_keep_46 : decode cX4_keep 46 = .ok (.iastore, 1) := by decide +kernel
theorem dX4_keep_47 : decode cX4_keep 47 = .ok (.iinc 2 1, 3) := by decide +kernel
theorem dX4_keep_50 : decode cX4_keep 50 = .ok (.goto (-28), 3) := by decide +kernel
theorem dX4_keep_53 : decode cX4_keep 53 = .ok (.aload_n 0, 1) := by decide +kernel
theorem dX4_keep_54 : decode cX4_keep 54 = .ok (.getfield 19, 3) := by decide +kernel
theorem dX4_keep_57 : decode cX4_keep 57 = .ok (.iload_n 1, 1) := by decide +kernel
theorem dX4_keep_58 : decode cX4_keep 58 = .ok (.iconst 1, 1) := by decide +kernel
theorem dX4_keep_59 : decode cX4_keep 59 = .ok (.bastore, 1) := by decide +kernel
theorem dX4_keep_60 : decode cX4_keep 60 = .ok (.aload_n 0, 1) := by decide +kernel
theorem dX4_keep_61 : decode cX4_keep 61 = .ok (.invokevirtual 202, 3) := by decide +kernel
theorem dX4_keep_64 : decode cX4_keep 64 = .ok (.ireturn, 1) := by decide +kernel
theorem dX4_goBack_0 : decode cX4_goBack 0 = .ok (.aload_n 0, 1) := by decide +kernel
theorem dX4_goBack_1 : decode cX4_goBack 1 = .ok (.iconst 0, 1) := by decide +kernel
theorem dX4_goBack_2 : decode cX4_goBack 2 = .ok (.putfield 38, 3) := by decide +kernel
theorem dX4_goBack_5 : decode cX4_goBack 5 = .ok (.iload_n 1, 1) := by decide +kernel
theorem dX4_goBack_6 : decode cX4_goBack 6 = .ok (.iconst 0, 1) := by decide +kernel
theorem dX4_goBack_7 : decode cX4_goBack 7 = .ok (.iconst 1, 1) := by decide +kernel
theorem dX4_goBack_8 : decode cX4_goBack 8 = .ok (.invokestatic 42, 3) := by decide +kernel
theorem dX4_goBack_11 : decode cX4_goBack 11 = .ok (.ifCond .ne 9, 3) := by decide +kernel
theorem dX4_goBack_14 : decode cX4_goBack 14 = .ok (.aload_n 0, 1) := by decide +kernel
theorem dX4_goBack_15 : decode cX4_goBack 15 = .ok (.iconst 1, 1) := by decide +kernel
theorem dX4_goBack_16 : decode cX4_goBack 16 = .ok (.invokevirtual 134, 3) := by decide +kernel
theorem dX4_goBack_19 : decode cX4_goBack 19 = .ok (.ireturn, 1) := by decide +kernel
theorem dX4_goBack_20 : decode cX4_goBack 20 = .ok (.aload_n 0, 1) := by decide +kernel
theorem dX4_goBack_21 : decode cX4_goBack 21 = .ok (.getfield 19, 3) := by decide +kernel
theorem dX4_goBack_24 : decode cX4_goBack 24 = .ok (.iload_n 1, 1) := by decide +kernel
theorem dX4_goBack_25 : decode cX4_goBack 25 = .ok (.baload, 1) := by decide +kernel
theorem dX4_goBack_26 : decode cX4_goBack 26 = .ok (.ifCond .ne 9, 3) := by decide +kernel
theorem dX4_goBack_29 : decode cX4_goBack 29 = .ok (.aload_n 0, 1) := by decide +kernel
theorem dX4_goBack_30 : decode cX4_goBack 30 = .ok (.iconst 2, 1) := by decide +kernel
theorem dX4_goBack_31 : decode cX4_goBack 31 = .ok (.invokevirtual 134, 3) := by decide +kernel
theorem dX4_goBack_34 : decode cX4_goBack 34 = .ok (.ireturn, 1) := by decide +kernel
theorem dX4_goBack_35 : decode cX4_goBack 35 = .ok (.aload_n 0, 1) := by decide +kernel
theorem dX4_goBack_36 : decode cX4_goBack 36 = .ok (.invokevirtual 137, 3) := by decide +kernel
theorem dX4_goBack_39 : decode cX4_goBack 39 = .ok (.iconst 0, 1) := by decide +kernel
theorem dX4_goBack_40 : decode cX4_goBack 40 = .ok (.istore_n 2, 1) := by decide +kernel
theorem dX4_goBack_41 : decode cX4_goBack 41 = .ok (.iload_n 2, 1) := by decide +kernel
theorem dX4_goBack_42 : decode cX4_goBack 42 = .ok (.sipush 182, 3) := by decide +kernel
theorem dX4_goBack_45 : decode cX4_goBack 45 = .ok (.if_icmp .ge 27, 3) := by decide +kernel
theorem dX4_goBack_48 : decode cX4_goBack 48 = .ok (.aload_n 0, 1) := by decide +kernel
theorem dX4_goBack_49 : decode cX4_goBack 49 = .ok (.getfield 7, 3) := by decide +kernel
theorem dX4_goBack_52 : decode cX4_goBack 52 = .ok (.iload_n 2, 1) := by decide +kernel
theorem dX4_goBack_53 : decode cX4_goBack 53 = .ok (.aload_n 0, 1) := by decide +kernel
theorem dX4_goBack_54 : decode cX4_goBack 54 = .ok (.getfield 16, 3) := by decide +kernel
theorem dX4_goBack_57 : decode cX4_goBack 57 = .ok (.sipush 182, 3) := by decide +kernel
theorem dX4_goBack_60 : decode cX4_goBack 60 = .ok (.iload_n 1, 1) := by decide +kernel
theorem dX4_goBack_61 : decode cX4_goBack 61 = .ok (.imul, 1) := by decide +kernel
theorem dX4_goBack_62 : decode cX4_goBack 62 = .ok (.iload_n 2, 1) := by decide +kernel
theorem dX4_goBack_63 : decode cX4_goBack 63 = .ok (.iadd, 1) := by decide +kernel
theorem dX4_goBack_64 : decode cX4_goBack 64 = .ok (.iaload, 1) := by decide +kernel
theorem dX4_goBack_65 : decode cX4_goBack 65 = .ok (.iastore, 1) := by decide +kernel
theorem dX4_goBack_66 : decode cX4_goBack 66 = .ok (.iinc 2 1, 3) := by decide +kernel
theorem dX4_goBack_69 : decode cX4_goBack 69 = .ok (.goto (-28), 3) := by decide +kernel
theorem dX4_goBack_72 : decode cX4_goBack 72 = .ok (.aload_n 0, 1) := by decide +kernel
theorem dX4_goBack_73 : decode cX4_goBack 73 = .ok (.invokevirtual 202, 3) := by decide +kernel
theorem dX4_goBack_76 : decode cX4_goBack 76 = .ok (.ireturn, 1) := by decide +kernel
theorem dX4_undo_0 : decode cX4_undo 0 = .ok (.aload_n 0, 1) := by decide +kernel
theorem dX4_undo_1 : decode cX4_undo 1 = .ok (.iconst 0, 1) := by decide +kernel
theorem dX4_undo_2 : decode cX4_undo 2 = .ok (.putfield 38, 3) := by decide +kernel
theorem dX4_undo_5 : decode cX4_undo 5 = .ok (.aload_n 0, 1) := by decide +kernel
theorem dX4_undo_6 : decode cX4_undo 6 = .ok (.getfield 50, 3) := by decide +kernel
theorem dX4_undo_9 : decode cX4_undo 9 = .ok (.ifCond .ne 9, 3) := by decide +kernel
theorem dX4_undo_12 : decode cX4_undo 12 = .ok (.aload_n 0, 1) := by decide +kernel
theorem dX4_undo_13 : decode cX4_undo 13 = .ok (.iconst 1, 1) := by decide +kernel
theorem dX4_undo_14 : decode cX4_undo 14 = .ok (.invokevirtual 134, 3) := by decide +kernel
theorem dX4_undo_17 : decode cX4_undo 17 = .ok (.ireturn, 1) := by decide +kernel
theorem dX4_undo_18 : decode cX4_undo 18 = .ok (.aload_n 0, 1) := by decide +kernel
theorem dX4_undo_19 : decode cX4_undo 19 = .ok (.dup, 1) := by decide +kernel
theorem dX4_undo_20 : decode cX4_undo 20 = .ok (.getfield 50, 3) := by decide +kernel
theorem dX4_undo_23 : decode cX4_undo 23 = .ok (.iconst 1, 1) := by decide +kernel
theorem dX4_undo_24 : decode cX4_undo 24 = .ok (.isub, 1) := by decide +kernel
theorem dX4_undo_25 : decode cX4_undo 25 = .ok (.putfield 50, 3) := by decide +kernel
theorem dX4_undo_28 : decode cX4_undo 28 = .ok (.iconst 0, 1) := by decide +kernel
theorem dX4_undo_29 : decode cX4_undo 29 = .ok (.istore_n 1, 1) := by decide +kernel
theorem dX4_undo_30 : decode cX4_undo 30 = .ok (.iload_n 1, 1) := by decide +kernel
theorem dX4_undo_31 : decode cX4_undo 31 = .ok (.sipush 182, 3) := by decide +kernel
theorem dX4_undo_34 : decode cX4_undo 34 = .ok (.if_icmp .ge 30, 3) := by decide +kernel
theorem dX4_undo_37 : decode cX4_undo 37 = .ok (.aload_n 0, 1) := by decide +kernel
theorem dX4_undo_38 : decode cX4_undo 38 = .ok (.getfield 7, 3) := by decide +kernel
theorem dX4_undo_41 : decode cX4_undo 41 = .ok (.iload_n 1, 1) := by decide +kernel
theorem dX4_undo_42 : decode cX4_undo 42 = .ok (.aload_n 0, 1) := by decide +kernel
theorem dX4_undo_43 : decode cX4_undo 43 = .ok (.getfield 13, 3) := by decide +kernel
theorem dX4_undo_46 : decode cX4_undo 46 = .ok (.sipush 182, 3) := by decide +kernel
theorem dX4_undo_49 : decode cX4_undo 49 = .ok (.aload_n 0, 1) := by decide +kernel
theorem dX4_undo_50 : decode cX4_undo 50 = .ok (.getfield 50, 3) := by decide +kernel
theorem dX4_undo_53 : decode cX4_undo 53 = .ok (.imul, 1) := by decide +kernel
theorem dX4_undo_54 : decode cX4_undo 54 = .ok (.iload_n 1, 1) := by decide +kernel
theorem dX4_undo_55 : decode cX4_undo 55 = .ok (.iadd, 1) := by decide +kernel
theorem dX4_undo_56 : decode cX4_undo 56 = .ok (.iaload, 1) := by decide +kernel
theorem dX4_undo_57 : decode cX4_undo 57 = .ok (.iastore, 1) := by decide +kernel
theorem dX4_undo_58 : decode cX4_undo 58 = .ok (.iinc 1 1, 3) := by decide +kernel
theorem dX4_undo_61 : decode cX4_undo 61 = .ok (.goto (-31), 3) := by decide +kernel
theorem dX4_undo_64 : decode cX4_undo 64 = .ok (.aload_n 0, 1) := by decide +kernel
theorem dX4_undo_65 : decode cX4_undo 65 = .ok (.getfield 50, 3) := by decide +kernel
theorem dX4_undo_68 : decode cX4_undo 68 = .ok (.ireturn, 1) := by decide +kernel
theorem dX4_wordProperty_0 : decode cX4_wordProperty 0 = .ok (.aload_n 0, 1) := by decide +kernel
theorem dX4_wordProperty_1 : decode cX4_wordProperty 1 = .ok (.iload_n 1, 1) := by decide +kernel
theorem dX4_wordProperty_2 : decode cX4_wordProperty 2 = .ok (.invokevirtual 57, 3) := by decide +kernel
theorem dX4_wordProperty_5 : decode cX4_wordProperty 5 = .ok (.istore_n 3, 1) := by decide +kernel
theorem dX4_wordProperty_6 : decode cX4_wordProperty 6 = .ok (.iload_n 2, 1) := by decide +kernel
theorem dX4_wordProperty_7 : decode cX4_wordProperty 7 = .ok (.tableswitch 84 0 5 #[37, 42, 47, 52, 65, 78], 37) := by decide +kernel
theorem dX4_wordProperty_44 : decode cX4_wordProperty 44 = .ok (.iload_n 1, 1) := by decide +kernel
theorem dX4_wordProperty_45 : decode cX4_wordProperty 45 = .ok (.invokestatic 74, 3) := by decide +kernel
theorem dX4_wordProperty_48 : decode cX4_wordProperty 48 = .ok (.ireturn, 1) := by decide +kernel
theorem dX4_wordProperty_49 : decode cX4_wordProperty 49 = .ok (.iload_n 1, 1) := by decide +kernel
theorem dX4_wordProperty_50 : decode cX4_wordProperty 50 = .ok (.invokestatic 91, 3) := by decide +kernel
theorem dX4_wordProperty_53 : decode cX4_wordProperty 53 = .ok (.ireturn, 1) := by decide +kernel
theorem dX4_wordProperty_54 : decode cX4_wordProperty 54 = .ok (.iload_n 1, 1) := by decide +kernel
theorem dX4_wordProperty_55 : decode cX4_wordProperty 55 = .ok (.invokestatic 71, 3) := by decide +kernel
theorem dX4_wordProperty_58 : decode cX4_wordProperty 58 = .ok (.ireturn, 1) := by decide +kernel
theorem dX4_wordProperty_59 : decode cX4_wordProperty 59 = .ok (.iload_n 3, 1) := by decide +kernel
theorem dX4_wordProperty_60 : decode cX4_wordProperty 60 = .ok (.iconst (-1), 1) := by decide +kernel
theorem dX4_wordProperty_61 : decode cX4_wordProperty 61 = .ok (.if_icmp .ne 7, 3) := by decide +kernel
theorem dX4_wordProperty_64 : decode cX4_wordProperty 64 = .ok (.iconst (-1), 1) := by decide +kernel
theorem dX4_wordProperty_65 : decode cX4_wordProperty 65 = .ok (.goto 6, 3) := by decide +kernel
theorem dX4_wordProperty_68 : decode cX4_wordProperty 68 = .ok (.iload_n 3, 1) := by decide +kernel
theorem dX4_wordProperty_69 : decode cX4_wordProperty 69 = .ok (.iconst 4, 1) := by decide +kernel
theorem dX4_wordProperty_70 : decode cX4_wordProperty 70 = .ok (.idiv, 1) := by decide +kernel
theorem dX4_wordProperty_71 : decode cX4_wordProperty 71 = .ok (.ireturn, 1) := by decide +kernel
theorem dX4_wordProperty_72 : decode cX4_wordProperty 72 = .ok (.iload_n 3, 1) := by decide +kernel
theorem dX4_wordProperty_73 : decode cX4_wordProperty 73 = .ok (.iconst (-1), 1) := by decide +kernel
theorem dX4_wordProperty_74 : decode cX4_wordProperty 74 = .ok (.if_icmp .ne 7, 3) := by decide +kernel
theorem dX4_wordProperty_77 : decode cX4_wordProperty 77 = .ok (.iconst (-1), 1) := by decide +kernel
theorem dX4_wordProperty_78 : decode cX4_wordProperty 78 = .ok (.goto 6, 3) := by decide +kernel
theorem dX4_wordProperty_81 : decode cX4_wordProperty 81 = .ok (.iload_n 3, 1) := by decide +kernel
theorem dX4_wordProperty_82 : decode cX4_wordProperty 82 = .ok (.iconst 4, 1) := by decide +kernel
theorem dX4_wordProperty_83 : decode cX4_wordProperty 83 = .ok (.irem, 1) := by decide +kernel
theorem dX4_wordProperty_84 : decode cX4_wordProperty 84 = .ok (.ireturn, 1) := by decide +kernel
theorem dX4_wordProperty_85 : decode cX4_wordProperty 85 = .ok (.aload_n 0, 1) := by decide +kernel
theorem dX4_wordProperty_86 : decode cX4_wordProperty 86 = .ok (.iload_n 1, 1) := by decide +kernel
theorem dX4_wordProperty_87 : decode cX4_wordProperty 87 = .ok (.invokevirtual 122, 3) := by decide +kernel
theorem dX4_wordProperty_90 : decode cX4_wordProperty 90 = .ok (.ireturn, 1) := by decide +kernel
theorem dX4_wordProperty_91 : decode cX4_wordProperty 91 = .ok (.aload_n 0, 1) := by decide +kernel
theorem dX4_wordProperty_92 : decode cX4_wordProperty 92 = .ok (.getfield 7, 3) := by decide +kernel
theorem dX4_wordProperty_95 : decode cX4_wordProperty 95 = .ok (.sipush 136, 3) := by decide +kernel
theorem dX4_wordProperty_98 : decode cX4_wordProperty 98 = .ok (.iload_n 1, 1) := by decide +kernel
theorem dX4_wordProperty_99 : decode cX4_wordProperty 99 = .ok (.iadd, 1) := by decide +kernel
theorem dX4_wordProperty_100 : decode cX4_wordProperty 100 = .ok (.iaload, 1) := by decide +kernel
theorem dX4_wordProperty_101 : decode cX4_wordProperty 101 = .ok (.ireturn, 1) := by decide +kernel
theorem dX4_wordOf_0 : decode cX4_wordOf 0 = .ok (.aload_n 0, 1) := by decide +kernel
theorem dX4_wordOf_1 : decode cX4_wordOf 1 = .ok (.iconst 0, 1) := by decide +kernel
theorem dX4_wordOf_2 : decode cX4_wordOf 2 = .ok (.putfield 38, 3) := by decide +kernel
theorem dX4_wordOf_5 : decode cX4_wordOf 5 = .ok (.iload_n 1, 1) := by decide +kernel
theorem dX4_wordOf_6 : decode cX4_wordOf 6 = .ok (.invokestatic 128, 3) := by decide +kernel
theorem dX4_wordOf_9 : decode cX4_wordOf 9 = .ok (.ifCond .ne 9, 3) := by decide +kernel
theorem dX4_wordOf_12 : decode cX4_wordOf 12 = .ok (.aload_n 0, 1) := by decide +kernel
theorem dX4_wordOf_13 : decode cX4_wordOf 13 = .ok (.iconst 1, 1) := by decide +kernel
theorem dX4_wordOf_14 : decode cX4_wordOf 14 = .ok (.invokevirtual 134, 3) := by decide +kernel
theorem dX4_wordOf_17 : decode cX4_wordOf 17 = .ok (.ireturn, 1) := by decide +kernel
theorem dX4_wordOf_18 : decode cX4_wordOf 18 = .ok (.iload_n 2, 1) := by decide +kernel
theorem dX4_wordOf_19 : decode cX4_wordOf 19 = .ok (.iconst 0, 1) := by decide +kernel
theorem dX4_wordOf_20 : decode cX4_wordOf 20 = .ok (.bipush 6, 2) := by decide +kernel
theorem dX4_wordOf_22 : decode cX4_wordOf 22 = .ok (.invokestatic 42, 3) := by decide +kernel
theorem dX4_wordOf_25 : decode cX4_wordOf 25 = .ok (.ifCond .eq 12, 3) := by decide +kernel
theorem dX4_wordOf_28 : decode cX4_wordOf 28 = .ok (.aload_n 0, 1) := by decide +kernel
theorem dX4_wordOf_29 : decode cX4_wordOf 29 = .ok (.iload_n 1, 1) := by decide +kernel
theorem dX4_wordOf_30 : decode cX4_wordOf 30 = .ok (.iload_n 2, 1) := by decide +kernel
theorem dX4_wordOf_31 : decode cX4_wordOf 31 = .ok (.invokevirtual 205, 3) := by decide +kernel
theorem dX4_wordOf_34 : decode cX4_wordOf 34 = .ok (.goto 8, 3) := by decide +kernel
theorem dX4_wordOf_37 : decode cX4_wordOf 37 = .ok (.aload_n 0, 1) := by decide +kernel
theorem dX4_wordOf_38 : decode cX4_wordOf 38 = .ok (.iconst 2, 1) := by decide +kernel
theorem dX4_wordOf_39 : decode cX4_wordOf 39 = .ok (.invokevirtual 134, 3) := by decide +kernel
theorem dX4_wordOf_42 : decode cX4_wordOf 42 = .ok (.ireturn, 1) := by decide +kernel
theorem dX4_wordOrNone_0 : decode cX4_wordOrNone 0 = .ok (.iload_n 2, 1) := by decide +kernel
theorem dX4_wordOrNone_1 : decode cX4_wordOrNone 1 = .ok (.aload_n 0, 1) := by decide +kernel
theorem dX4_wordOrNone_2 : decode cX4_wordOrNone 2 = .ok (.getfield 7, 3) := by decide +kernel
theorem dX4_wordOrNone_5 : decode cX4_wordOrNone 5 = .ok (.iconst 0, 1) := by decide +kernel
theorem dX4_wordOrNone_6 : decode cX4_wordOrNone 6 = .ok (.iload_n 1, 1) := by decide +kernel
theorem dX4_wordOrNone_7 : decode cX4_wordOrNone 7 = .ok (.iadd, 1) := by decide +kernel
theorem dX4_wordOrNone_8 : decode cX4_wordOrNone 8 = .ok (.iaload, 1) := by decide +kernel
theorem dX4_wordOrNone_9 : decode cX4_wordOrNone 9 = .ok (.if_icmp .ge 12, 3) := by decide +kernel
theorem dX4_wordOrNone_12 : decode cX4_wordOrNone 12 = .ok (.aload_n 0, 1) := by decide +kernel
theorem dX4_wordOrNone_13 : decode cX4_wordOrNone 13 = .ok (.iload_n 1, 1) := by decide +kernel
theorem dX4_wordOrNone_14 : decode cX4_wordOrNone 14 = .ok (.iload_n 2, 1) := by decide +kernel
theorem dX4_wordOrNone_15 : decode cX4_wordOrNone 15 = .ok (.invokevirtual 53, 3) := by decide +kernel
theorem dX4_wordOrNone_18 : decode cX4_wordOrNone 18 = .ok (.goto 4, 3) := by decide +kernel
theorem dX4_wordOrNone_21 : decode cX4_wordOrNone 21 = .ok (.iconst (-1), 1) := by decide +kernel
theorem dX4_wordOrNone_22 : decode cX4_wordOrNone 22 = .ok (.ireturn, 1) := by decide +kernel
theorem dX4_at_0 : decode cX4_at 0 = .ok (.aload_n 0, 1) := by decide +kernel
theorem dX4_at_1 : decode cX4_at 1 = .ok (.iconst 0, 1) := by decide +kernel
theorem dX4_at_2 : decode cX4_at 2 = .ok (.putfield 38, 3) := by decide +kernel
theorem dX4_at_5 : decode cX4_at 5 = .ok (.iload_n 1, 1) := by decide +kernel
theorem dX4_at_6 : decode cX4_at 6 = .ok (.iload_n 2, 1) := by decide +kernel
theorem dX4_at_7 : decode cX4_at 7 = .ok (.invokestatic 131, 3) := by decide +kernel
theorem dX4_at_10 : decode cX4_at 10 = .ok (.ifCond .eq 25, 3) := by decide +kernel
theorem dX4_at_13 : decode cX4_at 13 = .ok (.iload_n 3, 1) := by decide +kernel
theorem dX4_at_14 : decode cX4_at 14 = .ok (.iconst 0, 1) := by decide +kernel
theorem dX4_at_15 : decode cX4_at 15 = .ok (.iconst 5, 1) := by decide +kernel
theorem dX4_at_16 : decode cX4_at 16 = .ok (.invokestatic 42, 3) := by decide +kernel
theorem dX4_at_19 : decode cX4_at 19 = .ok (.ifCond .eq 16, 3) := by decide +kernel
theorem dX4_at_22 : decode cX4_at 22 = .ok (.aload_n 0, 1) := by decide +kernel
theorem dX4_at_23 : decode cX4_at 23 = .ok (.iconst 4, 1) := by decide +kernel
theorem dX4_at_24 : decode cX4_at 24 = .ok (.iload_n 1, 1) := by decide +kernel
theorem dX4_at_25 : decode cX4_at 25 = .ok (.imul, 1) := by decide +kernel
theorem dX4_at_26 : decode cX4_at 26 = .ok (.iload_n 2, 1) := by decide +kernel
theorem dX4_at_27 : decode cX4_at 27 = .ok (.iadd, 1) := by decide +kernel
theorem dX4_at_28 : decode cX4_at 28 = .ok (.iload_n 3, 1) := by decide +kernel
theorem dX4_at_29 : decode cX4_at 29 = .ok (.invokevirtual 208, 3) := by decide +kernel
theorem dX4_at_32 : decode cX4_at 32 = .ok (.goto 8, 3) := by decide +kernel
theorem dX4_at_35 : decode cX4_at 35 = .ok (.aload_n 0, 1) := by decide +kernel
theorem dX4_at_36 : decode cX4_at 36 = .ok (.iconst 1, 1) := by decide +kernel
theorem dX4_at_37 : decode cX4_at 37 = .ok (.invokevirtual 134, 3) := by decide +kernel
theorem dX4_at_40 : decode cX4_at 40 = .ok (.ireturn, 1) := by decide +kernel
theorem dX4_told_0 : decode cX4_told 0 = .ok (.iload_n 0, 1) := by decide +kernel
theorem dX4_told_1 : decode cX4_told 1 = .ok (.iconst (-1), 1) := by decide +kernel
theorem dX4_told_2 : decode cX4_told 2 = .ok (.if_icmp .ne 7, 3) := by decide +kernel
theorem dX4_told_5 : decode cX4_told 5 = .ok (.iconst (-1), 1) := by decide +kernel
theorem dX4_told_6 : decode cX4_told 6 = .ok (.goto 13, 3) := by decide +kernel
theorem dX4_told_9 : decode cX4_told 9 = .ok (.bipush 10, 2) := by decide +kernel
theorem dX4_told_11 : decode cX4_told 11 = .ok (.iload_n 0, 1) := by decide +kernel
theorem dX4_told_12 : decode cX4_told 12 = .ok (.iconst 4, 1) := by decide +kernel
theorem dX4_told_13 : decode cX4_told 13 = .ok (.idiv, 1) := by decide +kernel
theorem dX4_told_14 : decode cX4_told 14 = .ok (.imul, 1) := by decide +kernel
theorem dX4_told_15 : decode cX4_told 15 = .ok (.iload_n 0, 1) := by decide +kernel
theorem dX4_told_16 : decode cX4_told 16 = .ok (.iconst 4, 1) := by decide +kernel
theorem dX4_told_17 : decode cX4_told 17 = .ok (.irem, 1) := by decide +kernel
theorem dX4_told_18 : decode cX4_told 18 = .ok (.iadd, 1) := by decide +kernel
theorem dX4_told_19 : decode cX4_told 19 = .ok (.ireturn, 1) := by decide +kernel
theorem dX4_isMixed_0 : decode cX4_isMixed 0 = .ok (.iconst 1, 1) := by decide +kernel
theorem dX4_isMixed_1 : decode cX4_isMixed 1 = .ok (.istore_n 2, 1) := by decide +kernel
theorem dX4_isMixed_2 : decode cX4_isMixed 2 = .ok (.iconst 0, 1) := by decide +kernel
theorem dX4_isMixed_3 : decode cX4_isMixed 3 = .ok (.istore_n 3, 1) := by decide +kernel
theorem dX4_isMixed_4 : decode cX4_isMixed 4 = .ok (.iload_n 3, 1) := by decide +kernel
theorem dX4_isMixed_5 : decode cX4_isMixed 5 = .ok (.iconst 1, 1) := by decide +kernel
theorem dX4_isMixed_6 : decode cX4_isMixed 6 = .ok (.iadd, 1) := by decide +kernel
theorem dX4_isMixed_7 : decode cX4_isMixed 7 = .ok (.aload_n 0, 1) := by decide +kernel
theorem dX4_isMixed_8 : decode cX4_isMixed 8 = .ok (.getfield 7, 3) := by decide +kernel
theorem dX4_isMixed_11 : decode cX4_isMixed 11 = .ok (.iconst 0, 1) := by decide +kernel
theorem dX4_isMixed_12 : decode cX4_isMixed 12 = .ok (.iload_n 1, 1) := by decide +kernel
theorem dX4_isMixed_13 : decode cX4_isMixed 13 = .ok (.iadd, 1) := by decide +kernel
theorem dX4_isMixed_14 : decode cX4_isMixed 14 = .ok (.iaload, 1) := by decide +kernel
theorem dX4_isMixed_15 : decode cX4_isMixed 15 = .ok (.if_icmp .ge 39, 3) := by decide +kernel
theorem dX4_isMixed_18 : decode cX4_isMixed 18 = .ok (.iload_n 2, 1) := by decide +kernel
theorem dX4_isMixed_19 : decode cX4_isMixed 19 = .ok (.ifCond .eq 27, 3) := by decide +kernel
theorem dX4_isMixed_22 : decode cX4_isMixed 22 = .ok (.aload_n 0, 1) := by decide +kernel
theorem dX4_isMixed_23 : decode cX4_isMixed 23 = .ok (.iload_n 1, 1) := by decide +kernel
theorem dX4_isMixed_24 : decode cX4_isMixed 24 = .ok (.iload_n 3, 1) := by decide +kernel
theorem dX4_isMixed_25 : decode cX4_isMixed 25 = .ok (.invokevirtual 53, 3) := by decide +kernel
theorem dX4_isMixed_28 : decode cX4_isMixed 28 = .ok (.aload_n 0, 1) := by decide +kernel
theorem dX4_isMixed_29 : decode cX4_isMixed 29 = .ok (.iload_n 1, 1) := by decide +kernel
theorem dX4_isMixed_30 : decode cX4_isMixed 30 = .ok (.iload_n 3, 1) := by decide +kernel
theorem dX4_isMixed_31 : decode cX4_isMixed 31 = .ok (.iconst 1, 1) := by decide +kernel
theorem dX4_isMixed_32 : decode cX4_isMixed 32 = .ok (.iadd, 1) := by decide +kernel
theorem dX4_isMixed_33 : decode cX4_isMixed 33 = .ok (.invokevirtual 53, 3) := by decide +kernel
theorem dX4_isMixed_36 : decode cX4_isMixed 36 = .ok (.invokestatic 84, 3) := by decide +kernel
theorem dX4_isMixed_39 : decode cX4_isMixed 39 = .ok (.ifCond .ne 7, 3) := by decide +kernel
theorem dX4_isMixed_42 : decode cX4_isMixed 42 = .ok (.iconst 1, 1) := by decide +kernel
theorem dX4_isMixed_43 : decode cX4_isMixed 43 = .ok (.goto 4, 3) := by decide +kernel
theorem dX4_isMixed_46 : decode cX4_isMixed 46 = .ok (.iconst 0, 1) := by decide +kernel
theorem dX4_isMixed_47 : decode cX4_isMixed 47 = .ok (.istore_n 2, 1) := by decide +kernel
theorem dX4_isMixed_48 : decode cX4_isMixed 48 = .ok (.iinc 3 1, 3) := by decide +kernel
theorem dX4_isMixed_51 : decode cX4_isMixed 51 = .ok (.goto (-47), 3) := by decide +kernel
theorem dX4_isMixed_54 : decode cX4_isMixed 54 = .ok (.iload_n 2, 1) := by decide +kernel
theorem dX4_isMixed_55 : decode cX4_isMixed 55 = .ok (.ireturn, 1) := by decide +kernel
theorem dX4_lineProperty_0 : decode cX4_lineProperty 0 = .ok (.iload_n 2, 1) := by decide +kernel
theorem dX4_lineProperty_1 : decode cX4_lineProperty 1 = .ok (.tableswitch 100 0 6 #[43, 52, 58, 64, 70, 85, 94], 43) := by decide +kernel
theorem dX4_lineProperty_44 : decode cX4_lineProperty 44 = .ok (.aload_n 0, 1) := by decide +kernel
theorem dX4_lineProperty_45 : decode cX4_lineProperty 45 = .ok (.getfield 7, 3) := by decide +kernel
theorem dX4_lineProperty_48 : decode cX4_lineProperty 48 = .ok (.iconst 0, 1) := by decide +kernel
theorem dX4_lineProperty_49 : decode cX4_lineProperty 49 = .ok (.iload_n 1, 1) := by decide +kernel
theorem dX4_lineProperty_50 : decode cX4_lineProperty 50 = .ok (.iadd, 1) := by decide +kernel
theorem dX4_lineProperty_51 : decode cX4_lineProperty 51 = .ok (.iaload, 1) := by decide +kernel
theorem dX4_lineProperty_52 : decode cX4_lineProperty 52 = .ok (.ireturn, 1) := by decide +kernel
theorem dX4_lineProperty_53 : decode cX4_lineProperty 53 = .ok (.aload_n 0, 1) := by decide +kernel
theorem dX4_lineProperty_54 : decode cX4_lineProperty 54 = .ok (.iload_n 1, 1) := by decide +kernel
theorem dX4_lineProperty_55 : decode cX4_lineProperty 55 = .ok (.invokevirtual 77, 3) := by decide +kernel
theorem dX4_lineProperty_58 : decode cX4_lineProperty 58 = .ok (.ireturn, 1) := by decide +kernel
theorem dX4_lineProperty_59 : decode cX4_lineProperty 59 = .ok (.aload_n 0, 1) := by decide +kernel
theorem dX4_lineProperty_60 : decode cX4_lineProperty 60 = .ok (.iload_n 1, 1) := by decide +kernel
theorem dX4_lineProperty_61 : decode cX4_lineProperty 61 = .ok (.invokevirtual 103, 3) := by decide +kernel
theorem dX4_lineProperty_64 : decode cX4_lineProperty 64 = .ok (.ireturn, 1) := by decide +kernel
theorem dX4_lineProperty_65 : decode cX4_lineProperty 65 = .ok (.aload_n 0, 1) := by decide +kernel
theorem dX4_lineProperty_66 : decode cX4_lineProperty 66 = .ok (.iload_n 1, 1) := by decide +kernel
theorem dX4_lineProperty_67 : decode cX4_lineProperty 67 = .ok (.invokevirtual 94, 3) := by decide +kernel
theorem dX4_lineProperty_70 : decode cX4_lineProperty 70 = .ok (.ireturn, 1) := by decide +kernel
theorem dX4_lineProperty_71 : decode cX4_lineProperty 71 = .ok (.aload_n 0, 1) := by decide +kernel
theorem dX4_lineProperty_72 : decode cX4_lineProperty 72 = .ok (.getfield 7, 3) := by decide +kernel
theorem dX4_lineProperty_75 : decode cX4_lineProperty 75 = .ok (.bipush 112, 2) := by decide +kernel
theorem dX4_lineProperty_77 : decode cX4_lineProperty 77 = .ok (.iload_n 1, 1) := by decide +kernel
theorem dX4_lineProperty_78 : decode cX4_lineProperty 78 = .ok (.iadd, 1) := by decide +kernel
theorem dX4_lineProperty_79 : decode cX4_lineProperty 79 = .ok (.iaload, 1) := by decide +kernel
theorem dX4_lineProperty_80 : decode cX4_lineProperty 80 = .ok (.iconst 1, 1) := by decide +kernel
theorem dX4_lineProperty_81 : decode cX4_lineProperty 81 = .ok (.isub, 1) := by decide +kernel
theorem dX4_lineProperty_82 : decode cX4_lineProperty 82 = .ok (.invokestatic 211, 3) := by decide +kernel
theorem dX4_lineProperty_85 : decode cX4_lineProperty 85 = .ok (.ireturn, 1) := by decide +kernel
theorem dX4_lineProperty_86 : decode cX4_lineProperty 86 = .ok (.aload_n 0, 1) := by decide +kernel
theorem dX4_lineProperty_87 : decode cX4_lineProperty 87 = .ok (.iload_n 1, 1) := by decide +kernel
theorem dX4_lineProperty_88 : decode cX4_lineProperty 88 = .ok (.invokevirtual 151, 3) := by decide +kernel
theorem dX4_lineProperty_91 : decode cX4_lineProperty 91 = .ok (.invokestatic 211, 3) := by decide +kernel
theorem dX4_lineProperty_94 : decode cX4_lineProperty 94 = .ok (.ireturn, 1) := by decide +kernel
theorem dX4_lineProperty_95 : decode cX4_lineProperty 95 = .ok (.aload_n 0, 1) := by decide +kernel
theorem dX4_lineProperty_96 : decode cX4_lineProperty 96 = .ok (.iload_n 1, 1) := by decide +kernel
theorem dX4_lineProperty_97 : decode cX4_lineProperty 97 = .ok (.invokevirtual 97, 3) := by decide +kernel
theorem dX4_lineProperty_100 : decode cX4_lineProperty 100 = .ok (.ireturn, 1) := by decide +kernel
theorem dX4_lineProperty_101 : decode cX4_lineProperty 101 = .ok (.aload_n 0, 1) := by decide +kernel
theorem dX4_lineProperty_102 : decode cX4_lineProperty 102 = .ok (.iload_n 1, 1) := by decide +kernel
theorem dX4_lineProperty_103 : decode cX4_lineProperty 103 = .ok (.invokevirtual 214, 3) := by decide +kernel
theorem dX4_lineProperty_106 : decode cX4_lineProperty 106 = .ok (.ifCond .eq 7, 3) := by decide +kernel
theorem dX4_lineProperty_109 : decode cX4_lineProperty 109 = .ok (.iconst 1, 1) := by decide +kernel
theorem dX4_lineProperty_110 : decode cX4_lineProperty 110 = .ok (.goto 4, 3) := by decide +kernel
theorem dX4_lineProperty_113 : decode cX4_lineProperty 113 = .ok (.iconst 0, 1) := by decide +kernel
theorem dX4_lineProperty_114 : decode cX4_lineProperty 114 = .ok (.ireturn, 1) := by decide +kernel
theorem dX4_lineOf_0 : decode cX4_lineOf 0 = .ok (.aload_n 0, 1) := by decide +kernel
theorem dX4_lineOf_1 : decode cX4_lineOf 1 = .ok (.iconst 0, 1) := by decide +kernel
theorem dX4_lineOf_2 : decode cX4_lineOf 2 = .ok (.putfield 38, 3) := by decide +kernel
theorem dX4_lineOf_5 : decode cX4_lineOf 5 = .ok (.iload_n 1, 1) := by decide +kernel
theorem dX4_lineOf_6 : decode cX4_lineOf 6 = .ok (.iload_n 2, 1) := by decide +kernel
theorem dX4_lineOf_7 : decode cX4_lineOf 7 = .ok (.invokestatic 131, 3) := by decide +kernel
theorem dX4_lineOf_10 : decode cX4_lineOf 10 = .ok (.ifCond .ne 9, 3) := by decide +kernel
theorem dX4_lineOf_13 : decode cX4_lineOf 13 = .ok (.aload_n 0, 1) := by decide +kernel
theorem dX4_lineOf_14 : decode cX4_lineOf 14 = .ok (.iconst 1, 1) := by decide +kernel
theorem dX4_lineOf_15 : decode cX4_lineOf 15 = .ok (.invokevirtual 134, 3) := by decide +kernel
theorem dX4_lineOf_18 : decode cX4_lineOf 18 = .ok (.ireturn, 1) := by decide +kernel
theorem dX4_lineOf_19 : decode cX4_lineOf 19 = .ok (.iload_n 3, 1) := by decide +kernel
theorem dX4_lineOf_20 : decode cX4_lineOf 20 = .ok (.iconst 0, 1) := by decide +kernel
theorem dX4_lineOf_21 : decode cX4_lineOf 21 = .ok (.bipush 7, 2) := by decide +kernel
theorem dX4_lineOf_23 : decode cX4_lineOf 23 = .ok (.invokestatic 42, 3) := by decide +kernel
theorem dX4_lineOf_26 : decode cX4_lineOf 26 = .ok (.ifCond .eq 16, 3) := by decide +kernel
theorem dX4_lineOf_29 : decode cX4_lineOf 29 = .ok (.aload_n 0, 1) := by decide +kernel
theorem dX4_lineOf_30 : decode cX4_lineOf 30 = .ok (.iconst 4, 1) := by decide +kernel
theorem dX4_lineOf_31 : decode cX4_lineOf 31 = .ok (.iload_n 1, 1) := by decide +kernel
theorem dX4_lineOf_32 : decode cX4_lineOf 32 = .ok (.imul, 1) := by decide +kernel
theorem dX4_lineOf_33 : decode cX4_lineOf 33 = .ok (.iload_n 2, 1) := by decide +kernel
theorem dX4_lineOf_34 : decode cX4_lineOf 34 = .ok (.iadd, 1) := by decide +kernel
theorem dX4_lineOf_35 : decode cX4_lineOf 35 = .ok (.iload_n 3, 1) := by decide +kernel
theorem dX4_lineOf_36 : decode cX4_lineOf 36 = .ok (.invokevirtual 217, 3) := by decide +kernel
theorem dX4_lineOf_39 : decode cX4_lineOf 39 = .ok (.goto 8, 3) := by decide +kernel
theorem dX4_lineOf_42 : decode cX4_lineOf 42 = .ok (.aload_n 0, 1) := by decide +kernel
theorem dX4_lineOf_43 : decode cX4_lineOf 43 = .ok (.iconst 2, 1) := by decide +kernel
theorem dX4_lineOf_44 : decode cX4_lineOf 44 = .ok (.invokevirtual 134, 3) := by decide +kernel
theorem dX4_lineOf_47 : decode cX4_lineOf 47 = .ok (.ireturn, 1) := by decide +kernel
theorem dX4_doorProperty_0 : decode cX4_doorProperty 0 = .ok (.iload_n 2, 1) := by decide +kernel
theorem dX4_doorProperty_1 : decode cX4_doorProperty 1 = .ok (.tableswitch 60 0 3 #[31, 37, 43, 49], 31) := by decide +kernel
theorem dX4_doorProperty_32 : decode cX4_doorProperty 32 = .ok (.aload_n 0, 1) := by decide +kernel
theorem dX4_doorProperty_33 : decode cX4_doorProperty 33 = .ok (.iload_n 1, 1) := by decide +kernel
theorem dX4_doorProperty_34 : decode cX4_doorProperty 34 = .ok (.invokevirtual 109, 3) := by decide +kernel
theorem dX4_doorProperty_37 : decode cX4_doorProperty 37 = .ok (.ireturn, 1) := by decide +kernel
theorem dX4_doorProperty_38 : decode cX4_doorProperty 38 = .ok (.aload_n 0, 1) := by decide +kernel
theorem dX4_doorProperty_39 : decode cX4_doorProperty 39 = .ok (.iload_n 1, 1) := by decide +kernel
theorem dX4_doorProperty_40 : decode cX4_doorProperty 40 = .ok (.invokevirtual 106, 3) := by decide +kernel
theorem dX4_doorProperty_43 : decode cX4_doorProperty 43 = .ok (.ireturn, 1) := by decide +kernel
theorem dX4_doorProperty_44 : decode cX4_doorProperty 44 = .ok (.aload_n 0, 1) := by decide +kernel
theorem dX4_doorProperty_45 : decode cX4_doorProperty 45 = .ok (.iload_n 1, 1) := by decide +kernel
theorem dX4_doorProperty_46 : decode cX4_doorProperty 46 = .ok (.invokevirtual 100, 3) := by decide +kernel
theorem dX4_doorProperty_49 : decode cX4_doorProperty 49 = .ok (.ireturn, 1) := by decide +kernel
theorem dX4_doorProperty_50 : decode cX4_doorProperty 50 = .ok (.aload_n 0, 1) := by decide +kernel
theorem dX4_doorProperty_51 : decode cX4_doorProperty 51 = .ok (.getfield 7, 3) := by decide +kernel
theorem dX4_doorProperty_54 : decode cX4_doorProperty 54 = .ok (.sipush 128, 3) := by decide +kernel
theorem dX4_doorProperty_57 : decode cX4_doorProperty 57 = .ok (.iload_n 1, 1) := by decide +kernel
theorem dX4_doorProperty_58 : decode cX4_doorProperty 58 = .ok (.iadd, 1) := by decide +kernel
theorem dX4_doorProperty_59 : decode cX4_doorProperty 59 = .ok (.iaload, 1) := by decide +kernel
theorem dX4_doorProperty_60 : decode cX4_doorProperty 60 = .ok (.ireturn, 1) := by decide +kernel
theorem dX4_doorProperty_61 : decode cX4_doorProperty 61 = .ok (.aload_n 0, 1) := by decide +kernel
theorem dX4_doorProperty_62 : decode cX4_doorProperty 62 = .ok (.getfield 7, 3) := by decide +kernel
theorem dX4_doorProperty_65 : decode cX4_doorProperty 65 = .ok (.sipush 132, 3) := by decide +kernel
theorem dX4_doorProperty_68 : decode cX4_doorProperty 68 = .ok (.iload_n 1, 1) := by decide +kernel
theorem dX4_doorProperty_69 : decode cX4_doorProperty 69 = .ok (.iadd, 1) := by decide +kernel
theorem dX4_doorProperty_70 : decode cX4_doorProperty 70 = .ok (.iaload, 1) := by decide +kernel
theorem dX4_doorProperty_71 : decode cX4_doorProperty 71 = .ok (.ireturn, 1) := by decide +kernel
theorem dX4_doorOf_0 : decode cX4_doorOf 0 = .ok (.aload_n 0, 1) := by decide +kernel
theorem dX4_doorOf_1 : decode cX4_doorOf 1 = .ok (.iconst 0, 1) := by decide +kernel
theorem dX4_doorOf_2 : decode cX4_doorOf 2 = .ok (.putfield 38, 3) := by decide +kernel
theorem dX4_doorOf_5 : decode cX4_doorOf 5 = .ok (.iload_n 1, 1) := by decide +kernel
theorem dX4_doorOf_6 : decode cX4_doorOf 6 = .ok (.invokestatic 46, 3) := by decide +kernel
theorem dX4_doorOf_9 : decode cX4_doorOf 9 = .ok (.ifCond .ne 9, 3) := by decide +kernel
theorem dX4_doorOf_12 : decode cX4_doorOf 12 = .ok (.aload_n 0, 1) := by decide +kernel
theorem dX4_doorOf_13 : decode cX4_doorOf 13 = .ok (.iconst 1, 1) := by decide +kernel
theorem dX4_doorOf_14 : decode cX4_doorOf 14 = .ok (.invokevirtual 134, 3) := by decide +kernel
theorem dX4_doorOf_17 : decode cX4_doorOf 17 = .ok (.ireturn, 1) := by decide +kernel
theorem dX4_doorOf_18 : decode cX4_doorOf 18 = .ok (.iload_n 2, 1) := by decide +kernel
theorem dX4_doorOf_19 : decode cX4_doorOf 19 = .ok (.iconst 0, 1) := by decide +kernel
theorem dX4_doorOf_20 : decode cX4_doorOf 20 = .ok (.iconst 4, 1) := by decide +kernel
theorem dX4_doorOf_21 : decode cX4_doorOf 21 = .ok (.invokestatic 42, 3) := by decide +kernel
theorem dX4_doorOf_24 : decode cX4_doorOf 24 = .ok (.ifCond .eq 12, 3) := by decide +kernel
theorem dX4_doorOf_27 : decode cX4_doorOf 27 = .ok (.aload_n 0, 1) := by decide +kernel
theorem dX4_doorOf_28 : decode cX4_doorOf 28 = .ok (.iload_n 1, 1) := by decide +kernel
theorem dX4_doorOf_29 : decode cX4_doorOf 29 = .ok (.iload_n 2, 1) := by decide +kernel
theorem dX4_doorOf_30 : decode cX4_doorOf 30 = .ok (.invokevirtual 220, 3) := by decide +kernel
theorem dX4_doorOf_33 : decode cX4_doorOf 33 = .ok (.goto 8, 3) := by decide +kernel
theorem dX4_doorOf_36 : decode cX4_doorOf 36 = .ok (.aload_n 0, 1) := by decide +kernel
theorem dX4_doorOf_37 : decode cX4_doorOf 37 = .ok (.iconst 2, 1) := by decide +kernel
theorem dX4_doorOf_38 : decode cX4_doorOf 38 = .ok (.invokevirtual 134, 3) := by decide +kernel
theorem dX4_doorOf_41 : decode cX4_doorOf 41 = .ok (.ireturn, 1) := by decide +kernel
theorem dX4_stolenInAll_0 : decode cX4_stolenInAll 0 = .ok (.iconst 0, 1) := by decide +kernel
theorem dX4_stolenInAll_1 : decode cX4_stolenInAll 1 = .ok (.istore_n 1, 1) := by decide +kernel
theorem dX4_stolenInAll_2 : decode cX4_stolenInAll 2 = .ok (.iconst 0, 1) := by decide +kernel
theorem dX4_stolenInAll_3 : decode cX4_stolenInAll 3 = .ok (.istore_n 2, 1) := by decide +kernel
theorem dX4_stolenInAll_4 : decode cX4_stolenInAll 4 = .ok (.iload_n 2, 1) := by decide +kernel
theorem dX4_stolenInAll_5 : decode cX4_stolenInAll 5 = .ok (.iconst 4, 1) := by decide +kernel
theorem dX4_stolenInAll_6 : decode cX4_stolenInAll 6 = .ok (.if_icmp .ge 22, 3) := by decide +kernel
theorem dX4_stolenInAll_9 : decode cX4_stolenInAll 9 = .ok (.iload_n 1, 1) := by decide +kernel
theorem dX4_stolenInAll_10 : decode cX4_stolenInAll 10 = .ok (.aload_n 0, 1) := by decide +kernel
theorem dX4_stolenInAll_11 : decode cX4_stolenInAll 11 = .ok (.getfield 7, 3) := by decide +kernel
theorem dX4_stolenInAll_14 : decode cX4_stolenInAll 14 = .ok (.sipush 132, 3) := by decide +kernel
theorem dX4_stolenInAll_17 : decode cX4_stolenInAll 17 = .ok (.iload_n 2, 1) := by decide +kernel
theorem dX4_stolenInAll_18 : decode cX4_stolenInAll 18 = .ok (.iadd, 1) := by decide +kernel
theorem dX4_stolenInAll_19 : decode cX4_stolenInAll 19 = .ok (.iaload, 1) := by decide +kernel
theorem dX4_stolenInAll_20 : decode cX4_stolenInAll 20 = .ok (.iadd, 1) := by decide +kernel
theorem dX4_stolenInAll_21 : decode cX4_stolenInAll 21 = .ok (.istore_n 1, 1) := by decide +kernel
theorem dX4_stolenInAll_22 : decode cX4_stolenInAll 22 = .ok (.iinc 2 1, 3) := by decide +kernel
theorem dX4_stolenInAll_25 : decode cX4_stolenInAll 25 = .ok (.goto (-21), 3) := by decide +kernel
theorem dX4_stolenInAll_28 : decode cX4_stolenInAll 28 = .ok (.iload_n 1, 1) := by decide +kernel
theorem dX4_stolenInAll_29 : decode cX4_stolenInAll 29 = .ok (.ireturn, 1) := by decide +kernel
theorem dX4_lentNow_0 : decode cX4_lentNow 0 = .ok (.iconst 0, 1) := by decide +kernel
theorem dX4_lentNow_1 : decode cX4_lentNow 1 = .ok (.istore_n 1, 1) := by decide +kernel
theorem dX4_lentNow_2 : decode cX4_lentNow 2 = .ok (.iconst 0, 1) := by decide +kernel
theorem dX4_lentNow_3 : decode cX4_lentNow 3 = .ok (.istore_n 2, 1) := by decide +kernel
theorem dX4_lentNow_4 : decode cX4_lentNow 4 = .ok (.iload_n 2, 1) := by decide +kernel
theorem dX4_lentNow_5 : decode cX4_lentNow 5 = .ok (.bipush 16, 2) := by decide +kernel
theorem dX4_lentNow_7 : decode cX4_lentNow 7 = .ok (.if_icmp .ge 29, 3) := by decide +kernel
theorem dX4_lentNow_10 : decode cX4_lentNow 10 = .ok (.iload_n 1, 1) := by decide +kernel
theorem dX4_lentNow_11 : decode cX4_lentNow 11 = .ok (.aload_n 0, 1) := by decide +kernel
theorem dX4_lentNow_12 : decode cX4_lentNow 12 = .ok (.getfield 7, 3) := by decide +kernel
theorem dX4_lentNow_15 : decode cX4_lentNow 15 = .ok (.bipush 112, 2) := by decide +kernel
theorem dX4_lentNow_17 : decode cX4_lentNow 17 = .ok (.iload_n 2, 1) := by decide +kernel
theorem dX4_lentNow_18 : decode cX4_lentNow 18 = .ok (.iadd, 1) := by decide +kernel
theorem dX4_lentNow_19 : decode cX4_lentNow 19 = .ok (.iaload, 1) := by decide +kernel
theorem dX4_lentNow_20 : decode cX4_lentNow 20 = .ok (.ifCond .le 7, 3) := by decide +kernel
theorem dX4_lentNow_23 : decode cX4_lentNow 23 = .ok (.iconst 1, 1) := by decide +kernel
theorem dX4_lentNow_24 : decode cX4_lentNow 24 = .ok (.goto 4, 3) := by decide +kernel
theorem dX4_lentNow_27 : decode cX4_lentNow 27 = .ok (.iconst 0, 1) := by decide +kernel
theorem dX4_lentNow_28 : decode cX4_lentNow 28 = .ok (.iadd, 1) := by decide +kernel
theorem dX4_lentNow_29 : decode cX4_lentNow 29 = .ok (.istore_n 1, 1) := by decide +kernel
theorem dX4_lentNow_30 : decode cX4_lentNow 30 = .ok (.iinc 2 1, 3) := by decide +kernel
theorem dX4_lentNow_33 : decode cX4_lentNow 33 = .ok (.goto (-29), 3) := by decide +kernel
theorem dX4_lentNow_36 : decode cX4_lentNow 36 = .ok (.iload_n 1, 1) := by decide +kernel
theorem dX4_lentNow_37 : decode cX4_lentNow 37 = .ok (.ireturn, 1) := by decide +kernel
theorem dX4_allWorth_0 : decode cX4_allWorth 0 = .ok (.iconst 0, 1) := by decide +kernel
theorem dX4_allWorth_1 : decode cX4_allWorth 1 = .ok (.istore_n 1, 1) := by decide +kernel
theorem dX4_allWorth_2 : decode cX4_allWorth 2 = .ok (.iconst 0, 1) := by decide +kernel
theorem dX4_allWorth_3 : decode cX4_allWorth 3 = .ok (.istore_n 2, 1) := by decide +kernel
theorem dX4_allWorth_4 : decode cX4_allWorth 4 = .ok (.iload_n 2, 1) := by decide +kernel
theorem dX4_allWorth_5 : decode cX4_allWorth 5 = .ok (.iconst 4, 1) := by decide +kernel
theorem dX4_allWorth_6 : decode cX4_allWorth 6 = .ok (.if_icmp .ge 17, 3) := by decide +kernel
theorem dX4_allWorth_9 : decode cX4_allWorth 9 = .ok (.iload_n 1, 1) := by decide +kernel
theorem dX4_allWorth_10 : decode cX4_allWorth 10 = .ok (.aload_n 0, 1) := by decide +kernel
theorem dX4_allWorth_11 : decode cX4_allWorth 11 = .ok (.iload_n 2, 1) := by decide +kernel
theorem dX4_allWorth_12 : decode cX4_allWorth 12 = .ok (.invokevirtual 109, 3) := by decide +kernel
theorem dX4_allWorth_15 : decode cX4_allWorth 15 = .ok (.iadd, 1) := by decide +kernel
theorem dX4_allWorth_16 : decode cX4_allWorth 16 = .ok (.istore_n 1, 1) := by decide +kernel
theorem dX4_allWorth_17 : decode cX4_allWorth 17 = .ok (.iinc 2 1, 3) := by decide +kernel
theorem dX4_allWorth_20 : decode cX4_allWorth 20 = .ok (.goto (-16), 3) := by decide +kernel
theorem dX4_allWorth_23 : decode cX4_allWorth 23 = .ok (.iload_n 1, 1) := by decide +kernel
theorem dX4_allWorth_24 : decode cX4_allWorth 24 = .ok (.ireturn, 1) := by decide +kernel
theorem dX4_number_0 : decode cX4_number 0 = .ok (.iload_n 1, 1) := by decide +kernel
theorem dX4_number_1 : decode cX4_number 1 = .ok (.tableswitch 94 0 7 #[47, 47, 52, 61, 66, 75, 84, 89], 47) := by decide +kernel
theorem dX4_number_48 : decode cX4_number 48 = .ok (.aload_n 0, 1) := by decide +kernel
theorem dX4_number_49 : decode cX4_number 49 = .ok (.invokevirtual 202, 3) := by decide +kernel
theorem dX4_number_52 : decode cX4_number 52 = .ok (.ireturn, 1) := by decide +kernel
theorem dX4_number_53 : decode cX4_number 53 = .ok (.aload_n 0, 1) := by decide +kernel
theorem dX4_number_54 : decode cX4_number 54 = .ok (.getfield 7, 3) := by decide +kernel
theorem dX4_number_57 : decode cX4_number 57 = .ok (.sipush 179, 3) := by decide +kernel
theorem dX4_number_60 : decode cX4_number 60 = .ok (.iaload, 1) := by decide +kernel
theorem dX4_number_61 : decode cX4_number 61 = .ok (.ireturn, 1) := by decide +kernel
theorem dX4_number_62 : decode cX4_number 62 = .ok (.aload_n 0, 1) := by decide +kernel
theorem dX4_number_63 : decode cX4_number 63 = .ok (.invokevirtual 223, 3) := by decide +kernel
theorem dX4_number_66 : decode cX4_number 66 = .ok (.ireturn, 1) := by decide +kernel
theorem dX4_number_67 : decode cX4_number 67 = .ok (.aload_n 0, 1) := by decide +kernel
theorem dX4_number_68 : decode cX4_number 68 = .ok (.getfield 7, 3) := by decide +kernel
theorem dX4_number_71 : decode cX4_number 71 = .ok (.sipush 180, 3) := by decide +kernel
theorem dX4_number_74 : decode cX4_number 74 = .ok (.iaload, 1) := by decide +kernel
theorem dX4_number_75 : decode cX4_number 75 = .ok (.ireturn, 1) := by decide +kernel
theorem dX4_number_76 : decode cX4_number 76 = .ok (.aload_n 0, 1) := by decide +kernel
theorem dX4_number_77 : decode cX4_number 77 = .ok (.getfield 7, 3) := by decide +kernel
theorem dX4_number_80 : decode cX4_number 80 = .ok (.sipush 181, 3) := by decide +kernel
theorem dX4_number_83 : decode cX4_number 83 = .ok (.iaload, 1) := by decide +kernel
theorem dX4_number_84 : decode cX4_number 84 = .ok (.ireturn, 1) := by decide +kernel
theorem dX4_number_85 : decode cX4_number 85 = .ok (.aload_n 0, 1) := by decide +kernel
theorem dX4_number_86 : decode cX4_number 86 = .ok (.invokevirtual 226, 3) := by decide +kernel
theorem dX4_number_89 : decode cX4_number 89 = .ok (.ireturn, 1) := by decide +kernel
theorem dX4_number_90 : decode cX4_number 90 = .ok (.aload_n 0, 1) := by decide +kernel
theorem dX4_number_91 : decode cX4_number 91 = .ok (.invokevirtual 229, 3) := by decide +kernel
theorem dX4_number_94 : decode cX4_number 94 = .ok (.ireturn, 1) := by decide +kernel
theorem dX4_number_95 : decode cX4_number 95 = .ok (.aload_n 0, 1) := by decide +kernel
theorem dX4_number_96 : decode cX4_number 96 = .ok (.getfield 50, 3) := by decide +kernel
theorem dX4_number_99 : decode cX4_number 99 = .ok (.ireturn, 1) := by decide +kernel
theorem dX4_count_0 : decode cX4_count 0 = .ok (.aload_n 0, 1) := by decide +kernel
theorem dX4_count_1 : decode cX4_count 1 = .ok (.iconst 0, 1) := by decide +kernel
theorem dX4_count_2 : decode cX4_count 2 = .ok (.putfield 38, 3) := by decide +kernel
theorem dX4_count_5 : decode cX4_count 5 = .ok (.iload_n 1, 1) := by decide +kernel
theorem dX4_count_6 : decode cX4_count 6 = .ok (.iconst 0, 1) := by decide +kernel
theorem dX4_count_7 : decode cX4_count 7 = .ok (.bipush 8, 2) := by decide +kernel
theorem dX4_count_9 : decode cX4_count 9 = .ok (.invokestatic 42, 3) := by decide +kernel
theorem dX4_count_12 : decode cX4_count 12 = .ok (.ifCond .eq 11, 3) := by decide +kernel
theorem dX4_count_15 : decode cX4_count 15 = .ok (.aload_n 0, 1) := by decide +kernel
theorem dX4_count_16 : decode cX4_count 16 = .ok (.iload_n 1, 1) := by decide +kernel
theorem dX4_count_17 : decode cX4_count 17 = .ok (.invokevirtual 232, 3) := by decide +kernel
theorem dX4_count_20 : decode cX4_count 20 = .ok (.goto 8, 3) := by decide +kernel
theorem dX4_count_23 : decode cX4_count 23 = .ok (.aload_n 0, 1) := by decide +kernel
theorem dX4_count_24 : decode cX4_count 24 = .ok (.iconst 1, 1) := by decide +kernel
theorem dX4_count_25 : decode cX4_count 25 = .ok (.invokevirtual 134, 3) := by decide +kernel

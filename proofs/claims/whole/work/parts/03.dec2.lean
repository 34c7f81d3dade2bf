theorem dX3_borrow_96 : decode cX3_borrow 96 = .ok (.getfield 10, 3) := by decide +kernel
theorem dX3_borrow_99 : decode cX3_borrow 99 = .ok (.invokevirtual 68, 3) := by decide +kernel
theorem dX3_borrow_102 : decode cX3_borrow 102 = .ok (.aload_n 0, 1) := by decide +kernel
theorem dX3_borrow_103 : decode cX3_borrow 103 = .ok (.getfield 10, 3) := by decide +kernel
theorem dX3_borrow_106 : decode cX3_borrow 106 = .ok (.iload 5, 2) := by decide +kernel
theorem dX3_borrow_108 : decode cX3_borrow 108 = .ok (.iload 6, 2) := by decide +kernel
theorem dX3_borrow_110 : decode cX3_borrow 110 = .ok (.invokevirtual 137, 3) := by decide +kernel
theorem dX3_borrow_113 : decode cX3_borrow 113 = .ok (.aload_n 0, 1) := by decide +kernel
theorem dX3_borrow_114 : decode cX3_borrow 114 = .ok (.getfield 10, 3) := by decide +kernel
theorem dX3_borrow_117 : decode cX3_borrow 117 = .ok (.iload 5, 2) := by decide +kernel
theorem dX3_borrow_119 : decode cX3_borrow 119 = .ok (.invokevirtual 141, 3) := by decide +kernel
theorem dX3_borrow_122 : decode cX3_borrow 122 = .ok (.ireturn, 1) := by decide +kernel
theorem dX3_bringBack_0 : decode cX3_bringBack 0 = .ok (.iload_n 1, 1) := by decide +kernel
theorem dX3_bringBack_1 : decode cX3_bringBack 1 = .ok (.iload_n 2, 1) := by decide +kernel
theorem dX3_bringBack_2 : decode cX3_bringBack 2 = .ok (.invokestatic 106, 3) := by decide +kernel
theorem dX3_bringBack_5 : decode cX3_bringBack 5 = .ok (.ifCond .ne 13, 3) := by decide +kernel
theorem dX3_bringBack_8 : decode cX3_bringBack 8 = .ok (.new 53, 3) := by decide +kernel
theorem dX3_bringBack_11 : decode cX3_bringBack 11 = .ok (.dup, 1) := by decide +kernel
theorem dX3_bringBack_12 : decode cX3_bringBack 12 = .ok (.ldc 125, 2) := by decide +kernel
theorem dX3_bringBack_14 : decode cX3_bringBack 14 = .ok (.invokespecial 57, 3) := by decide +kernel
theorem dX3_bringBack_17 : decode cX3_bringBack 17 = .ok (.athrow, 1) := by decide +kernel
theorem dX3_bringBack_18 : decode cX3_bringBack 18 = .ok (.iload_n 1, 1) := by decide +kernel
theorem dX3_bringBack_19 : decode cX3_bringBack 19 = .ok (.iload_n 2, 1) := by decide +kernel
theorem dX3_bringBack_20 : decode cX3_bringBack 20 = .ok (.invokestatic 72, 3) := by decide +kernel
theorem dX3_bringBack_23 : decode cX3_bringBack 23 = .ok (.istore_n 3, 1) := by decide +kernel
theorem dX3_bringBack_24 : decode cX3_bringBack 24 = .ok (.aload_n 0, 1) := by decide +kernel
theorem dX3_bringBack_25 : decode cX3_bringBack 25 = .ok (.getfield 10, 3) := by decide +kernel
theorem dX3_bringBack_28 : decode cX3_bringBack 28 = .ok (.iload_n 3, 1) := by decide +kernel
theorem dX3_bringBack_29 : decode cX3_bringBack 29 = .ok (.invokevirtual 144, 3) := by decide +kernel
theorem dX3_bringBack_32 : decode cX3_bringBack 32 = .ok (.ifCond .ne 13, 3) := by decide +kernel
theorem dX3_bringBack_35 : decode cX3_bringBack 35 = .ok (.new 63, 3) := by decide +kernel
theorem dX3_bringBack_38 : decode cX3_bringBack 38 = .ok (.dup, 1) := by decide +kernel
theorem dX3_bringBack_39 : decode cX3_bringBack 39 = .ok (.ldc 147, 2) := by decide +kernel
theorem dX3_bringBack_41 : decode cX3_bringBack 41 = .ok (.invokespecial 67, 3) := by decide +kernel
theorem dX3_bringBack_44 : decode cX3_bringBack 44 = .ok (.athrow, 1) := by decide +kernel
theorem dX3_bringBack_45 : decode cX3_bringBack 45 = .ok (.aload_n 0, 1) := by decide +kernel
theorem dX3_bringBack_46 : decode cX3_bringBack 46 = .ok (.getfield 22, 3) := by decide +kernel
theorem dX3_bringBack_49 : decode cX3_bringBack 49 = .ok (.aload_n 0, 1) := by decide +kernel
theorem dX3_bringBack_50 : decode cX3_bringBack 50 = .ok (.getfield 10, 3) := by decide +kernel
theorem dX3_bringBack_53 : decode cX3_bringBack 53 = .ok (.invokevirtual 68, 3) := by decide +kernel
theorem dX3_bringBack_56 : decode cX3_bringBack 56 = .ok (.aload_n 0, 1) := by decide +kernel
theorem dX3_bringBack_57 : decode cX3_bringBack 57 = .ok (.getfield 10, 3) := by decide +kernel
theorem dX3_bringBack_60 : decode cX3_bringBack 60 = .ok (.iload_n 3, 1) := by decide +kernel
theorem dX3_bringBack_61 : decode cX3_bringBack 61 = .ok (.invokevirtual 149, 3) := by decide +kernel
theorem dX3_bringBack_64 : decode cX3_bringBack 64 = .ok (.aload_n 0, 1) := by decide +kernel
theorem dX3_bringBack_65 : decode cX3_bringBack 65 = .ok (.getfield 10, 3) := by decide +kernel
theorem dX3_bringBack_68 : decode cX3_bringBack 68 = .ok (.iload_n 3, 1) := by decide +kernel
theorem dX3_bringBack_69 : decode cX3_bringBack 69 = .ok (.invokevirtual 141, 3) := by decide +kernel
theorem dX3_bringBack_72 : decode cX3_bringBack 72 = .ok (.ireturn, 1) := by decide +kernel
theorem dX3_sleep_0 : decode cX3_sleep 0 = .ok (.iload_n 1, 1) := by decide +kernel
theorem dX3_sleep_1 : decode cX3_sleep 1 = .ok (.invokestatic 152, 3) := by decide +kernel
theorem dX3_sleep_4 : decode cX3_sleep 4 = .ok (.ifCond .ne 13, 3) := by decide +kernel
theorem dX3_sleep_7 : decode cX3_sleep 7 = .ok (.new 127, 3) := by decide +kernel
theorem dX3_sleep_10 : decode cX3_sleep 10 = .ok (.dup, 1) := by decide +kernel
theorem dX3_sleep_11 : decode cX3_sleep 11 = .ok (.ldc 155, 2) := by decide +kernel
theorem dX3_sleep_13 : decode cX3_sleep 13 = .ok (.invokespecial 131, 3) := by decide +kernel
theorem dX3_sleep_16 : decode cX3_sleep 16 = .ok (.athrow, 1) := by decide +kernel
theorem dX3_sleep_17 : decode cX3_sleep 17 = .ok (.aload_n 0, 1) := by decide +kernel
theorem dX3_sleep_18 : decode cX3_sleep 18 = .ok (.getfield 10, 3) := by decide +kernel
theorem dX3_sleep_21 : decode cX3_sleep 21 = .ok (.getfield 157, 3) := by decide +kernel
theorem dX3_sleep_24 : decode cX3_sleep 24 = .ok (.iload_n 1, 1) := by decide +kernel
theorem dX3_sleep_25 : decode cX3_sleep 25 = .ok (.iadd, 1) := by decide +kernel
theorem dX3_sleep_26 : decode cX3_sleep 26 = .ok (.sipush 9999, 3) := by decide +kernel
theorem dX3_sleep_29 : decode cX3_sleep 29 = .ok (.if_icmp .le 13, 3) := by decide +kernel
theorem dX3_sleep_32 : decode cX3_sleep 32 = .ok (.new 63, 3) := by decide +kernel
theorem dX3_sleep_35 : decode cX3_sleep 35 = .ok (.dup, 1) := by decide +kernel
theorem dX3_sleep_36 : decode cX3_sleep 36 = .ok (.ldc 160, 2) := by decide +kernel
theorem dX3_sleep_38 : decode cX3_sleep 38 = .ok (.invokespecial 67, 3) := by decide +kernel
theorem dX3_sleep_41 : decode cX3_sleep 41 = .ok (.athrow, 1) := by decide +kernel
theorem dX3_sleep_42 : decode cX3_sleep 42 = .ok (.aload_n 0, 1) := by decide +kernel
theorem dX3_sleep_43 : decode cX3_sleep 43 = .ok (.getfield 22, 3) := by decide +kernel
theorem dX3_sleep_46 : decode cX3_sleep 46 = .ok (.aload_n 0, 1) := by decide +kernel
theorem dX3_sleep_47 : decode cX3_sleep 47 = .ok (.getfield 10, 3) := by decide +kernel
theorem dX3_sleep_50 : decode cX3_sleep 50 = .ok (.invokevirtual 68, 3) := by decide +kernel
theorem dX3_sleep_53 : decode cX3_sleep 53 = .ok (.aload_n 0, 1) := by decide +kernel
theorem dX3_sleep_54 : decode cX3_sleep 54 = .ok (.getfield 10, 3) := by decide +kernel
theorem dX3_sleep_57 : decode cX3_sleep 57 = .ok (.iload_n 1, 1) := by decide +kernel
theorem dX3_sleep_58 : decode cX3_sleep 58 = .ok (.invokevirtual 162, 3) := by decide +kernel
theorem dX3_sleep_61 : decode cX3_sleep 61 = .ok (.ireturn, 1) := by decide +kernel
theorem dX3_set_0 : decode cX3_set 0 = .ok (.iload_n 1, 1) := by decide +kernel
theorem dX3_set_1 : decode cX3_set 1 = .ok (.invokestatic 165, 3) := by decide +kernel
theorem dX3_set_4 : decode cX3_set 4 = .ok (.ifCond .ne 13, 3) := by decide +kernel
theorem dX3_set_7 : decode cX3_set 7 = .ok (.new 53, 3) := by decide +kernel
theorem dX3_set_10 : decode cX3_set 10 = .ok (.dup, 1) := by decide +kernel
theorem dX3_set_11 : decode cX3_set 11 = .ok (.ldc 168, 2) := by decide +kernel
theorem dX3_set_13 : decode cX3_set 13 = .ok (.invokespecial 57, 3) := by decide +kernel
theorem dX3_set_16 : decode cX3_set 16 = .ok (.athrow, 1) := by decide +kernel
theorem dX3_set_17 : decode cX3_set 17 = .ok (.iload_n 2, 1) := by decide +kernel
theorem dX3_set_18 : decode cX3_set 18 = .ok (.ifCond .lt 11, 3) := by decide +kernel
theorem dX3_set_21 : decode cX3_set 21 = .ok (.iload_n 2, 1) := by decide +kernel
theorem dX3_set_22 : decode cX3_set 22 = .ok (.iload_n 1, 1) := by decide +kernel
theorem dX3_set_23 : decode cX3_set 23 = .ok (.invokestatic 170, 3) := by decide +kernel
theorem dX3_set_26 : decode cX3_set 26 = .ok (.if_icmp .le 13, 3) := by decide +kernel
theorem dX3_set_29 : decode cX3_set 29 = .ok (.new 127, 3) := by decide +kernel
theorem dX3_set_32 : decode cX3_set 32 = .ok (.dup, 1) := by decide +kernel
theorem dX3_set_33 : decode cX3_set 33 = .ok (.ldc 173, 2) := by decide +kernel
theorem dX3_set_35 : decode cX3_set 35 = .ok (.invokespecial 131, 3) := by decide +kernel
theorem dX3_set_38 : decode cX3_set 38 = .ok (.athrow, 1) := by decide +kernel
theorem dX3_set_39 : decode cX3_set 39 = .ok (.aload_n 0, 1) := by decide +kernel
theorem dX3_set_40 : decode cX3_set 40 = .ok (.getfield 22, 3) := by decide +kernel
theorem dX3_set_43 : decode cX3_set 43 = .ok (.aload_n 0, 1) := by decide +kernel
theorem dX3_set_44 : decode cX3_set 44 = .ok (.getfield 10, 3) := by decide +kernel
theorem dX3_set_47 : decode cX3_set 47 = .ok (.invokevirtual 68, 3) := by decide +kernel
theorem dX3_set_50 : decode cX3_set 50 = .ok (.aload_n 0, 1) := by decide +kernel
theorem dX3_set_51 : decode cX3_set 51 = .ok (.getfield 10, 3) := by decide +kernel
theorem dX3_set_54 : decode cX3_set 54 = .ok (.iload_n 1, 1) := by decide +kernel
theorem dX3_set_55 : decode cX3_set 55 = .ok (.invokevirtual 175, 3) := by decide +kernel
theorem dX3_set_58 : decode cX3_set 58 = .ok (.istore_n 3, 1) := by decide +kernel
theorem dX3_set_59 : decode cX3_set 59 = .ok (.aload_n 0, 1) := by decide +kernel
theorem dX3_set_60 : decode cX3_set 60 = .ok (.getfield 10, 3) := by decide +kernel
theorem dX3_set_63 : decode cX3_set 63 = .ok (.iload_n 1, 1) := by decide +kernel
theorem dX3_set_64 : decode cX3_set 64 = .ok (.iload_n 2, 1) := by decide +kernel
theorem dX3_set_65 : decode cX3_set 65 = .ok (.invokevirtual 178, 3) := by decide +kernel
theorem dX3_set_68 : decode cX3_set 68 = .ok (.iload_n 3, 1) := by decide +kernel
theorem dX3_set_69 : decode cX3_set 69 = .ok (.ireturn, 1) := by decide +kernel
theorem dX3_append_0 : decode cX3_append 0 = .ok (.iload_n 1, 1) := by decide +kernel
theorem dX3_append_1 : decode cX3_append 1 = .ok (.bipush 33, 2) := by decide +kernel
theorem dX3_append_3 : decode cX3_append 3 = .ok (.if_icmp .lt 9, 3) := by decide +kernel
theorem dX3_append_6 : decode cX3_append 6 = .ok (.iload_n 1, 1) := by decide +kernel
theorem dX3_append_7 : decode cX3_append 7 = .ok (.bipush 126, 2) := by decide +kernel
theorem dX3_append_9 : decode cX3_append 9 = .ok (.if_icmp .le 13, 3) := by decide +kernel
theorem dX3_append_12 : decode cX3_append 12 = .ok (.new 127, 3) := by decide +kernel
theorem dX3_append_15 : decode cX3_append 15 = .ok (.dup, 1) := by decide +kernel
theorem dX3_append_16 : decode cX3_append 16 = .ok (.ldc 181, 2) := by decide +kernel
theorem dX3_append_18 : decode cX3_append 18 = .ok (.invokespecial 131, 3) := by decide +kernel
theorem dX3_append_21 : decode cX3_append 21 = .ok (.athrow, 1) := by decide +kernel
theorem dX3_append_22 : decode cX3_append 22 = .ok (.aload_n 0, 1) := by decide +kernel
theorem dX3_append_23 : decode cX3_append 23 = .ok (.getfield 183, 3) := by decide +kernel
theorem dX3_append_26 : decode cX3_append 26 = .ok (.bipush 60, 2) := by decide +kernel
theorem dX3_append_28 : decode cX3_append 28 = .ok (.if_icmp .lt 13, 3) := by decide +kernel
theorem dX3_append_31 : decode cX3_append 31 = .ok (.new 63, 3) := by decide +kernel
theorem dX3_append_34 : decode cX3_append 34 = .ok (.dup, 1) := by decide +kernel
theorem dX3_append_35 : decode cX3_append 35 = .ok (.ldc 186, 2) := by decide +kernel
theorem dX3_append_37 : decode cX3_append 37 = .ok (.invokespecial 67, 3) := by decide +kernel
theorem dX3_append_40 : decode cX3_append 40 = .ok (.athrow, 1) := by decide +kernel
theorem dX3_append_41 : decode cX3_append 41 = .ok (.aload_n 0, 1) := by decide +kernel
theorem dX3_append_42 : decode cX3_append 42 = .ok (.iload_n 1, 1) := by decide +kernel
theorem dX3_append_43 : decode cX3_append 43 = .ok (.invokevirtual 188, 3) := by decide +kernel
theorem dX3_append_46 : decode cX3_append 46 = .ok (.aload_n 0, 1) := by decide +kernel
theorem dX3_append_47 : decode cX3_append 47 = .ok (.getfield 183, 3) := by decide +kernel
theorem dX3_append_50 : decode cX3_append 50 = .ok (.ireturn, 1) := by decide +kernel
theorem dX3_clearBuffer_0 : decode cX3_clearBuffer 0 = .ok (.aload_n 0, 1) := by decide +kernel
theorem dX3_clearBuffer_1 : decode cX3_clearBuffer 1 = .ok (.getfield 183, 3) := by decide +kernel
theorem dX3_clearBuffer_4 : decode cX3_clearBuffer 4 = .ok (.istore_n 1, 1) := by decide +kernel
theorem dX3_clearBuffer_5 : decode cX3_clearBuffer 5 = .ok (.aload_n 0, 1) := by decide +kernel
theorem dX3_clearBuffer_6 : decode cX3_clearBuffer 6 = .ok (.iconst 0, 1) := by decide +kernel
theorem dX3_clearBuffer_7 : decode cX3_clearBuffer 7 = .ok (.putfield 183, 3) := by decide +kernel
theorem dX3_clearBuffer_10 : decode cX3_clearBuffer 10 = .ok (.iload_n 1, 1) := by decide +kernel
theorem dX3_clearBuffer_11 : decode cX3_clearBuffer 11 = .ok (.ireturn, 1) := by decide +kernel
theorem dX3_firstError_0 : decode cX3_firstError 0 = .ok (.aload_n 0, 1) := by decide +kernel
theorem dX3_firstError_1 : decode cX3_firstError 1 = .ok (.invokevirtual 191, 3) := by decide +kernel
theorem dX3_firstError_4 : decode cX3_firstError 4 = .ok (.ireturn, 1) := by decide +kernel
theorem dX3_load_0 : decode cX3_load 0 = .ok (.iload_n 1, 1) := by decide +kernel
theorem dX3_load_1 : decode cX3_load 1 = .ok (.invokestatic 117, 3) := by decide +kernel
theorem dX3_load_4 : decode cX3_load 4 = .ok (.ifCond .ne 13, 3) := by decide +kernel
theorem dX3_load_7 : decode cX3_load 7 = .ok (.new 53, 3) := by decide +kernel
theorem dX3_load_10 : decode cX3_load 10 = .ok (.dup, 1) := by decide +kernel
theorem dX3_load_11 : decode cX3_load 11 = .ok (.ldc 120, 2) := by decide +kernel
theorem dX3_load_13 : decode cX3_load 13 = .ok (.invokespecial 57, 3) := by decide +kernel
theorem dX3_load_16 : decode cX3_load 16 = .ok (.athrow, 1) := by decide +kernel
theorem dX3_load_17 : decode cX3_load 17 = .ok (.aload_n 0, 1) := by decide +kernel
theorem dX3_load_18 : decode cX3_load 18 = .ok (.invokevirtual 191, 3) := by decide +kernel
theorem dX3_load_21 : decode cX3_load 21 = .ok (.aload_n 0, 1) := by decide +kernel
theorem dX3_load_22 : decode cX3_load 22 = .ok (.getfield 183, 3) := by decide +kernel
theorem dX3_load_25 : decode cX3_load 25 = .ok (.if_icmp .lt 13, 3) := by decide +kernel
theorem dX3_load_28 : decode cX3_load 28 = .ok (.aload_n 0, 1) := by decide +kernel
theorem dX3_load_29 : decode cX3_load 29 = .ok (.getfield 41, 3) := by decide +kernel
theorem dX3_load_32 : decode cX3_load 32 = .ok (.invokevirtual 195, 3) := by decide +kernel
theorem dX3_load_35 : decode cX3_load 35 = .ok (.ifCond .ne 13, 3) := by decide +kernel
theorem dX3_load_38 : decode cX3_load 38 = .ok (.new 127, 3) := by decide +kernel
theorem dX3_load_41 : decode cX3_load 41 = .ok (.dup, 1) := by decide +kernel
theorem dX3_load_42 : decode cX3_load 42 = .ok (.ldc 199, 2) := by decide +kernel
theorem dX3_load_44 : decode cX3_load 44 = .ok (.invokespecial 131, 3) := by decide +kernel
theorem dX3_load_47 : decode cX3_load 47 = .ok (.athrow, 1) := by decide +kernel
theorem dX3_load_48 : decode cX3_load 48 = .ok (.aload_n 0, 1) := by decide +kernel
theorem dX3_load_49 : decode cX3_load 49 = .ok (.getfield 22, 3) := by decide +kernel
theorem dX3_load_52 : decode cX3_load 52 = .ok (.aload_n 0, 1) := by decide +kernel
theorem dX3_load_53 : decode cX3_load 53 = .ok (.getfield 10, 3) := by decide +kernel
theorem dX3_load_56 : decode cX3_load 56 = .ok (.invokevirtual 68, 3) := by decide +kernel
theorem dX3_load_59 : decode cX3_load 59 = .ok (.aload_n 0, 1) := by decide +kernel
theorem dX3_load_60 : decode cX3_load 60 = .ok (.iconst 0, 1) := by decide +kernel
theorem dX3_load_61 : decode cX3_load 61 = .ok (.putfield 183, 3) := by decide +kernel
theorem dX3_load_64 : decode cX3_load 64 = .ok (.aload_n 0, 1) := by decide +kernel
theorem dX3_load_65 : decode cX3_load 65 = .ok (.getfield 10, 3) := by decide +kernel
theorem dX3_load_68 : decode cX3_load 68 = .ok (.iload_n 1, 1) := by decide +kernel
theorem dX3_load_69 : decode cX3_load 69 = .ok (.invokevirtual 122, 3) := by decide +kernel
theorem dX3_load_72 : decode cX3_load 72 = .ok (.pop, 1) := by decide +kernel
theorem dX3_load_73 : decode cX3_load 73 = .ok (.aload_n 0, 1) := by decide +kernel
theorem dX3_load_74 : decode cX3_load 74 = .ok (.iload_n 1, 1) := by decide +kernel
theorem dX3_load_75 : decode cX3_load 75 = .ok (.invokevirtual 201, 3) := by decide +kernel
theorem dX3_load_78 : decode cX3_load 78 = .ok (.ireturn, 1) := by decide +kernel
theorem dX3_write_0 : decode cX3_write 0 = .ok (.iload_n 1, 1) := by decide +kernel
theorem dX3_write_1 : decode cX3_write 1 = .ok (.invokestatic 117, 3) := by decide +kernel
theorem dX3_write_4 : decode cX3_write 4 = .ok (.ifCond .ne 13, 3) := by decide +kernel
theorem dX3_write_7 : decode cX3_write 7 = .ok (.new 53, 3) := by decide +kernel
theorem dX3_write_10 : decode cX3_write 10 = .ok (.dup, 1) := by decide +kernel
theorem dX3_write_11 : decode cX3_write 11 = .ok (.ldc 120, 2) := by decide +kernel
theorem dX3_write_13 : decode cX3_write 13 = .ok (.invokespecial 57, 3) := by decide +kernel
theorem dX3_write_16 : decode cX3_write 16 = .ok (.athrow, 1) := by decide +kernel
theorem dX3_write_17 : decode cX3_write 17 = .ok (.aload_n 0, 1) := by decide +kernel
theorem dX3_write_18 : decode cX3_write 18 = .ok (.iload_n 1, 1) := by decide +kernel
theorem dX3_write_19 : decode cX3_write 19 = .ok (.invokevirtual 204, 3) := by decide +kernel
theorem dX3_write_22 : decode cX3_write 22 = .ok (.bipush 60, 2) := by decide +kernel
theorem dX3_write_24 : decode cX3_write 24 = .ok (.if_icmp .le 5, 3) := by decide +kernel
theorem dX3_write_27 : decode cX3_write 27 = .ok (.iconst (-1), 1) := by decide +kernel
theorem dX3_write_28 : decode cX3_write 28 = .ok (.ireturn, 1) := by decide +kernel
theorem dX3_write_29 : decode cX3_write 29 = .ok (.aload_n 0, 1) := by decide +kernel
theorem dX3_write_30 : decode cX3_write 30 = .ok (.iconst 0, 1) := by decide +kernel
theorem dX3_write_31 : decode cX3_write 31 = .ok (.putfield 183, 3) := by decide +kernel
theorem dX3_write_34 : decode cX3_write 34 = .ok (.iconst 0, 1) := by decide +kernel
theorem dX3_write_35 : decode cX3_write 35 = .ok (.istore_n 2, 1) := by decide +kernel
theorem dX3_write_36 : decode cX3_write 36 = .ok (.iload_n 2, 1) := by decide +kernel
theorem dX3_write_37 : decode cX3_write 37 = .ok (.iconst 4, 1) := by decide +kernel
theorem dX3_write_38 : decode cX3_write 38 = .ok (.if_icmp .ge 18, 3) := by decide +kernel
theorem dX3_write_41 : decode cX3_write 41 = .ok (.aload_n 0, 1) := by decide +kernel
theorem dX3_write_42 : decode cX3_write 42 = .ok (.iload_n 1, 1) := by decide +kernel
theorem dX3_write_43 : decode cX3_write 43 = .ok (.iload_n 2, 1) := by decide +kernel
theorem dX3_write_44 : decode cX3_write 44 = .ok (.invokestatic 72, 3) := by decide +kernel
theorem dX3_write_47 : decode cX3_write 47 = .ok (.invokevirtual 207, 3) := by decide +kernel
theorem dX3_write_50 : decode cX3_write 50 = .ok (.iinc 2 1, 3) := by decide +kernel
theorem dX3_write_53 : decode cX3_write 53 = .ok (.goto (-17), 3) := by decide +kernel
theorem dX3_write_56 : decode cX3_write 56 = .ok (.aload_n 0, 1) := by decide +kernel
theorem dX3_write_57 : decode cX3_write 57 = .ok (.getfield 183, 3) := by decide +kernel
theorem dX3_write_60 : decode cX3_write 60 = .ok (.ireturn, 1) := by decide +kernel
theorem dX3_keep_0 : decode cX3_keep 0 = .ok (.iload_n 1, 1) := by decide +kernel
theorem dX3_keep_1 : decode cX3_keep 1 = .ok (.invokestatic 210, 3) := by decide +kernel
theorem dX3_keep_4 : decode cX3_keep 4 = .ok (.ifCond .ne 13, 3) := by decide +kernel
theorem dX3_keep_7 : decode cX3_keep 7 = .ok (.new 127, 3) := by decide +kernel
theorem dX3_keep_10 : decode cX3_keep 10 = .ok (.dup, 1) := by decide +kernel
theorem dX3_keep_11 : decode cX3_keep 11 = .ok (.ldc 213, 2) := by decide +kernel
theorem dX3_keep_13 : decode cX3_keep 13 = .ok (.invokespecial 131, 3) := by decide +kernel
theorem dX3_keep_16 : decode cX3_keep 16 = .ok (.athrow, 1) := by decide +kernel
theorem dX3_keep_17 : decode cX3_keep 17 = .ok (.aload_n 0, 1) := by decide +kernel
theorem dX3_keep_18 : decode cX3_keep 18 = .ok (.getfield 26, 3) := by decide +kernel
theorem dX3_keep_21 : decode cX3_keep 21 = .ok (.iload_n 1, 1) := by decide +kernel
theorem dX3_keep_22 : decode cX3_keep 22 = .ok (.aaload, 1) := by decide +kernel
theorem dX3_keep_23 : decode cX3_keep 23 = .ok (.astore_n 2, 1) := by decide +kernel
theorem dX3_keep_24 : decode cX3_keep 24 = .ok (.aload_n 2, 1) := by decide +kernel
theorem dX3_keep_25 : decode cX3_keep 25 = .ok (.ifnull 18, 3) := by decide +kernel
theorem dX3_keep_28 : decode cX3_keep 28 = .ok (.aload_n 2, 1) := by decide +kernel
theorem dX3_keep_29 : decode cX3_keep 29 = .ok (.aload_n 0, 1) := by decide +kernel
theorem dX3_keep_30 : decode cX3_keep 30 = .ok (.getfield 10, 3) := by decide +kernel
theorem dX3_keep_33 : decode cX3_keep 33 = .ok (.invokevirtual 215, 3) := by decide +kernel
theorem dX3_keep_36 : decode cX3_keep 36 = .ok (.aload_n 0, 1) := by decide +kernel
theorem dX3_keep_37 : decode cX3_keep 37 = .ok (.getfield 30, 3) := by decide +kernel
theorem dX3_keep_40 : decode cX3_keep 40 = .ok (.iload_n 1, 1) := by decide +kernel
theorem dX3_keep_41 : decode cX3_keep 41 = .ok (.iconst 1, 1) := by decide +kernel
theorem dX3_keep_42 : decode cX3_keep 42 = .ok (.bastore, 1) := by decide +kernel
theorem dX3_keep_43 : decode cX3_keep 43 = .ok (.aload_n 0, 1) := by decide +kernel
theorem dX3_keep_44 : decode cX3_keep 44 = .ok (.getfield 10, 3) := by decide +kernel
theorem dX3_keep_47 : decode cX3_keep 47 = .ok (.invokevirtual 218, 3) := by decide +kernel
theorem dX3_keep_50 : decode cX3_keep 50 = .ok (.ireturn, 1) := by decide +kernel
theorem dX3_goBack_0 : decode cX3_goBack 0 = .ok (.iload_n 1, 1) := by decide +kernel
theorem dX3_goBack_1 : decode cX3_goBack 1 = .ok (.invokestatic 210, 3) := by decide +kernel
theorem dX3_goBack_4 : decode cX3_goBack 4 = .ok (.ifCond .ne 13, 3) := by decide +kernel
theorem dX3_goBack_7 : decode cX3_goBack 7 = .ok (.new 127, 3) := by decide +kernel
theorem dX3_goBack_10 : decode cX3_goBack 10 = .ok (.dup, 1) := by decide +kernel
theorem dX3_goBack_11 : decode cX3_goBack 11 = .ok (.ldc 213, 2) := by decide +kernel
theorem dX3_goBack_13 : decode cX3_goBack 13 = .ok (.invokespecial 131, 3) := by decide +kernel
theorem dX3_goBack_16 : decode cX3_goBack 16 = .ok (.athrow, 1) := by decide +kernel
theorem dX3_goBack_17 : decode cX3_goBack 17 = .ok (.aload_n 0, 1) := by decide +kernel
theorem dX3_goBack_18 : decode cX3_goBack 18 = .ok (.getfield 26, 3) := by decide +kernel
theorem dX3_goBack_21 : decode cX3_goBack 21 = .ok (.iload_n 1, 1) := by decide +kernel
theorem dX3_goBack_22 : decode cX3_goBack 22 = .ok (.aaload, 1) := by decide +kernel
theorem dX3_goBack_23 : decode cX3_goBack 23 = .ok (.astore_n 2, 1) := by decide +kernel
theorem dX3_goBack_24 : decode cX3_goBack 24 = .ok (.aload_n 2, 1) := by decide +kernel
theorem dX3_goBack_25 : decode cX3_goBack 25 = .ok (.ifnull 12, 3) := by decide +kernel
theorem dX3_goBack_28 : decode cX3_goBack 28 = .ok (.aload_n 0, 1) := by decide +kernel
theorem dX3_goBack_29 : decode cX3_goBack 29 = .ok (.getfield 30, 3) := by decide +kernel
theorem dX3_goBack_32 : decode cX3_goBack 32 = .ok (.iload_n 1, 1) := by decide +kernel
theorem dX3_goBack_33 : decode cX3_goBack 33 = .ok (.baload, 1) := by decide +kernel
theorem dX3_goBack_34 : decode cX3_goBack 34 = .ok (.ifCond .ne 13, 3) := by decide +kernel
theorem dX3_goBack_37 : decode cX3_goBack 37 = .ok (.new 63, 3) := by decide +kernel
theorem dX3_goBack_40 : decode cX3_goBack 40 = .ok (.dup, 1) := by decide +kernel
theorem dX3_goBack_41 : decode cX3_goBack 41 = .ok (.ldc 221, 2) := by decide +kernel
theorem dX3_goBack_43 : decode cX3_goBack 43 = .ok (.invokespecial 67, 3) := by decide +kernel
theorem dX3_goBack_46 : decode cX3_goBack 46 = .ok (.athrow, 1) := by decide +kernel
theorem dX3_goBack_47 : decode cX3_goBack 47 = .ok (.aload_n 0, 1) := by decide +kernel
theorem dX3_goBack_48 : decode cX3_goBack 48 = .ok (.getfield 22, 3) := by decide +kernel
theorem dX3_goBack_51 : decode cX3_goBack 51 = .ok (.aload_n 0, 1) := by decide +kernel
theorem dX3_goBack_52 : decode cX3_goBack 52 = .ok (.getfield 10, 3) := by decide +kernel
theorem dX3_goBack_55 : decode cX3_goBack 55 = .ok (.invokevirtual 68, 3) := by decide +kernel
theorem dX3_goBack_58 : decode cX3_goBack 58 = .ok (.aload_n 0, 1) := by decide +kernel
theorem dX3_goBack_59 : decode cX3_goBack 59 = .ok (.getfield 10, 3) := by decide +kernel
theorem dX3_goBack_62 : decode cX3_goBack 62 = .ok (.aload_n 2, 1) := by decide +kernel
theorem dX3_goBack_63 : decode cX3_goBack 63 = .ok (.invokevirtual 215, 3) := by decide +kernel
theorem dX3_goBack_66 : decode cX3_goBack 66 = .ok (.aload_n 0, 1) := by decide +kernel
theorem dX3_goBack_67 : decode cX3_goBack 67 = .ok (.getfield 10, 3) := by decide +kernel
theorem dX3_goBack_70 : decode cX3_goBack 70 = .ok (.invokevirtual 218, 3) := by decide +kernel
theorem dX3_goBack_73 : decode cX3_goBack 73 = .ok (.ireturn, 1) := by decide +kernel
theorem dX3_undo_0 : decode cX3_undo 0 = .ok (.aload_n 0, 1) := by decide +kernel
theorem dX3_undo_1 : decode cX3_undo 1 = .ok (.getfield 22, 3) := by decide +kernel
theorem dX3_undo_4 : decode cX3_undo 4 = .ok (.getfield 223, 3) := by decide +kernel
theorem dX3_undo_7 : decode cX3_undo 7 = .ok (.iconst 1, 1) := by decide +kernel
theorem dX3_undo_8 : decode cX3_undo 8 = .ok (.if_icmp .ge 13, 3) := by decide +kernel
theorem dX3_undo_11 : decode cX3_undo 11 = .ok (.new 63, 3) := by decide +kernel
theorem dX3_undo_14 : decode cX3_undo 14 = .ok (.dup, 1) := by decide +kernel
theorem dX3_undo_15 : decode cX3_undo 15 = .ok (.ldc 226, 2) := by decide +kernel
theorem dX3_undo_17 : decode cX3_undo 17 = .ok (.invokespecial 67, 3) := by decide +kernel
theorem dX3_undo_20 : decode cX3_undo 20 = .ok (.athrow, 1) := by decide +kernel
theorem dX3_undo_21 : decode cX3_undo 21 = .ok (.aload_n 0, 1) := by decide +kernel
theorem dX3_undo_22 : decode cX3_undo 22 = .ok (.getfield 22, 3) := by decide +kernel
theorem dX3_undo_25 : decode cX3_undo 25 = .ok (.aload_n 0, 1) := by decide +kernel
theorem dX3_undo_26 : decode cX3_undo 26 = .ok (.getfield 10, 3) := by decide +kernel
theorem dX3_undo_29 : decode cX3_undo 29 = .ok (.invokevirtual 228, 3) := by decide +kernel
theorem dX3_undo_32 : decode cX3_undo 32 = .ok (.aload_n 0, 1) := by decide +kernel
theorem dX3_undo_33 : decode cX3_undo 33 = .ok (.getfield 22, 3) := by decide +kernel
theorem dX3_undo_36 : decode cX3_undo 36 = .ok (.getfield 223, 3) := by decide +kernel
theorem dX3_undo_39 : decode cX3_undo 39 = .ok (.ireturn, 1) := by decide +kernel
theorem dX3_wordOf_0 : decode cX3_wordOf 0 = .ok (.iload_n 1, 1) := by decide +kernel
theorem dX3_wordOf_1 : decode cX3_wordOf 1 = .ok (.invokestatic 45, 3) := by decide +kernel
theorem dX3_wordOf_4 : decode cX3_wordOf 4 = .ok (.ifCond .ne 13, 3) := by decide +kernel
theorem dX3_wordOf_7 : decode cX3_wordOf 7 = .ok (.new 53, 3) := by decide +kernel
theorem dX3_wordOf_10 : decode cX3_wordOf 10 = .ok (.dup, 1) := by decide +kernel
theorem dX3_wordOf_11 : decode cX3_wordOf 11 = .ok (.ldc 91, 2) := by decide +kernel
theorem dX3_wordOf_13 : decode cX3_wordOf 13 = .ok (.invokespecial 57, 3) := by decide +kernel
theorem dX3_wordOf_16 : decode cX3_wordOf 16 = .ok (.athrow, 1) := by decide +kernel
theorem dX3_wordOf_17 : decode cX3_wordOf 17 = .ok (.iload_n 2, 1) := by decide +kernel
theorem dX3_wordOf_18 : decode cX3_wordOf 18 = .ok (.ifCond .lt 9, 3) := by decide +kernel
theorem dX3_wordOf_21 : decode cX3_wordOf 21 = .ok (.iload_n 2, 1) := by decide +kernel
theorem dX3_wordOf_22 : decode cX3_wordOf 22 = .ok (.bipush 7, 2) := by decide +kernel
theorem dX3_wordOf_24 : decode cX3_wordOf 24 = .ok (.if_icmp .lt 13, 3) := by decide +kernel
theorem dX3_wordOf_27 : decode cX3_wordOf 27 = .ok (.new 127, 3) := by decide +kernel
theorem dX3_wordOf_30 : decode cX3_wordOf 30 = .ok (.dup, 1) := by decide +kernel
theorem dX3_wordOf_31 : decode cX3_wordOf 31 = .ok (.ldc 231, 2) := by decide +kernel
theorem dX3_wordOf_33 : decode cX3_wordOf 33 = .ok (.invokespecial 131, 3) := by decide +kernel
theorem dX3_wordOf_36 : decode cX3_wordOf 36 = .ok (.athrow, 1) := by decide +kernel
theorem dX3_wordOf_37 : decode cX3_wordOf 37 = .ok (.aload_n 0, 1) := by decide +kernel
theorem dX3_wordOf_38 : decode cX3_wordOf 38 = .ok (.getfield 10, 3) := by decide +kernel
theorem dX3_wordOf_41 : decode cX3_wordOf 41 = .ok (.iload_n 1, 1) := by decide +kernel
theorem dX3_wordOf_42 : decode cX3_wordOf 42 = .ok (.iload_n 2, 1) := by decide +kernel
theorem dX3_wordOf_43 : decode cX3_wordOf 43 = .ok (.invokevirtual 233, 3) := by decide +kernel
theorem dX3_wordOf_46 : decode cX3_wordOf 46 = .ok (.ireturn, 1) := by decide +kernel
theorem dX3_at_0 : decode cX3_at 0 = .ok (.iload_n 1, 1) := by decide +kernel
theorem dX3_at_1 : decode cX3_at 1 = .ok (.iload_n 2, 1) := by decide +kernel
theorem dX3_at_2 : decode cX3_at 2 = .ok (.invokestatic 106, 3) := by decide +kernel
theorem dX3_at_5 : decode cX3_at 5 = .ok (.ifCond .eq 13, 3) := by decide +kernel
theorem dX3_at_8 : decode cX3_at 8 = .ok (.iload_n 3, 1) := by decide +kernel
theorem dX3_at_9 : decode cX3_at 9 = .ok (.ifCond .lt 9, 3) := by decide +kernel
theorem dX3_at_12 : decode cX3_at 12 = .ok (.iload_n 3, 1) := by decide +kernel
theorem dX3_at_13 : decode cX3_at 13 = .ok (.bipush 6, 2) := by decide +kernel
theorem dX3_at_15 : decode cX3_at 15 = .ok (.if_icmp .lt 13, 3) := by decide +kernel
theorem dX3_at_18 : decode cX3_at 18 = .ok (.new 53, 3) := by decide +kernel
theorem dX3_at_21 : decode cX3_at 21 = .ok (.dup, 1) := by decide +kernel
theorem dX3_at_22 : decode cX3_at 22 = .ok (.ldc 236, 2) := by decide +kernel
theorem dX3_at_24 : decode cX3_at 24 = .ok (.invokespecial 57, 3) := by decide +kernel
theorem dX3_at_27 : decode cX3_at 27 = .ok (.athrow, 1) := by decide +kernel
theorem dX3_at_28 : decode cX3_at 28 = .ok (.aload_n 0, 1) := by decide +kernel
theorem dX3_at_29 : decode cX3_at 29 = .ok (.getfield 10, 3) := by decide +kernel
theorem dX3_at_32 : decode cX3_at 32 = .ok (.iload_n 1, 1) := by decide +kernel
theorem dX3_at_33 : decode cX3_at 33 = .ok (.iload_n 2, 1) := by decide +kernel
theorem dX3_at_34 : decode cX3_at 34 = .ok (.invokestatic 72, 3) := by decide +kernel
theorem dX3_at_37 : decode cX3_at 37 = .ok (.iload_n 3, 1) := by decide +kernel
theorem dX3_at_38 : decode cX3_at 38 = .ok (.invokevirtual 238, 3) := by decide +kernel
theorem dX3_at_41 : decode cX3_at 41 = .ok (.ireturn, 1) := by decide +kernel
theorem dX3_lineOf_0 : decode cX3_lineOf 0 = .ok (.iload_n 1, 1) := by decide +kernel
theorem dX3_lineOf_1 : decode cX3_lineOf 1 = .ok (.iload_n 2, 1) := by decide +kernel
theorem dX3_lineOf_2 : decode cX3_lineOf 2 = .ok (.invokestatic 106, 3) := by decide +kernel
theorem dX3_lineOf_5 : decode cX3_lineOf 5 = .ok (.ifCond .ne 13, 3) := by decide +kernel
theorem dX3_lineOf_8 : decode cX3_lineOf 8 = .ok (.new 53, 3) := by decide +kernel
theorem dX3_lineOf_11 : decode cX3_lineOf 11 = .ok (.dup, 1) := by decide +kernel
theorem dX3_lineOf_12 : decode cX3_lineOf 12 = .ok (.ldc 125, 2) := by decide +kernel
theorem dX3_lineOf_14 : decode cX3_lineOf 14 = .ok (.invokespecial 57, 3) := by decide +kernel
theorem dX3_lineOf_17 : decode cX3_lineOf 17 = .ok (.athrow, 1) := by decide +kernel
theorem dX3_lineOf_18 : decode cX3_lineOf 18 = .ok (.iload_n 3, 1) := by decide +kernel
theorem dX3_lineOf_19 : decode cX3_lineOf 19 = .ok (.ifCond .lt 9, 3) := by decide +kernel
theorem dX3_lineOf_22 : decode cX3_lineOf 22 = .ok (.iload_n 3, 1) := by decide +kernel
theorem dX3_lineOf_23 : decode cX3_lineOf 23 = .ok (.bipush 8, 2) := by decide +kernel
theorem dX3_lineOf_25 : decode cX3_lineOf 25 = .ok (.if_icmp .lt 13, 3) := by decide +kernel
theorem dX3_lineOf_28 : decode cX3_lineOf 28 = .ok (.new 127, 3) := by decide +kernel
theorem dX3_lineOf_31 : decode cX3_lineOf 31 = .ok (.dup, 1) := by decide +kernel
theorem dX3_lineOf_32 : decode cX3_lineOf 32 = .ok (.ldc 241, 2) := by decide +kernel
theorem dX3_lineOf_34 : decode cX3_lineOf 34 = .ok (.invokespecial 131, 3) := by decide +kernel
theorem dX3_lineOf_37 : decode cX3_lineOf 37 = .ok (.athrow, 1) := by decide +kernel
theorem dX3_lineOf_38 : decode cX3_lineOf 38 = .ok (.aload_n 0, 1) := by decide +kernel
theorem dX3_lineOf_39 : decode cX3_lineOf 39 = .ok (.getfield 10, 3) := by decide +kernel
theorem dX3_lineOf_42 : decode cX3_lineOf 42 = .ok (.iload_n 1, 1) := by decide +kernel
theorem dX3_lineOf_43 : decode cX3_lineOf 43 = .ok (.iload_n 2, 1) := by decide +kernel
theorem dX3_lineOf_44 : decode cX3_lineOf 44 = .ok (.invokestatic 72, 3) := by decide +kernel
theorem dX3_lineOf_47 : decode cX3_lineOf 47 = .ok (.iload_n 3, 1) := by decide +kernel
theorem dX3_lineOf_48 : decode cX3_lineOf 48 = .ok (.invokevirtual 243, 3) := by decide +kernel
theorem dX3_lineOf_51 : decode cX3_lineOf 51 = .ok (.ireturn, 1) := by decide +kernel
theorem dX3_doorOf_0 : decode cX3_doorOf 0 = .ok (.iload_n 1, 1) := by decide +kernel
theorem dX3_doorOf_1 : decode cX3_doorOf 1 = .ok (.invokestatic 117, 3) := by decide +kernel
theorem dX3_doorOf_4 : decode cX3_doorOf 4 = .ok (.ifCond .ne 13, 3) := by decide +kernel
theorem dX3_doorOf_7 : decode cX3_doorOf 7 = .ok (.new 53, 3) := by decide +kernel
theorem dX3_doorOf_10 : decode cX3_doorOf 10 = .ok (.dup, 1) := by decide +kernel
theorem dX3_doorOf_11 : decode cX3_doorOf 11 = .ok (.ldc 120, 2) := by decide +kernel
theorem dX3_doorOf_13 : decode cX3_doorOf 13 = .ok (.invokespecial 57, 3) := by decide +kernel
theorem dX3_doorOf_16 : decode cX3_doorOf 16 = .ok (.athrow, 1) := by decide +kernel
theorem dX3_doorOf_17 : decode cX3_doorOf 17 = .ok (.iload_n 2, 1) := by decide +kernel
theorem dX3_doorOf_18 : decode cX3_doorOf 18 = .ok (.ifCond .lt 8, 3) := by decide +kernel
theorem dX3_doorOf_21 : decode cX3_doorOf 21 = .ok (.iload_n 2, 1) := by decide +kernel
theorem dX3_doorOf_22 : decode cX3_doorOf 22 = .ok (.iconst 5, 1) := by decide +kernel
theorem dX3_doorOf_23 : decode cX3_doorOf 23 = .ok (.if_icmp .lt 13, 3) := by decide +kernel
theorem dX3_doorOf_26 : decode cX3_doorOf 26 = .ok (.new 127, 3) := by decide +kernel
theorem dX3_doorOf_29 : decode cX3_doorOf 29 = .ok (.dup, 1) := by decide +kernel
theorem dX3_doorOf_30 : decode cX3_doorOf 30 = .ok (.ldc 246, 2) := by decide +kernel
theorem dX3_doorOf_32 : decode cX3_doorOf 32 = .ok (.invokespecial 131, 3) := by decide +kernel
theorem dX3_doorOf_35 : decode cX3_doorOf 35 = .ok (.athrow, 1) := by decide +kernel
theorem dX3_doorOf_36 : decode cX3_doorOf 36 = .ok (.aload_n 0, 1) := by decide +kernel
theorem dX3_doorOf_37 : decode cX3_doorOf 37 = .ok (.getfield 10, 3) := by decide +kernel
theorem dX3_doorOf_40 : decode cX3_doorOf 40 = .ok (.iload_n 1, 1) := by decide +kernel
theorem dX3_doorOf_41 : decode cX3_doorOf 41 = .ok (.iload_n 2, 1) := by decide +kernel
theorem dX3_doorOf_42 : decode cX3_doorOf 42 = .ok (.invokevirtual 248, 3) := by decide +kernel
theorem dX3_doorOf_45 : decode cX3_doorOf 45 = .ok (.ireturn, 1) := by decide +kernel
theorem dX3_count_0 : decode cX3_count 0 = .ok (.iload_n 1, 1) := by decide +kernel
theorem dX3_count_1 : decode cX3_count 1 = .ok (.ifCond .lt 9, 3) := by decide +kernel
theorem dX3_count_4 : decode cX3_count 4 = .ok (.iload_n 1, 1) := by decide +kernel
theorem dX3_count_5 : decode cX3_count 5 = .ok (.bipush 9, 2) := by decide +kernel
theorem dX3_count_7 : decode cX3_count 7 = .ok (.if_icmp .lt 13, 3) := by decide +kernel
theorem dX3_count_10 : decode cX3_count 10 = .ok (.new 127, 3) := by decide +kernel
theorem dX3_count_13 : decode cX3_count 13 = .ok (.dup, 1) := by decide +kernel
theorem dX3_count_14 : decode cX3_count 14 = .ok (.ldc 251, 2) := by decide +kernel
theorem dX3_count_16 : decode cX3_count 16 = .ok (.invokespecial 131, 3) := by decide +kernel
theorem dX3_count_19 : decode cX3_count 19 = .ok (.athrow, 1) := by decide +kernel
theorem dX3_count_20 : decode cX3_count 20 = .ok (.aload_n 0, 1) := by decide +kernel
theorem dX3_count_21 : decode cX3_count 21 = .ok (.iload_n 1, 1) := by decide +kernel
theorem dX3_count_22 : decode cX3_count 22 = .ok (.invokevirtual 253, 3) := by decide +kernel
theorem dX3_count_25 : decode cX3_count 25 = .ok (.ireturn, 1) := by decide +kernel
theorem dX3_setting_0 : decode cX3_setting 0 = .ok (.iload_n 1, 1) := by decide +kernel
theorem dX3_setting_1 : decode cX3_setting 1 = .ok (.invokestatic 165, 3) := by decide +kernel
theorem dX3_setting_4 : decode cX3_setting 4 = .ok (.ifCond .ne 13, 3) := by decide +kernel
theorem dX3_setting_7 : decode cX3_setting 7 = .ok (.new 53, 3) := by decide +kernel
theorem dX3_setting_10 : decode cX3_setting 10 = .ok (.dup, 1) := by decide +kernel
theorem dX3_setting_11 : decode cX3_setting 11 = .ok (.ldc 168, 2) := by decide +kernel
theorem dX3_setting_13 : decode cX3_setting 13 = .ok (.invokespecial 57, 3) := by decide +kernel
theorem dX3_setting_16 : decode cX3_setting 16 = .ok (.athrow, 1) := by decide +kernel
theorem dX3_setting_17 : decode cX3_setting 17 = .ok (.aload_n 0, 1) := by decide +kernel
theorem dX3_setting_18 : decode cX3_setting 18 = .ok (.getfield 10, 3) := by decide +kernel
theorem dX3_setting_21 : decode cX3_setting 21 = .ok (.iload_n 1, 1) := by decide +kernel
theorem dX3_setting_22 : decode cX3_setting 22 = .ok (.invokevirtual 175, 3) := by decide +kernel
theorem dX3_setting_25 : decode cX3_setting 25 = .ok (.ireturn, 1) := by decide +kernel
theorem dX3_whyNot_0 : decode cX3_whyNot 0 = .ok (.iload_n 1, 1) := by decide +kernel
theorem dX3_whyNot_1 : decode cX3_whyNot 1 = .ok (.invokestatic 45, 3) := by decide +kernel
theorem dX3_whyNot_4 : decode cX3_whyNot 4 = .ok (.ifCond .eq 14, 3) := by decide +kernel
theorem dX3_whyNot_7 : decode cX3_whyNot 7 = .ok (.aload_n 0, 1) := by decide +kernel
theorem dX3_whyNot_8 : decode cX3_whyNot 8 = .ok (.iload_n 2, 1) := by decide +kernel
theorem dX3_whyNot_9 : decode cX3_whyNot 9 = .ok (.iload_n 3, 1) := by decide +kernel
theorem dX3_whyNot_10 : decode cX3_whyNot 10 = .ok (.iload 4, 2) := by decide +kernel
theorem dX3_whyNot_12 : decode cX3_whyNot 12 = .ok (.invokevirtual 49, 3) := by decide +kernel
theorem dX3_whyNot_15 : decode cX3_whyNot 15 = .ok (.ifCond .ne 13, 3) := by decide +kernel
theorem dX3_whyNot_18 : decode cX3_whyNot 18 = .ok (.new 53, 3) := by decide +kernel
theorem dX3_whyNot_21 : decode cX3_whyNot 21 = .ok (.dup, 1) := by decide +kernel
theorem dX3_whyNot_22 : decode cX3_whyNot 22 = .ok (.ldc 55, 2) := by decide +kernel
theorem dX3_whyNot_24 : decode cX3_whyNot 24 = .ok (.invokespecial 57, 3) := by decide +kernel
theorem dX3_whyNot_27 : decode cX3_whyNot 27 = .ok (.athrow, 1) := by decide +kernel
theorem dX3_whyNot_28 : decode cX3_whyNot 28 = .ok (.iload_n 2, 1) := by decide +kernel
theorem dX3_whyNot_29 : decode cX3_whyNot 29 = .ok (.iload_n 3, 1) := by decide +kernel
theorem dX3_whyNot_30 : decode cX3_whyNot 30 = .ok (.invokestatic 72, 3) := by decide +kernel
theorem dX3_whyNot_33 : decode cX3_whyNot 33 = .ok (.istore 5, 2) := by decide +kernel
theorem dX3_whyNot_35 : decode cX3_whyNot 35 = .ok (.aload_n 0, 1) := by decide +kernel
theorem dX3_whyNot_36 : decode cX3_whyNot 36 = .ok (.getfield 10, 3) := by decide +kernel
theorem dX3_whyNot_39 : decode cX3_whyNot 39 = .ok (.iload_n 1, 1) := by decide +kernel
theorem dX3_whyNot_40 : decode cX3_whyNot 40 = .ok (.invokevirtual 95, 3) := by decide +kernel
theorem dX3_whyNot_43 : decode cX3_whyNot 43 = .ok (.iload 5, 2) := by decide +kernel
theorem dX3_whyNot_45 : decode cX3_whyNot 45 = .ok (.if_icmp .ne 7, 3) := by decide +kernel
theorem dX3_whyNot_48 : decode cX3_whyNot 48 = .ok (.iconst (-1), 1) := by decide +kernel
theorem dX3_whyNot_49 : decode cX3_whyNot 49 = .ok (.goto 15, 3) := by decide +kernel
theorem dX3_whyNot_52 : decode cX3_whyNot 52 = .ok (.aload_n 0, 1) := by decide +kernel
theorem dX3_whyNot_53 : decode cX3_whyNot 53 = .ok (.getfield 10, 3) := by decide +kernel
theorem dX3_whyNot_56 : decode cX3_whyNot 56 = .ok (.iload_n 1, 1) := by decide +kernel
theorem dX3_whyNot_57 : decode cX3_whyNot 57 = .ok (.iload 5, 2) := by decide +kernel
theorem dX3_whyNot_59 : decode cX3_whyNot 59 = .ok (.iload 4, 2) := by decide +kernel
theorem dX3_whyNot_61 : decode cX3_whyNot 61 = .ok (.invokevirtual 76, 3) := by decide +kernel
theorem dX3_whyNot_64 : decode cX3_whyNot 64 = .ok (.ireturn, 1) := by decide +kernel
theorem dX3_bestWord_0 : decode cX3_bestWord 0 = .ok (.iload_n 1, 1) := by decide +kernel
theorem dX3_bestWord_1 : decode cX3_bestWord 1 = .ok (.iload_n 2, 1) := by decide +kernel
theorem dX3_bestWord_2 : decode cX3_bestWord 2 = .ok (.invokestatic 106, 3) := by decide +kernel
theorem dX3_bestWord_5 : decode cX3_bestWord 5 = .ok (.ifCond .ne 13, 3) := by decide +kernel
theorem dX3_bestWord_8 : decode cX3_bestWord 8 = .ok (.new 53, 3) := by decide +kernel
theorem dX3_bestWord_11 : decode cX3_bestWord 11 = .ok (.dup, 1) := by decide +kernel
theorem dX3_bestWord_12 : decode cX3_bestWord 12 = .ok (.ldc 125, 2) := by decide +kernel
theorem dX3_bestWord_14 : decode cX3_bestWord 14 = .ok (.invokespecial 57, 3) := by decide +kernel
theorem dX3_bestWord_17 : decode cX3_bestWord 17 = .ok (.athrow, 1) := by decide +kernel
theorem dX3_bestWord_18 : decode cX3_bestWord 18 = .ok (.aload_n 0, 1) := by decide +kernel
theorem dX3_bestWord_19 : decode cX3_bestWord 19 = .ok (.getfield 10, 3) := by decide +kernel
theorem dX3_bestWord_22 : decode cX3_bestWord 22 = .ok (.iload_n 1, 1) := by decide +kernel
theorem dX3_bestWord_23 : decode cX3_bestWord 23 = .ok (.iload_n 2, 1) := by decide +kernel
theorem dX3_bestWord_24 : decode cX3_bestWord 24 = .ok (.invokestatic 72, 3) := by decide +kernel
theorem dX3_bestWord_27 : decode cX3_bestWord 27 = .ok (.invokevirtual 256, 3) := by decide +kernel
theorem dX3_bestWord_30 : decode cX3_bestWord 30 = .ok (.ireturn, 1) := by decide +kernel
theorem dX3_prey_0 : decode cX3_prey 0 = .ok (.aload_n 0, 1) := by decide +kernel
theorem dX3_prey_1 : decode cX3_prey 1 = .ok (.getfield 10, 3) := by decide +kernel
theorem dX3_prey_4 : decode cX3_prey 4 = .ok (.invokevirtual 259, 3) := by decide +kernel
theorem dX3_prey_7 : decode cX3_prey 7 = .ok (.ireturn, 1) := by decide +kernel
theorem dX3_ifSlept_0 : decode cX3_ifSlept 0 = .ok (.iload_n 2, 1) := by decide +kernel
theorem dX3_ifSlept_1 : decode cX3_ifSlept 1 = .ok (.invokestatic 117, 3) := by decide +kernel
theorem dX3_ifSlept_4 : decode cX3_ifSlept 4 = .ok (.ifCond .ne 13, 3) := by decide +kernel
theorem dX3_ifSlept_7 : decode cX3_ifSlept 7 = .ok (.new 53, 3) := by decide +kernel
theorem dX3_ifSlept_10 : decode cX3_ifSlept 10 = .ok (.dup, 1) := by decide +kernel
theorem dX3_ifSlept_11 : decode cX3_ifSlept 11 = .ok (.ldc 120, 2) := by decide +kernel
theorem dX3_ifSlept_13 : decode cX3_ifSlept 13 = .ok (.invokespecial 57, 3) := by decide +kernel
theorem dX3_ifSlept_16 : decode cX3_ifSlept 16 = .ok (.athrow, 1) := by decide +kernel
theorem dX3_ifSlept_17 : decode cX3_ifSlept 17 = .ok (.iload_n 1, 1) := by decide +kernel
theorem dX3_ifSlept_18 : decode cX3_ifSlept 18 = .ok (.invokestatic 152, 3) := by decide +kernel
theorem dX3_ifSlept_21 : decode cX3_ifSlept 21 = .ok (.ifCond .ne 13, 3) := by decide +kernel
theorem dX3_ifSlept_24 : decode cX3_ifSlept 24 = .ok (.new 127, 3) := by decide +kernel
theorem dX3_ifSlept_27 : decode cX3_ifSlept 27 = .ok (.dup, 1) := by decide +kernel
theorem dX3_ifSlept_28 : decode cX3_ifSlept 28 = .ok (.ldc 155, 2) := by decide +kernel
theorem dX3_ifSlept_30 : decode cX3_ifSlept 30 = .ok (.invokespecial 131, 3) := by decide +kernel
theorem dX3_ifSlept_33 : decode cX3_ifSlept 33 = .ok (.athrow, 1) := by decide +kernel
theorem dX3_ifSlept_34 : decode cX3_ifSlept 34 = .ok (.aload_n 0, 1) := by decide +kernel
theorem dX3_ifSlept_35 : decode cX3_ifSlept 35 = .ok (.getfield 16, 3) := by decide +kernel
theorem dX3_ifSlept_38 : decode cX3_ifSlept 38 = .ok (.aload_n 0, 1) := by decide +kernel
theorem dX3_ifSlept_39 : decode cX3_ifSlept 39 = .ok (.getfield 10, 3) := by decide +kernel
theorem dX3_ifSlept_42 : decode cX3_ifSlept 42 = .ok (.invokevirtual 215, 3) := by decide +kernel
theorem dX3_ifSlept_45 : decode cX3_ifSlept 45 = .ok (.aload_n 0, 1) := by decide +kernel
theorem dX3_ifSlept_46 : decode cX3_ifSlept 46 = .ok (.getfield 16, 3) := by decide +kernel
theorem dX3_ifSlept_49 : decode cX3_ifSlept 49 = .ok (.iload_n 1, 1) := by decide +kernel
theorem dX3_ifSlept_50 : decode cX3_ifSlept 50 = .ok (.invokevirtual 162, 3) := by decide +kernel
theorem dX3_ifSlept_53 : decode cX3_ifSlept 53 = .ok (.pop, 1) := by decide +kernel
theorem dX3_ifSlept_54 : decode cX3_ifSlept 54 = .ok (.aload_n 0, 1) := by decide +kernel
theorem dX3_ifSlept_55 : decode cX3_ifSlept 55 = .ok (.getfield 16, 3) := by decide +kernel
theorem dX3_ifSlept_58 : decode cX3_ifSlept 58 = .ok (.iload_n 2, 1) := by decide +kernel
theorem dX3_ifSlept_59 : decode cX3_ifSlept 59 = .ok (.invokevirtual 262, 3) := by decide +kernel
theorem dX3_ifSlept_62 : decode cX3_ifSlept 62 = .ok (.ireturn, 1) := by decide +kernel
theorem dX3_shownShare_0 : decode cX3_shownShare 0 = .ok (.aload_n 0, 1) := by decide +kernel
theorem dX3_shownShare_1 : decode cX3_shownShare 1 = .ok (.invokevirtual 265, 3) := by decide +kernel
theorem dX3_shownShare_4 : decode cX3_shownShare 4 = .ok (.dreturn, 1) := by decide +kernel
theorem dX3_digest_0 : decode cX3_digest 0 = .ok (.aload_n 0, 1) := by decide +kernel
theorem dX3_digest_1 : decode cX3_digest 1 = .ok (.getfield 16, 3) := by decide +kernel
theorem dX3_digest_4 : decode cX3_digest 4 = .ok (.aload_n 0, 1) := by decide +kernel
theorem dX3_digest_5 : decode cX3_digest 5 = .ok (.getfield 10, 3) := by decide +kernel
theorem dX3_digest_8 : decode cX3_digest 8 = .ok (.invokevirtual 215, 3) := by decide +kernel
theorem dX3_digest_11 : decode cX3_digest 11 = .ok (.aload_n 0, 1) := by decide +kernel
theorem dX3_digest_12 : decode cX3_digest 12 = .ok (.getfield 16, 3) := by decide +kernel
theorem dX3_digest_15 : decode cX3_digest 15 = .ok (.iconst 3, 1) := by decide +kernel
theorem dX3_digest_16 : decode cX3_digest 16 = .ok (.invokevirtual 162, 3) := by decide +kernel
theorem dX3_digest_19 : decode cX3_digest 19 = .ok (.pop, 1) := by decide +kernel
theorem dX3_digest_20 : decode cX3_digest 20 = .ok (.ldc2_w 269, 3) := by decide +kernel
theorem dX3_digest_23 : decode cX3_digest 23 = .ok (.lstore_n 1, 1) := by decide +kernel
theorem dX3_digest_24 : decode cX3_digest 24 = .ok (.iconst 0, 1) := by decide +kernel
theorem dX3_digest_25 : decode cX3_digest 25 = .ok (.istore_n 3, 1) := by decide +kernel
theorem dX3_digest_26 : decode cX3_digest 26 = .ok (.iload_n 3, 1) := by decide +kernel
theorem dX3_digest_27 : decode cX3_digest 27 = .ok (.bipush 9, 2) := by decide +kernel
theorem dX3_digest_29 : decode cX3_digest 29 = .ok (.if_icmp .ge 20, 3) := by decide +kernel
theorem dX3_digest_32 : decode cX3_digest 32 = .ok (.lload_n 1, 1) := by decide +kernel
theorem dX3_digest_33 : decode cX3_digest 33 = .ok (.aload_n 0, 1) := by decide +kernel
theorem dX3_digest_34 : decode cX3_digest 34 = .ok (.iload_n 3, 1) := by decide +kernel
theorem dX3_digest_35 : decode cX3_digest 35 = .ok (.invokevirtual 253, 3) := by decide +kernel
theorem dX3_digest_38 : decode cX3_digest 38 = .ok (.i2l, 1) := by decide +kernel
theorem dX3_digest_39 : decode cX3_digest 39 = .ok (.invokestatic 271, 3) := by decide +kernel
theorem dX3_digest_42 : decode cX3_digest 42 = .ok (.lstore_n 1, 1) := by decide +kernel
theorem dX3_digest_43 : decode cX3_digest 43 = .ok (.iinc 3 1, 3) := by decide +kernel
theorem dX3_digest_46 : decode cX3_digest 46 = .ok (.goto (-20), 3) := by decide +kernel
theorem dX3_digest_49 : decode cX3_digest 49 = .ok (.iconst 0, 1) := by decide +kernel
theorem dX3_digest_50 : decode cX3_digest 50 = .ok (.istore_n 3, 1) := by decide +kernel
theorem dX3_digest_51 : decode cX3_digest 51 = .ok (.iload_n 3, 1) := by decide +kernel
theorem dX3_digest_52 : decode cX3_digest 52 = .ok (.iconst 3, 1) := by decide +kernel
theorem dX3_digest_53 : decode cX3_digest 53 = .ok (.if_icmp .ge 23, 3) := by decide +kernel
theorem dX3_digest_56 : decode cX3_digest 56 = .ok (.lload_n 1, 1) := by decide +kernel
theorem dX3_digest_57 : decode cX3_digest 57 = .ok (.aload_n 0, 1) := by decide +kernel
theorem dX3_digest_58 : decode cX3_digest 58 = .ok (.getfield 10, 3) := by decide +kernel
theorem dX3_digest_61 : decode cX3_digest 61 = .ok (.iload_n 3, 1) := by decide +kernel
theorem dX3_digest_62 : decode cX3_digest 62 = .ok (.invokevirtual 175, 3) := by decide +kernel
theorem dX3_digest_65 : decode cX3_digest 65 = .ok (.i2l, 1) := by decide +kernel
theorem dX3_digest_66 : decode cX3_digest 66 = .ok (.invokestatic 271, 3) := by decide +kernel
theorem dX3_digest_69 : decode cX3_digest 69 = .ok (.lstore_n 1, 1) := by decide +kernel
theorem dX3_digest_70 : decode cX3_digest 70 = .ok (.iinc 3 1, 3) := by decide +kernel
theorem dX3_digest_73 : decode cX3_digest 73 = .ok (.goto (-22), 3) := by decide +kernel
theorem dX3_digest_76 : decode cX3_digest 76 = .ok (.iconst 0, 1) := by decide +kernel
theorem dX3_digest_77 : decode cX3_digest 77 = .ok (.istore_n 3, 1) := by decide +kernel
theorem dX3_digest_78 : decode cX3_digest 78 = .ok (.iload_n 3, 1) := by decide +kernel
theorem dX3_digest_79 : decode cX3_digest 79 = .ok (.bipush 40, 2) := by decide +kernel
theorem dX3_digest_81 : decode cX3_digest 81 = .ok (.if_icmp .ge 41, 3) := by decide +kernel
theorem dX3_digest_84 : decode cX3_digest 84 = .ok (.iconst 3, 1) := by decide +kernel
theorem dX3_digest_85 : decode cX3_digest 85 = .ok (.istore 4, 2) := by decide +kernel
theorem dX3_digest_87 : decode cX3_digest 87 = .ok (.iload 4, 2) := by decide +kernel
theorem dX3_digest_89 : decode cX3_digest 89 = .ok (.bipush 7, 2) := by decide +kernel
theorem dX3_digest_91 : decode cX3_digest 91 = .ok (.if_icmp .ge 25, 3) := by decide +kernel
theorem dX3_digest_94 : decode cX3_digest 94 = .ok (.lload_n 1, 1) := by decide +kernel
theorem dX3_digest_95 : decode cX3_digest 95 = .ok (.aload_n 0, 1) := by decide +kernel
theorem dX3_digest_96 : decode cX3_digest 96 = .ok (.getfield 10, 3) := by decide +kernel
theorem dX3_digest_99 : decode cX3_digest 99 = .ok (.iload_n 3, 1) := by decide +kernel
theorem dX3_digest_100 : decode cX3_digest 100 = .ok (.iload 4, 2) := by decide +kernel
theorem dX3_digest_102 : decode cX3_digest 102 = .ok (.invokevirtual 233, 3) := by decide +kernel
theorem dX3_digest_105 : decode cX3_digest 105 = .ok (.i2l, 1) := by decide +kernel
theorem dX3_digest_106 : decode cX3_digest 106 = .ok (.invokestatic 271, 3) := by decide +kernel
theorem dX3_digest_109 : decode cX3_digest 109 = .ok (.lstore_n 1, 1) := by decide +kernel
theorem dX3_digest_110 : decode cX3_digest 110 = .ok (.iinc 4 1, 3) := by decide +kernel
theorem dX3_digest_113 : decode cX3_digest 113 = .ok (.goto (-26), 3) := by decide +kernel
theorem dX3_digest_116 : decode cX3_digest 116 = .ok (.iinc 3 1, 3) := by decide +kernel
theorem dX3_digest_119 : decode cX3_digest 119 = .ok (.goto (-41), 3) := by decide +kernel
theorem dX3_digest_122 : decode cX3_digest 122 = .ok (.iconst 0, 1) := by decide +kernel
theorem dX3_digest_123 : decode cX3_digest 123 = .ok (.istore_n 3, 1) := by decide +kernel
theorem dX3_digest_124 : decode cX3_digest 124 = .ok (.iload_n 3, 1) := by decide +kernel
theorem dX3_digest_125 : decode cX3_digest 125 = .ok (.iconst 4, 1) := by decide +kernel
theorem dX3_digest_126 : decode cX3_digest 126 = .ok (.if_icmp .ge 16, 3) := by decide +kernel
theorem dX3_digest_129 : decode cX3_digest 129 = .ok (.aload_n 0, 1) := by decide +kernel
theorem dX3_digest_130 : decode cX3_digest 130 = .ok (.lload_n 1, 1) := by decide +kernel
theorem dX3_digest_131 : decode cX3_digest 131 = .ok (.iload_n 3, 1) := by decide +kernel
theorem dX3_digest_132 : decode cX3_digest 132 = .ok (.invokevirtual 275, 3) := by decide +kernel
theorem dX3_digest_135 : decode cX3_digest 135 = .ok (.lstore_n 1, 1) := by decide +kernel
theorem dX3_digest_136 : decode cX3_digest 136 = .ok (.iinc 3 1, 3) := by decide +kernel
theorem dX3_digest_139 : decode cX3_digest 139 = .ok (.goto (-15), 3) := by decide +kernel
theorem dX3_digest_142 : decode cX3_digest 142 = .ok (.lload_n 1, 1) := by decide +kernel
theorem dX3_digest_143 : decode cX3_digest 143 = .ok (.aload_n 0, 1) := by decide +kernel
theorem dX3_digest_144 : decode cX3_digest 144 = .ok (.getfield 10, 3) := by decide +kernel
theorem dX3_digest_147 : decode cX3_digest 147 = .ok (.invokevirtual 259, 3) := by decide +kernel
theorem dX3_digest_150 : decode cX3_digest 150 = .ok (.i2l, 1) := by decide +kernel
theorem dX3_digest_151 : decode cX3_digest 151 = .ok (.invokestatic 271, 3) := by decide +kernel
theorem dX3_digest_154 : decode cX3_digest 154 = .ok (.lstore_n 1, 1) := by decide +kernel
theorem dX3_digest_155 : decode cX3_digest 155 = .ok (.lload_n 1, 1) := by decide +kernel
theorem dX3_digest_156 : decode cX3_digest 156 = .ok (.aload_n 0, 1) := by decide +kernel
theorem dX3_digest_157 : decode cX3_digest 157 = .ok (.invokevirtual 265, 3) := by decide +kernel
theorem dX3_digest_160 : decode cX3_digest 160 = .ok (.invokestatic 279, 3) := by decide +kernel
theorem dX3_digest_163 : decode cX3_digest 163 = .ok (.invokestatic 271, 3) := by decide +kernel
theorem dX3_digest_166 : decode cX3_digest 166 = .ok (.lstore_n 1, 1) := by decide +kernel
theorem dX3_digest_167 : decode cX3_digest 167 = .ok (.iconst 0, 1) := by decide +kernel
theorem dX3_digest_168 : decode cX3_digest 168 = .ok (.istore_n 3, 1) := by decide +kernel
theorem dX3_digest_169 : decode cX3_digest 169 = .ok (.iload_n 3, 1) := by decide +kernel
theorem dX3_digest_170 : decode cX3_digest 170 = .ok (.aload_n 0, 1) := by decide +kernel
theorem dX3_digest_171 : decode cX3_digest 171 = .ok (.getfield 30, 3) := by decide +kernel
theorem dX3_digest_174 : decode cX3_digest 174 = .ok (.arraylength, 1) := by decide +kernel
theorem dX3_digest_175 : decode cX3_digest 175 = .ok (.if_icmp .ge 28, 3) := by decide +kernel
theorem dX3_digest_178 : decode cX3_digest 178 = .ok (.lload_n 1, 1) := by decide +kernel
theorem dX3_digest_179 : decode cX3_digest 179 = .ok (.aload_n 0, 1) := by decide +kernel
theorem dX3_digest_180 : decode cX3_digest 180 = .ok (.getfield 30, 3) := by decide +kernel
theorem dX3_digest_183 : decode cX3_digest 183 = .ok (.iload_n 3, 1) := by decide +kernel
theorem dX3_digest_184 : decode cX3_digest 184 = .ok (.baload, 1) := by decide +kernel
theorem dX3_digest_185 : decode cX3_digest 185 = .ok (.ifCond .eq 7, 3) := by decide +kernel
theorem dX3_digest_188 : decode cX3_digest 188 = .ok (.lconst 1, 1) := by decide +kernel
theorem dX3_digest_189 : decode cX3_digest 189 = .ok (.goto 4, 3) := by decide +kernel
theorem dX3_digest_192 : decode cX3_digest 192 = .ok (.lconst 0, 1) := by decide +kernel
theorem dX3_digest_193 : decode cX3_digest 193 = .ok (.invokestatic 271, 3) := by decide +kernel
theorem dX3_digest_196 : decode cX3_digest 196 = .ok (.lstore_n 1, 1) := by decide +kernel
theorem dX3_digest_197 : decode cX3_digest 197 = .ok (.iinc 3 1, 3) := by decide +kernel
theorem dX3_digest_200 : decode cX3_digest 200 = .ok (.goto (-31), 3) := by decide +kernel
theorem dX3_digest_203 : decode cX3_digest 203 = .ok (.lload_n 1, 1) := by decide +kernel
theorem dX3_digest_204 : decode cX3_digest 204 = .ok (.aload_n 0, 1) := by decide +kernel
theorem dX3_digest_205 : decode cX3_digest 205 = .ok (.getfield 183, 3) := by decide +kernel
theorem dX3_digest_208 : decode cX3_digest 208 = .ok (.i2l, 1) := by decide +kernel
theorem dX3_digest_209 : decode cX3_digest 209 = .ok (.invokestatic 271, 3) := by decide +kernel
theorem dX3_digest_212 : decode cX3_digest 212 = .ok (.lstore_n 1, 1) := by decide +kernel
theorem dX3_digest_213 : decode cX3_digest 213 = .ok (.iconst 0, 1) := by decide +kernel
theorem dX3_digest_214 : decode cX3_digest 214 = .ok (.istore_n 3, 1) := by decide +kernel
theorem dX3_digest_215 : decode cX3_digest 215 = .ok (.iload_n 3, 1) := by decide +kernel
theorem dX3_digest_216 : decode cX3_digest 216 = .ok (.aload_n 0, 1) := by decide +kernel
theorem dX3_digest_217 : decode cX3_digest 217 = .ok (.getfield 183, 3) := by decide +kernel
theorem dX3_digest_220 : decode cX3_digest 220 = .ok (.if_icmp .ge 30, 3) := by decide +kernel
theorem dX3_digest_223 : decode cX3_digest 223 = .ok (.iload_n 3, 1) := by decide +kernel
theorem dX3_digest_224 : decode cX3_digest 224 = .ok (.aload_n 0, 1) := by decide +kernel
theorem dX3_digest_225 : decode cX3_digest 225 = .ok (.getfield 34, 3) := by decide +kernel
theorem dX3_digest_228 : decode cX3_digest 228 = .ok (.arraylength, 1) := by decide +kernel
theorem dX3_digest_229 : decode cX3_digest 229 = .ok (.if_icmp .ge 21, 3) := by decide +kernel
theorem dX3_digest_232 : decode cX3_digest 232 = .ok (.lload_n 1, 1) := by decide +kernel
theorem dX3_digest_233 : decode cX3_digest 233 = .ok (.aload_n 0, 1) := by decide +kernel
theorem dX3_digest_234 : decode cX3_digest 234 = .ok (.getfield 34, 3) := by decide +kernel
theorem dX3_digest_237 : decode cX3_digest 237 = .ok (.iload_n 3, 1) := by decide +kernel
theorem dX3_digest_238 : decode cX3_digest 238 = .ok (.iaload, 1) := by decide +kernel
theorem dX3_digest_239 : decode cX3_digest 239 = .ok (.i2l, 1) := by decide +kernel
theorem dX3_digest_240 : decode cX3_digest 240 = .ok (.invokestatic 271, 3) := by decide +kernel
theorem dX3_digest_243 : decode cX3_digest 243 = .ok (.lstore_n 1, 1) := by decide +kernel
theorem dX3_digest_244 : decode cX3_digest 244 = .ok (.iinc 3 1, 3) := by decide +kernel
theorem dX3_digest_247 : decode cX3_digest 247 = .ok (.goto (-32), 3) := by decide +kernel
theorem dX3_digest_250 : decode cX3_digest 250 = .ok (.lload_n 1, 1) := by decide +kernel
theorem dX3_digest_251 : decode cX3_digest 251 = .ok (.lreturn, 1) := by decide +kernel
theorem dX3_mix_0 : decode cX3_mix 0 = .ok (.ldc2_w 283, 3) := by decide +kernel
theorem dX3_mix_3 : decode cX3_mix 3 = .ok (.lload_n 0, 1) := by decide +kernel
theorem dX3_mix_4 : decode cX3_mix 4 = .ok (.lmul, 1) := by decide +kernel
theorem dX3_mix_5 : decode cX3_mix 5 = .ok (.lload_n 2, 1) := by decide +kernel
theorem dX3_mix_6 : decode cX3_mix 6 = .ok (.ladd, 1) := by decide +kernel
theorem dX3_mix_7 : decode cX3_mix 7 = .ok (.lreturn, 1) := by decide +kernel
theorem dX3_mixDoor_0 : decode cX3_mixDoor 0 = .ok (.lload_n 1, 1) := by decide +kernel
theorem dX3_mixDoor_1 : decode cX3_mixDoor 1 = .ok (.lstore 4, 2) := by decide +kernel
theorem dX3_mixDoor_3 : decode cX3_mixDoor 3 = .ok (.iconst 0, 1) := by decide +kernel
theorem dX3_mixDoor_4 : decode cX3_mixDoor 4 = .ok (.istore 6, 2) := by decide +kernel
theorem dX3_mixDoor_6 : decode cX3_mixDoor 6 = .ok (.iload 6, 2) := by decide +kernel
theorem dX3_mixDoor_8 : decode cX3_mixDoor 8 = .ok (.iconst 5, 1) := by decide +kernel
theorem dX3_mixDoor_9 : decode cX3_mixDoor 9 = .ok (.if_icmp .ge 27, 3) := by decide +kernel
theorem dX3_mixDoor_12 : decode cX3_mixDoor 12 = .ok (.lload 4, 2) := by decide +kernel
theorem dX3_mixDoor_14 : decode cX3_mixDoor 14 = .ok (.aload_n 0, 1) := by decide +kernel
theorem dX3_mixDoor_15 : decode cX3_mixDoor 15 = .ok (.getfield 10, 3) := by decide +kernel
theorem dX3_mixDoor_18 : decode cX3_mixDoor 18 = .ok (.iload_n 3, 1) := by decide +kernel
theorem dX3_mixDoor_19 : decode cX3_mixDoor 19 = .ok (.iload 6, 2) := by decide +kernel
theorem dX3_mixDoor_21 : decode cX3_mixDoor 21 = .ok (.invokevirtual 248, 3) := by decide +kernel
theorem dX3_mixDoor_24 : decode cX3_mixDoor 24 = .ok (.i2l, 1) := by decide +kernel
theorem dX3_mixDoor_25 : decode cX3_mixDoor 25 = .ok (.invokestatic 271, 3) := by decide +kernel
theorem dX3_mixDoor_28 : decode cX3_mixDoor 28 = .ok (.lstore 4, 2) := by decide +kernel
theorem dX3_mixDoor_30 : decode cX3_mixDoor 30 = .ok (.iinc 6 1, 3) := by decide +kernel
theorem dX3_mixDoor_33 : decode cX3_mixDoor 33 = .ok (.goto (-27), 3) := by decide +kernel
theorem dX3_mixDoor_36 : decode cX3_mixDoor 36 = .ok (.iconst 0, 1) := by decide +kernel
theorem dX3_mixDoor_37 : decode cX3_mixDoor 37 = .ok (.istore 6, 2) := by decide +kernel
theorem dX3_mixDoor_39 : decode cX3_mixDoor 39 = .ok (.iload 6, 2) := by decide +kernel
theorem dX3_mixDoor_41 : decode cX3_mixDoor 41 = .ok (.iconst 4, 1) := by decide +kernel
theorem dX3_mixDoor_42 : decode cX3_mixDoor 42 = .ok (.if_icmp .ge 104, 3) := by decide +kernel
theorem dX3_mixDoor_45 : decode cX3_mixDoor 45 = .ok (.iload_n 3, 1) := by decide +kernel
theorem dX3_mixDoor_46 : decode cX3_mixDoor 46 = .ok (.iload 6, 2) := by decide +kernel
theorem dX3_mixDoor_48 : decode cX3_mixDoor 48 = .ok (.invokestatic 72, 3) := by decide +kernel
theorem dX3_mixDoor_51 : decode cX3_mixDoor 51 = .ok (.istore 7, 2) := by decide +kernel
theorem dX3_mixDoor_53 : decode cX3_mixDoor 53 = .ok (.iconst 0, 1) := by decide +kernel
theorem dX3_mixDoor_54 : decode cX3_mixDoor 54 = .ok (.istore 8, 2) := by decide +kernel
theorem dX3_mixDoor_56 : decode cX3_mixDoor 56 = .ok (.iload 8, 2) := by decide +kernel
theorem dX3_mixDoor_58 : decode cX3_mixDoor 58 = .ok (.bipush 6, 2) := by decide +kernel
theorem dX3_mixDoor_60 : decode cX3_mixDoor 60 = .ok (.if_icmp .ge 28, 3) := by decide +kernel
theorem dX3_mixDoor_63 : decode cX3_mixDoor 63 = .ok (.lload 4, 2) := by decide +kernel
theorem dX3_mixDoor_65 : decode cX3_mixDoor 65 = .ok (.aload_n 0, 1) := by decide +kernel
theorem dX3_mixDoor_66 : decode cX3_mixDoor 66 = .ok (.getfield 10, 3) := by decide +kernel
theorem dX3_mixDoor_69 : decode cX3_mixDoor 69 = .ok (.iload 7, 2) := by decide +kernel
theorem dX3_mixDoor_71 : decode cX3_mixDoor 71 = .ok (.iload 8, 2) := by decide +kernel
theorem dX3_mixDoor_73 : decode cX3_mixDoor 73 = .ok (.invokevirtual 238, 3) := by decide +kernel
theorem dX3_mixDoor_76 : decode cX3_mixDoor 76 = .ok (.i2l, 1) := by decide +kernel
theorem dX3_mixDoor_77 : decode cX3_mixDoor 77 = .ok (.invokestatic 271, 3) := by decide +kernel
theorem dX3_mixDoor_80 : decode cX3_mixDoor 80 = .ok (.lstore 4, 2) := by decide +kernel
theorem dX3_mixDoor_82 : decode cX3_mixDoor 82 = .ok (.iinc 8 1, 3) := by decide +kernel
theorem dX3_mixDoor_85 : decode cX3_mixDoor 85 = .ok (.goto (-29), 3) := by decide +kernel
theorem dX3_mixDoor_88 : decode cX3_mixDoor 88 = .ok (.iconst 0, 1) := by decide +kernel
theorem dX3_mixDoor_89 : decode cX3_mixDoor 89 = .ok (.istore 8, 2) := by decide +kernel
theorem dX3_mixDoor_91 : decode cX3_mixDoor 91 = .ok (.iload 8, 2) := by decide +kernel
theorem dX3_mixDoor_93 : decode cX3_mixDoor 93 = .ok (.bipush 8, 2) := by decide +kernel
theorem dX3_mixDoor_95 : decode cX3_mixDoor 95 = .ok (.if_icmp .ge 28, 3) := by decide +kernel
theorem dX3_mixDoor_98 : decode cX3_mixDoor 98 = .ok (.lload 4, 2) := by decide +kernel
theorem dX3_mixDoor_100 : decode cX3_mixDoor 100 = .ok (.aload_n 0, 1) := by decide +kernel
theorem dX3_mixDoor_101 : decode cX3_mixDoor 101 = .ok (.getfield 10, 3) := by decide +kernel
theorem dX3_mixDoor_104 : decode cX3_mixDoor 104 = .ok (.iload 7, 2) := by decide +kernel
theorem dX3_mixDoor_106 : decode cX3_mixDoor 106 = .ok (.iload 8, 2) := by decide +kernel
theorem dX3_mixDoor_108 : decode cX3_mixDoor 108 = .ok (.invokevirtual 243, 3) := by decide +kernel
theorem dX3_mixDoor_111 : decode cX3_mixDoor 111 = .ok (.i2l, 1) := by decide +kernel
theorem dX3_mixDoor_112 : decode cX3_mixDoor 112 = .ok (.invokestatic 271, 3) := by decide +kernel
theorem dX3_mixDoor_115 : decode cX3_mixDoor 115 = .ok (.lstore 4, 2) := by decide +kernel
theorem dX3_mixDoor_117 : decode cX3_mixDoor 117 = .ok (.iinc 8 1, 3) := by decide +kernel
theorem dX3_mixDoor_120 : decode cX3_mixDoor 120 = .ok (.goto (-29), 3) := by decide +kernel
theorem dX3_mixDoor_123 : decode cX3_mixDoor 123 = .ok (.lload 4, 2) := by decide +kernel
theorem dX3_mixDoor_125 : decode cX3_mixDoor 125 = .ok (.aload_n 0, 1) := by decide +kernel
theorem dX3_mixDoor_126 : decode cX3_mixDoor 126 = .ok (.getfield 10, 3) := by decide +kernel
theorem dX3_mixDoor_129 : decode cX3_mixDoor 129 = .ok (.iload 7, 2) := by decide +kernel
theorem dX3_mixDoor_131 : decode cX3_mixDoor 131 = .ok (.invokevirtual 256, 3) := by decide +kernel
theorem dX3_mixDoor_134 : decode cX3_mixDoor 134 = .ok (.i2l, 1) := by decide +kernel
theorem dX3_mixDoor_135 : decode cX3_mixDoor 135 = .ok (.invokestatic 271, 3) := by decide +kernel
theorem dX3_mixDoor_138 : decode cX3_mixDoor 138 = .ok (.lstore 4, 2) := by decide +kernel
theorem dX3_mixDoor_140 : decode cX3_mixDoor 140 = .ok (.iinc 6 1, 3) := by decide +kernel
theorem dX3_mixDoor_143 : decode cX3_mixDoor 143 = .ok (.goto (-104), 3) := by decide +kernel
theorem dX3_mixDoor_146 : decode cX3_mixDoor 146 = .ok (.lload 4, 2) := by decide +kernel
theorem dX3_mixDoor_148 : decode cX3_mixDoor 148 = .ok (.aload_n 0, 1) := by decide +kernel
theorem dX3_mixDoor_149 : decode cX3_mixDoor 149 = .ok (.getfield 16, 3) := by decide +kernel
theorem dX3_mixDoor_152 : decode cX3_mixDoor 152 = .ok (.iload_n 3, 1) := by decide +kernel
theorem dX3_mixDoor_153 : decode cX3_mixDoor 153 = .ok (.invokevirtual 262, 3) := by decide +kernel
theorem dX3_mixDoor_156 : decode cX3_mixDoor 156 = .ok (.i2l, 1) := by decide +kernel
theorem dX3_mixDoor_157 : decode cX3_mixDoor 157 = .ok (.invokestatic 271, 3) := by decide +kernel
theorem dX3_mixDoor_160 : decode cX3_mixDoor 160 = .ok (.lreturn, 1) := by decide +kernel
theorem dX3_bitsOf_0 : decode cX3_bitsOf 0 = .ok (.dload_n 0, 1) := by decide +kernel
theorem dX3_bitsOf_1 : decode cX3_bitsOf 1 = .ok (.dconst 0, 1) := by decide +kernel
theorem dX3_bitsOf_2 : decode cX3_bitsOf 2 = .ok (.dcmp .g, 1) := by decide +kernel
theorem dX3_bitsOf_3 : decode cX3_bitsOf 3 = .ok (.ifCond .gt 5, 3) := by decide +kernel
theorem dX3_bitsOf_6 : decode cX3_bitsOf 6 = .ok (.lconst 0, 1) := by decide +kernel
theorem dX3_bitsOf_7 : decode cX3_bitsOf 7 = .ok (.lreturn, 1) := by decide +kernel
theorem dX3_bitsOf_8 : decode cX3_bitsOf 8 = .ok (.dload_n 0, 1) := by decide +kernel
theorem dX3_bitsOf_9 : decode cX3_bitsOf 9 = .ok (.dstore_n 2, 1) := by decide +kernel
theorem dX3_bitsOf_10 : decode cX3_bitsOf 10 = .ok (.ldc2_w 285, 3) := by decide +kernel
theorem dX3_bitsOf_13 : decode cX3_bitsOf 13 = .ok (.lstore 4, 2) := by decide +kernel
theorem dX3_bitsOf_15 : decode cX3_bitsOf 15 = .ok (.dload_n 2, 1) := by decide +kernel
theorem dX3_bitsOf_16 : decode cX3_bitsOf 16 = .ok (.dconst 1, 1) := by decide +kernel
theorem dX3_bitsOf_17 : decode cX3_bitsOf 17 = .ok (.dcmp .g, 1) := by decide +kernel
theorem dX3_bitsOf_18 : decode cX3_bitsOf 18 = .ok (.ifCond .ge 25, 3) := by decide +kernel
theorem dX3_bitsOf_21 : decode cX3_bitsOf 21 = .ok (.lload 4, 2) := by decide +kernel
theorem dX3_bitsOf_23 : decode cX3_bitsOf 23 = .ok (.lconst 1, 1) := by decide +kernel
theorem dX3_bitsOf_24 : decode cX3_bitsOf 24 = .ok (.lcmp, 1) := by decide +kernel
theorem dX3_bitsOf_25 : decode cX3_bitsOf 25 = .ok (.ifCond .le 18, 3) := by decide +kernel
theorem dX3_bitsOf_28 : decode cX3_bitsOf 28 = .ok (.dload_n 2, 1) := by decide +kernel
theorem dX3_bitsOf_29 : decode cX3_bitsOf 29 = .ok (.ldc2_w 287, 3) := by decide +kernel
theorem dX3_bitsOf_32 : decode cX3_bitsOf 32 = .ok (.dmul, 1) := by decide +kernel
theorem dX3_bitsOf_33 : decode cX3_bitsOf 33 = .ok (.dstore_n 2, 1) := by decide +kernel
theorem dX3_bitsOf_34 : decode cX3_bitsOf 34 = .ok (.lload 4, 2) := by decide +kernel
theorem dX3_bitsOf_36 : decode cX3_bitsOf 36 = .ok (.lconst 1, 1) := by decide +kernel
theorem dX3_bitsOf_37 : decode cX3_bitsOf 37 = .ok (.lsub, 1) := by decide +kernel
theorem dX3_bitsOf_38 : decode cX3_bitsOf 38 = .ok (.lstore 4, 2) := by decide +kernel
theorem dX3_bitsOf_40 : decode cX3_bitsOf 40 = .ok (.goto (-25), 3) := by decide +kernel
theorem dX3_bitsOf_43 : decode cX3_bitsOf 43 = .ok (.lload 4, 2) := by decide +kernel
theorem dX3_bitsOf_45 : decode cX3_bitsOf 45 = .ok (.ldc2_w 289, 3) := by decide +kernel
theorem dX3_bitsOf_48 : decode cX3_bitsOf 48 = .ok (.lmul, 1) := by decide +kernel
theorem dX3_bitsOf_49 : decode cX3_bitsOf 49 = .ok (.dload_n 2, 1) := by decide +kernel
theorem dX3_bitsOf_50 : decode cX3_bitsOf 50 = .ok (.dconst 1, 1) := by decide +kernel
theorem dX3_bitsOf_51 : decode cX3_bitsOf 51 = .ok (.dsub, 1) := by decide +kernel
theorem dX3_bitsOf_52 : decode cX3_bitsOf 52 = .ok (.ldc2_w 291, 3) := by decide +kernel
theorem dX3_bitsOf_55 : decode cX3_bitsOf 55 = .ok (.dmul, 1) := by decide +kernel
theorem dX3_bitsOf_56 : decode cX3_bitsOf 56 = .ok (.d2l, 1) := by decide +kernel
theorem dX3_bitsOf_57 : decode cX3_bitsOf 57 = .ok (.ladd, 1) := by decide +kernel
theorem dX3_bitsOf_58 : decode cX3_bitsOf 58 = .ok (.lreturn, 1) := by decide +kernel
theorem dX3_share_0 : decode cX3_share 0 = .ok (.bipush 40, 2) := by decide +kernel
theorem dX3_share_2 : decode cX3_share 2 = .ok (.aload_n 0, 1) := by decide +kernel
theorem dX3_share_3 : decode cX3_share 3 = .ok (.getfield 10, 3) := by decide +kernel
theorem dX3_share_6 : decode cX3_share 6 = .ok (.invokevirtual 218, 3) := by decide +kernel
theorem dX3_share_9 : decode cX3_share 9 = .ok (.isub, 1) := by decide +kernel
theorem dX3_share_10 : decode cX3_share 10 = .ok (.i2d, 1) := by decide +kernel
theorem dX3_share_11 : decode cX3_share 11 = .ok (.ldc2_w 293, 3) := by decide +kernel
theorem dX3_share_14 : decode cX3_share 14 = .ok (.ddiv, 1) := by decide +kernel
theorem dX3_share_15 : decode cX3_share 15 = .ok (.dreturn, 1) := by decide +kernel
theorem dX3_numberOf_0 : decode cX3_numberOf 0 = .ok (.iload_n 1, 1) := by decide +kernel
theorem dX3_numberOf_1 : decode cX3_numberOf 1 = .ok (.tableswitch 111 0 7 #[47, 55, 63, 71, 79, 87, 95, 103], 47) := by decide +kernel
theorem dX3_numberOf_48 : decode cX3_numberOf 48 = .ok (.aload_n 0, 1) := by decide +kernel
theorem dX3_numberOf_49 : decode cX3_numberOf 49 = .ok (.getfield 10, 3) := by decide +kernel
theorem dX3_numberOf_52 : decode cX3_numberOf 52 = .ok (.invokevirtual 218, 3) := by decide +kernel
theorem dX3_numberOf_55 : decode cX3_numberOf 55 = .ok (.ireturn, 1) := by decide +kernel
theorem dX3_numberOf_56 : decode cX3_numberOf 56 = .ok (.aload_n 0, 1) := by decide +kernel
theorem dX3_numberOf_57 : decode cX3_numberOf 57 = .ok (.getfield 10, 3) := by decide +kernel
theorem dX3_numberOf_60 : decode cX3_numberOf 60 = .ok (.invokevirtual 295, 3) := by decide +kernel
theorem dX3_numberOf_63 : decode cX3_numberOf 63 = .ok (.ireturn, 1) := by decide +kernel
theorem dX3_numberOf_64 : decode cX3_numberOf 64 = .ok (.aload_n 0, 1) := by decide +kernel
theorem dX3_numberOf_65 : decode cX3_numberOf 65 = .ok (.getfield 10, 3) := by decide +kernel
theorem dX3_numberOf_68 : decode cX3_numberOf 68 = .ok (.getfield 157, 3) := by decide +kernel
theorem dX3_numberOf_71 : decode cX3_numberOf 71 = .ok (.ireturn, 1) := by decide +kernel
theorem dX3_numberOf_72 : decode cX3_numberOf 72 = .ok (.aload_n 0, 1) := by decide +kernel
theorem dX3_numberOf_73 : decode cX3_numberOf 73 = .ok (.getfield 10, 3) := by decide +kernel
theorem dX3_numberOf_76 : decode cX3_numberOf 76 = .ok (.getfield 298, 3) := by decide +kernel
theorem dX3_numberOf_79 : decode cX3_numberOf 79 = .ok (.ireturn, 1) := by decide +kernel
theorem dX3_numberOf_80 : decode cX3_numberOf 80 = .ok (.aload_n 0, 1) := by decide +kernel
theorem dX3_numberOf_81 : decode cX3_numberOf 81 = .ok (.getfield 10, 3) := by decide +kernel
theorem dX3_numberOf_84 : decode cX3_numberOf 84 = .ok (.getfield 88, 3) := by decide +kernel
theorem dX3_numberOf_87 : decode cX3_numberOf 87 = .ok (.ireturn, 1) := by decide +kernel
theorem dX3_numberOf_88 : decode cX3_numberOf 88 = .ok (.aload_n 0, 1) := by decide +kernel
theorem dX3_numberOf_89 : decode cX3_numberOf 89 = .ok (.getfield 10, 3) := by decide +kernel
theorem dX3_numberOf_92 : decode cX3_numberOf 92 = .ok (.getfield 80, 3) := by decide +kernel
theorem dX3_numberOf_95 : decode cX3_numberOf 95 = .ok (.ireturn, 1) := by decide +kernel
theorem dX3_numberOf_96 : decode cX3_numberOf 96 = .ok (.aload_n 0, 1) := by decide +kernel
theorem dX3_numberOf_97 : decode cX3_numberOf 97 = .ok (.getfield 10, 3) := by decide +kernel
theorem dX3_numberOf_100 : decode cX3_numberOf 100 = .ok (.invokevirtual 301, 3) := by decide +kernel
theorem dX3_numberOf_103 : decode cX3_numberOf 103 = .ok (.ireturn, 1) := by decide +kernel
theorem dX3_numberOf_104 : decode cX3_numberOf 104 = .ok (.aload_n 0, 1) := by decide +kernel
theorem dX3_numberOf_105 : decode cX3_numberOf 105 = .ok (.getfield 10, 3) := by decide +kernel
theorem dX3_numberOf_108 : decode cX3_numberOf 108 = .ok (.invokevirtual 304, 3) := by decide +kernel
theorem dX3_numberOf_111 : decode cX3_numberOf 111 = .ok (.ireturn, 1) := by decide +kernel
theorem dX3_numberOf_112 : decode cX3_numberOf 112 = .ok (.aload_n 0, 1) := by decide +kernel
theorem dX3_numberOf_113 : decode cX3_numberOf 113 = .ok (.getfield 22, 3) := by decide +kernel
theorem dX3_numberOf_116 : decode cX3_numberOf 116 = .ok (.getfield 223, 3) := by decide +kernel
theorem dX3_numberOf_119 : decode cX3_numberOf 119 = .ok (.ireturn, 1) := by decide +kernel
theorem dX3_addCode_0 : decode cX3_addCode 0 = .ok (.aload_n 0, 1) := by decide +kernel
theorem dX3_addCode_1 : decode cX3_addCode 1 = .ok (.getfield 183, 3) := by decide +kernel
theorem dX3_addCode_4 : decode cX3_addCode 4 = .ok (.ifCond .lt 35, 3) := by decide +kernel
theorem dX3_addCode_7 : decode cX3_addCode 7 = .ok (.aload_n 0, 1) := by decide +kernel
theorem dX3_addCode_8 : decode cX3_addCode 8 = .ok (.getfield 183, 3) := by decide +kernel
theorem dX3_addCode_11 : decode cX3_addCode 11 = .ok (.aload_n 0, 1) := by decide +kernel
theorem dX3_addCode_12 : decode cX3_addCode 12 = .ok (.getfield 34, 3) := by decide +kernel
theorem dX3_addCode_15 : decode cX3_addCode 15 = .ok (.arraylength, 1) := by decide +kernel
theorem dX3_addCode_16 : decode cX3_addCode 16 = .ok (.if_icmp .ge 23, 3) := by decide +kernel
theorem dX3_addCode_19 : decode cX3_addCode 19 = .ok (.aload_n 0, 1) := by decide +kernel
theorem dX3_addCode_20 : decode cX3_addCode 20 = .ok (.getfield 34, 3) := by decide +kernel
theorem dX3_addCode_23 : decode cX3_addCode 23 = .ok (.aload_n 0, 1) := by decide +kernel
theorem dX3_addCode_24 : decode cX3_addCode 24 = .ok (.getfield 183, 3) := by decide +kernel
theorem dX3_addCode_27 : decode cX3_addCode 27 = .ok (.iload_n 1, 1) := by decide +kernel
theorem dX3_addCode_28 : decode cX3_addCode 28 = .ok (.iastore, 1) := by decide +kernel
theorem dX3_addCode_29 : decode cX3_addCode 29 = .ok (.aload_n 0, 1) := by decide +kernel
theorem dX3_addCode_30 : decode cX3_addCode 30 = .ok (.dup, 1) := by decide +kernel
theorem dX3_addCode_31 : decode cX3_addCode 31 = .ok (.getfield 183, 3) := by decide +kernel
theorem dX3_addCode_34 : decode cX3_addCode 34 = .ok (.iconst 1, 1) := by decide +kernel
theorem dX3_addCode_35 : decode cX3_addCode 35 = .ok (.iadd, 1) := by decide +kernel
theorem dX3_addCode_36 : decode cX3_addCode 36 = .ok (.putfield 183, 3) := by decide +kernel
theorem dX3_addCode_39 : decode cX3_addCode 39 = .ok (.return_, 1) := by decide +kernel
theorem dX3_readBuffer_0 : decode cX3_readBuffer 0 = .ok (.aload_n 0, 1) := by decide +kernel
theorem dX3_readBuffer_1 : decode cX3_readBuffer 1 = .ok (.getfield 41, 3) := by decide +kernel
theorem dX3_readBuffer_4 : decode cX3_readBuffer 4 = .ok (.invokevirtual 307, 3) := by decide +kernel
theorem dX3_readBuffer_7 : decode cX3_readBuffer 7 = .ok (.iconst 0, 1) := by decide +kernel
theorem dX3_readBuffer_8 : decode cX3_readBuffer 8 = .ok (.istore_n 1, 1) := by decide +kernel
theorem dX3_readBuffer_9 : decode cX3_readBuffer 9 = .ok (.iload_n 1, 1) := by decide +kernel
theorem dX3_readBuffer_10 : decode cX3_readBuffer 10 = .ok (.aload_n 0, 1) := by decide +kernel
theorem dX3_readBuffer_11 : decode cX3_readBuffer 11 = .ok (.getfield 183, 3) := by decide +kernel
theorem dX3_readBuffer_14 : decode cX3_readBuffer 14 = .ok (.if_icmp .ge 36, 3) := by decide +kernel
theorem dX3_readBuffer_17 : decode cX3_readBuffer 17 = .ok (.iload_n 1, 1) := by decide +kernel
theorem dX3_readBuffer_18 : decode cX3_readBuffer 18 = .ok (.aload_n 0, 1) := by decide +kernel
theorem dX3_readBuffer_19 : decode cX3_readBuffer 19 = .ok (.getfield 34, 3) := by decide +kernel
theorem dX3_readBuffer_22 : decode cX3_readBuffer 22 = .ok (.arraylength, 1) := by decide +kernel
theorem dX3_readBuffer_23 : decode cX3_readBuffer 23 = .ok (.if_icmp .ge 27, 3) := by decide +kernel
theorem dX3_readBuffer_26 : decode cX3_readBuffer 26 = .ok (.aload_n 0, 1) := by decide +kernel
theorem dX3_readBuffer_27 : decode cX3_readBuffer 27 = .ok (.getfield 41, 3) := by decide +kernel
theorem dX3_readBuffer_30 : decode cX3_readBuffer 30 = .ok (.aload_n 0, 1) := by decide +kernel
theorem dX3_readBuffer_31 : decode cX3_readBuffer 31 = .ok (.getfield 34, 3) := by decide +kernel
theorem dX3_readBuffer_34 : decode cX3_readBuffer 34 = .ok (.iload_n 1, 1) := by decide +kernel
theorem dX3_readBuffer_35 : decode cX3_readBuffer 35 = .ok (.iaload, 1) := by decide +kernel
theorem dX3_readBuffer_36 : decode cX3_readBuffer 36 = .ok (.invokevirtual 310, 3) := by decide +kernel
theorem dX3_readBuffer_39 : decode cX3_readBuffer 39 = .ok (.ifCond .ne 5, 3) := by decide +kernel
theorem dX3_readBuffer_42 : decode cX3_readBuffer 42 = .ok (.iload_n 1, 1) := by decide +kernel
theorem dX3_readBuffer_43 : decode cX3_readBuffer 43 = .ok (.ireturn, 1) := by decide +kernel
theorem dX3_readBuffer_44 : decode cX3_readBuffer 44 = .ok (.iinc 1 1, 3) := by decide +kernel
theorem dX3_readBuffer_47 : decode cX3_readBuffer 47 = .ok (.goto (-38), 3) := by decide +kernel
theorem dX3_readBuffer_50 : decode cX3_readBuffer 50 = .ok (.aload_n 0, 1) := by decide +kernel
theorem dX3_readBuffer_51 : decode cX3_readBuffer 51 = .ok (.getfield 183, 3) := by decide +kernel
theorem dX3_readBuffer_54 : decode cX3_readBuffer 54 = .ok (.ireturn, 1) := by decide +kernel
theorem dX3_putPoem_0 : decode cX3_putPoem 0 = .ok (.iconst 0, 1) := by decide +kernel
theorem dX3_putPoem_1 : decode cX3_putPoem 1 = .ok (.istore_n 2, 1) := by decide +kernel
theorem dX3_putPoem_2 : decode cX3_putPoem 2 = .ok (.iload_n 2, 1) := by decide +kernel
theorem dX3_putPoem_3 : decode cX3_putPoem 3 = .ok (.aload_n 0, 1) := by decide +kernel
theorem dX3_putPoem_4 : decode cX3_putPoem 4 = .ok (.getfield 41, 3) := by decide +kernel
theorem dX3_putPoem_7 : decode cX3_putPoem 7 = .ok (.getfield 313, 3) := by decide +kernel
theorem dX3_putPoem_10 : decode cX3_putPoem 10 = .ok (.if_icmp .ge 84, 3) := by decide +kernel
theorem dX3_putPoem_13 : decode cX3_putPoem 13 = .ok (.aload_n 0, 1) := by decide +kernel
theorem dX3_putPoem_14 : decode cX3_putPoem 14 = .ok (.getfield 41, 3) := by decide +kernel
theorem dX3_putPoem_17 : decode cX3_putPoem 17 = .ok (.iload_n 2, 1) := by decide +kernel
theorem dX3_putPoem_18 : decode cX3_putPoem 18 = .ok (.invokevirtual 316, 3) := by decide +kernel
theorem dX3_putPoem_21 : decode cX3_putPoem 21 = .ok (.istore_n 3, 1) := by decide +kernel
theorem dX3_putPoem_22 : decode cX3_putPoem 22 = .ok (.iload_n 1, 1) := by decide +kernel
theorem dX3_putPoem_23 : decode cX3_putPoem 23 = .ok (.aload_n 0, 1) := by decide +kernel
theorem dX3_putPoem_24 : decode cX3_putPoem 24 = .ok (.getfield 41, 3) := by decide +kernel
theorem dX3_putPoem_27 : decode cX3_putPoem 27 = .ok (.iload_n 2, 1) := by decide +kernel
theorem dX3_putPoem_28 : decode cX3_putPoem 28 = .ok (.invokevirtual 319, 3) := by decide +kernel
theorem dX3_putPoem_31 : decode cX3_putPoem 31 = .ok (.invokestatic 72, 3) := by decide +kernel
theorem dX3_putPoem_34 : decode cX3_putPoem 34 = .ok (.istore 4, 2) := by decide +kernel
theorem dX3_putPoem_36 : decode cX3_putPoem 36 = .ok (.aload_n 0, 1) := by decide +kernel
theorem dX3_putPoem_37 : decode cX3_putPoem 37 = .ok (.getfield 10, 3) := by decide +kernel
theorem dX3_putPoem_40 : decode cX3_putPoem 40 = .ok (.iload 4, 2) := by decide +kernel
theorem dX3_putPoem_42 : decode cX3_putPoem 42 = .ok (.invokevirtual 114, 3) := by decide +kernel
theorem dX3_putPoem_45 : decode cX3_putPoem 45 = .ok (.istore 5, 2) := by decide +kernel
theorem dX3_putPoem_47 : decode cX3_putPoem 47 = .ok (.aload_n 0, 1) := by decide +kernel
theorem dX3_putPoem_48 : decode cX3_putPoem 48 = .ok (.getfield 10, 3) := by decide +kernel
theorem dX3_putPoem_51 : decode cX3_putPoem 51 = .ok (.iload_n 3, 1) := by decide +kernel
theorem dX3_putPoem_52 : decode cX3_putPoem 52 = .ok (.invokevirtual 60, 3) := by decide +kernel
theorem dX3_putPoem_55 : decode cX3_putPoem 55 = .ok (.ifCond .eq 39, 3) := by decide +kernel
theorem dX3_putPoem_58 : decode cX3_putPoem 58 = .ok (.aload_n 0, 1) := by decide +kernel
theorem dX3_putPoem_59 : decode cX3_putPoem 59 = .ok (.getfield 10, 3) := by decide +kernel
theorem dX3_putPoem_62 : decode cX3_putPoem 62 = .ok (.iload_n 3, 1) := by decide +kernel
theorem dX3_putPoem_63 : decode cX3_putPoem 63 = .ok (.iload 4, 2) := by decide +kernel
theorem dX3_putPoem_65 : decode cX3_putPoem 65 = .ok (.iload 5, 2) := by decide +kernel
theorem dX3_putPoem_67 : decode cX3_putPoem 67 = .ok (.invokevirtual 76, 3) := by decide +kernel
theorem dX3_putPoem_70 : decode cX3_putPoem 70 = .ok (.ifCond .eq 6, 3) := by decide +kernel
theorem dX3_putPoem_73 : decode cX3_putPoem 73 = .ok (.goto 21, 3) := by decide +kernel
theorem dX3_putPoem_76 : decode cX3_putPoem 76 = .ok (.aload_n 0, 1) := by decide +kernel
theorem dX3_putPoem_77 : decode cX3_putPoem 77 = .ok (.getfield 10, 3) := by decide +kernel
theorem dX3_putPoem_80 : decode cX3_putPoem 80 = .ok (.iload_n 3, 1) := by decide +kernel
theorem dX3_putPoem_81 : decode cX3_putPoem 81 = .ok (.iload 4, 2) := by decide +kernel
theorem dX3_putPoem_83 : decode cX3_putPoem 83 = .ok (.iload 5, 2) := by decide +kernel
theorem dX3_putPoem_85 : decode cX3_putPoem 85 = .ok (.invokevirtual 84, 3) := by decide +kernel
theorem dX3_putPoem_88 : decode cX3_putPoem 88 = .ok (.iinc 2 1, 3) := by decide +kernel
theorem dX3_putPoem_91 : decode cX3_putPoem 91 = .ok (.goto (-89), 3) := by decide +kernel
theorem dX3_putPoem_94 : decode cX3_putPoem 94 = .ok (.aload_n 0, 1) := by decide +kernel
theorem dX3_putPoem_95 : decode cX3_putPoem 95 = .ok (.getfield 10, 3) := by decide +kernel
theorem dX3_putPoem_98 : decode cX3_putPoem 98 = .ok (.dup, 1) := by decide +kernel
theorem dX3_putPoem_99 : decode cX3_putPoem 99 = .ok (.getfield 88, 3) := by decide +kernel
theorem dX3_putPoem_102 : decode cX3_putPoem 102 = .ok (.iload_n 2, 1) := by decide +kernel
theorem dX3_putPoem_103 : decode cX3_putPoem 103 = .ok (.iadd, 1) := by decide +kernel
theorem dX3_putPoem_104 : decode cX3_putPoem 104 = .ok (.putfield 88, 3) := by decide +kernel
theorem dX3_putPoem_107 : decode cX3_putPoem 107 = .ok (.iload_n 2, 1) := by decide +kernel
theorem dX3_putPoem_108 : decode cX3_putPoem 108 = .ok (.ireturn, 1) := by decide +kernel
theorem dX3_textLength_0 : decode cX3_textLength 0 = .ok (.iconst 0, 1) := by decide +kernel
theorem dX3_textLength_1 : decode cX3_textLength 1 = .ok (.istore_n 2, 1) := by decide +kernel
theorem dX3_textLength_2 : decode cX3_textLength 2 = .ok (.iconst 0, 1) := by decide +kernel
theorem dX3_textLength_3 : decode cX3_textLength 3 = .ok (.istore_n 3, 1) := by decide +kernel
theorem dX3_textLength_4 : decode cX3_textLength 4 = .ok (.iload_n 3, 1) := by decide +kernel
theorem dX3_textLength_5 : decode cX3_textLength 5 = .ok (.iconst 4, 1) := by decide +kernel
theorem dX3_textLength_6 : decode cX3_textLength 6 = .ok (.if_icmp .ge 77, 3) := by decide +kernel
theorem dX3_textLength_9 : decode cX3_textLength 9 = .ok (.iload_n 1, 1) := by decide +kernel
theorem dX3_textLength_10 : decode cX3_textLength 10 = .ok (.iload_n 3, 1) := by decide +kernel
theorem dX3_textLength_11 : decode cX3_textLength 11 = .ok (.invokestatic 72, 3) := by decide +kernel
theorem dX3_textLength_14 : decode cX3_textLength 14 = .ok (.istore 4, 2) := by decide +kernel
theorem dX3_textLength_16 : decode cX3_textLength 16 = .ok (.iconst 0, 1) := by decide +kernel
theorem dX3_textLength_17 : decode cX3_textLength 17 = .ok (.istore 5, 2) := by decide +kernel
theorem dX3_textLength_19 : decode cX3_textLength 19 = .ok (.iload 5, 2) := by decide +kernel
theorem dX3_textLength_21 : decode cX3_textLength 21 = .ok (.aload_n 0, 1) := by decide +kernel
theorem dX3_textLength_22 : decode cX3_textLength 22 = .ok (.getfield 10, 3) := by decide +kernel
theorem dX3_textLength_25 : decode cX3_textLength 25 = .ok (.iload 4, 2) := by decide +kernel
theorem dX3_textLength_27 : decode cX3_textLength 27 = .ok (.invokevirtual 114, 3) := by decide +kernel
theorem dX3_textLength_30 : decode cX3_textLength 30 = .ok (.if_icmp .ge 47, 3) := by decide +kernel
theorem dX3_textLength_33 : decode cX3_textLength 33 = .ok (.iload_n 2, 1) := by decide +kernel
theorem dX3_textLength_34 : decode cX3_textLength 34 = .ok (.ifCond .ne 7, 3) := by decide +kernel
theorem dX3_textLength_37 : decode cX3_textLength 37 = .ok (.iconst 0, 1) := by decide +kernel
theorem dX3_textLength_38 : decode cX3_textLength 38 = .ok (.goto 4, 3) := by decide +kernel
theorem dX3_textLength_41 : decode cX3_textLength 41 = .ok (.iconst 1, 1) := by decide +kernel
theorem dX3_textLength_42 : decode cX3_textLength 42 = .ok (.istore 6, 2) := by decide +kernel
theorem dX3_textLength_44 : decode cX3_textLength 44 = .ok (.iload_n 2, 1) := by decide +kernel
theorem dX3_textLength_45 : decode cX3_textLength 45 = .ok (.iload 6, 2) := by decide +kernel
theorem dX3_textLength_47 : decode cX3_textLength 47 = .ok (.aload_n 0, 1) := by decide +kernel
theorem dX3_textLength_48 : decode cX3_textLength 48 = .ok (.getfield 10, 3) := by decide +kernel
theorem dX3_textLength_51 : decode cX3_textLength 51 = .ok (.iload 4, 2) := by decide +kernel
theorem dX3_textLength_53 : decode cX3_textLength 53 = .ok (.iload 5, 2) := by decide +kernel
theorem dX3_textLength_55 : decode cX3_textLength 55 = .ok (.invokevirtual 238, 3) := by decide +kernel
theorem dX3_textLength_58 : decode cX3_textLength 58 = .ok (.bipush 10, 2) := by decide +kernel
theorem dX3_textLength_60 : decode cX3_textLength 60 = .ok (.if_icmp .ge 7, 3) := by decide +kernel
theorem dX3_textLength_63 : decode cX3_textLength 63 = .ok (.iconst 1, 1) := by decide +kernel
theorem dX3_textLength_64 : decode cX3_textLength 64 = .ok (.goto 4, 3) := by decide +kernel
theorem dX3_textLength_67 : decode cX3_textLength 67 = .ok (.iconst 2, 1) := by decide +kernel
theorem dX3_textLength_68 : decode cX3_textLength 68 = .ok (.iadd, 1) := by decide +kernel
theorem dX3_textLength_69 : decode cX3_textLength 69 = .ok (.iadd, 1) := by decide +kernel
theorem dX3_textLength_70 : decode cX3_textLength 70 = .ok (.istore_n 2, 1) := by decide +kernel
theorem dX3_textLength_71 : decode cX3_textLength 71 = .ok (.iinc 5 1, 3) := by decide +kernel
theorem dX3_textLength_74 : decode cX3_textLength 74 = .ok (.goto (-55), 3) := by decide +kernel
theorem dX3_textLength_77 : decode cX3_textLength 77 = .ok (.iinc 3 1, 3) := by decide +kernel
theorem dX3_textLength_80 : decode cX3_textLength 80 = .ok (.goto (-76), 3) := by decide +kernel
theorem dX3_textLength_83 : decode cX3_textLength 83 = .ok (.iload_n 2, 1) := by decide +kernel
theorem dX3_textLength_84 : decode cX3_textLength 84 = .ok (.ireturn, 1) := by decide +kernel
theorem dX3_addLine_0 : decode cX3_addLine 0 = .ok (.iconst 0, 1) := by decide +kernel
theorem dX3_addLine_1 : decode cX3_addLine 1 = .ok (.istore_n 2, 1) := by decide +kernel
theorem dX3_addLine_2 : decode cX3_addLine 2 = .ok (.iload_n 2, 1) := by decide +kernel
theorem dX3_addLine_3 : decode cX3_addLine 3 = .ok (.aload_n 0, 1) := by decide +kernel
theorem dX3_addLine_4 : decode cX3_addLine 4 = .ok (.getfield 10, 3) := by decide +kernel
theorem dX3_addLine_7 : decode cX3_addLine 7 = .ok (.iload_n 1, 1) := by decide +kernel
theorem dX3_addLine_8 : decode cX3_addLine 8 = .ok (.invokevirtual 114, 3) := by decide +kernel
theorem dX3_addLine_11 : decode cX3_addLine 11 = .ok (.if_icmp .ge 48, 3) := by decide +kernel
theorem dX3_addLine_14 : decode cX3_addLine 14 = .ok (.iload_n 2, 1) := by decide +kernel
theorem dX3_addLine_15 : decode cX3_addLine 15 = .ok (.ifCond .le 12, 3) := by decide +kernel
theorem dX3_addLine_18 : decode cX3_addLine 18 = .ok (.aload_n 0, 1) := by decide +kernel
theorem dX3_addLine_19 : decode cX3_addLine 19 = .ok (.bipush 44, 2) := by decide +kernel
theorem dX3_addLine_21 : decode cX3_addLine 21 = .ok (.invokevirtual 188, 3) := by decide +kernel
theorem dX3_addLine_24 : decode cX3_addLine 24 = .ok (.goto 16, 3) := by decide +kernel
theorem dX3_addLine_27 : decode cX3_addLine 27 = .ok (.aload_n 0, 1) := by decide +kernel
theorem dX3_addLine_28 : decode cX3_addLine 28 = .ok (.getfield 183, 3) := by decide +kernel
theorem dX3_addLine_31 : decode cX3_addLine 31 = .ok (.ifCond .le 9, 3) := by decide +kernel
theorem dX3_addLine_34 : decode cX3_addLine 34 = .ok (.aload_n 0, 1) := by decide +kernel
theorem dX3_addLine_35 : decode cX3_addLine 35 = .ok (.bipush 47, 2) := by decide +kernel
theorem dX3_addLine_37 : decode cX3_addLine 37 = .ok (.invokevirtual 188, 3) := by decide +kernel
theorem dX3_addLine_40 : decode cX3_addLine 40 = .ok (.aload_n 0, 1) := by decide +kernel
theorem dX3_addLine_41 : decode cX3_addLine 41 = .ok (.aload_n 0, 1) := by decide +kernel
theorem dX3_addLine_42 : decode cX3_addLine 42 = .ok (.getfield 10, 3) := by decide +kernel
theorem dX3_addLine_45 : decode cX3_addLine 45 = .ok (.iload_n 1, 1) := by decide +kernel
theorem dX3_addLine_46 : decode cX3_addLine 46 = .ok (.iload_n 2, 1) := by decide +kernel
theorem dX3_addLine_47 : decode cX3_addLine 47 = .ok (.invokevirtual 238, 3) := by decide +kernel
theorem dX3_addLine_50 : decode cX3_addLine 50 = .ok (.invokevirtual 322, 3) := by decide +kernel
theorem dX3_addLine_53 : decode cX3_addLine 53 = .ok (.iinc 2 1, 3) := by decide +kernel
theorem dX3_addLine_56 : decode cX3_addLine 56 = .ok (.goto (-54), 3) := by decide +kernel
theorem dX3_addLine_59 : decode cX3_addLine 59 = .ok (.return_, 1) := by decide +kernel
theorem dX3_addNumber_0 : decode cX3_addNumber 0 = .ok (.iload_n 1, 1) := by decide +kernel
theorem dX3_addNumber_1 : decode cX3_addNumber 1 = .ok (.bipush 10, 2) := by decide +kernel
theorem dX3_addNumber_3 : decode cX3_addNumber 3 = .ok (.if_icmp .lt 14, 3) := by decide +kernel
theorem dX3_addNumber_6 : decode cX3_addNumber 6 = .ok (.aload_n 0, 1) := by decide +kernel
theorem dX3_addNumber_7 : decode cX3_addNumber 7 = .ok (.bipush 48, 2) := by decide +kernel
theorem dX3_addNumber_9 : decode cX3_addNumber 9 = .ok (.iload_n 1, 1) := by decide +kernel
theorem dX3_addNumber_10 : decode cX3_addNumber 10 = .ok (.bipush 10, 2) := by decide +kernel
theorem dX3_addNumber_12 : decode cX3_addNumber 12 = .ok (.idiv, 1) := by decide +kernel
theorem dX3_addNumber_13 : decode cX3_addNumber 13 = .ok (.iadd, 1) := by decide +kernel
theorem dX3_addNumber_14 : decode cX3_addNumber 14 = .ok (.invokevirtual 188, 3) := by decide +kernel
theorem dX3_addNumber_17 : decode cX3_addNumber 17 = .ok (.aload_n 0, 1) := by decide +kernel
theorem dX3_addNumber_18 : decode cX3_addNumber 18 = .ok (.bipush 48, 2) := by decide +kernel
theorem dX3_addNumber_20 : decode cX3_addNumber 20 = .ok (.iload_n 1, 1) := by decide +kernel
theorem dX3_addNumber_21 : decode cX3_addNumber 21 = .ok (.bipush 10, 2) := by decide +kernel
theorem dX3_addNumber_23 : decode cX3_addNumber 23 = .ok (.irem, 1) := by decide +kernel
theorem dX3_addNumber_24 : decode cX3_addNumber 24 = .ok (.iadd, 1) := by decide +kernel
theorem dX3_addNumber_25 : decode cX3_addNumber 25 = .ok (.invokevirtual 188, 3) := by decide +kernel
theorem dX3_addNumber_28 : decode cX3_addNumber 28 = .ok (.return_, 1) := by decide +kernel
theorem dX3_isWord_0 : decode cX3_isWord 0 = .ok (.iload_n 0, 1) := by decide +kernel
theorem dX3_isWord_1 : decode cX3_isWord 1 = .ok (.ifCond .lt 13, 3) := by decide +kernel
theorem dX3_isWord_4 : decode cX3_isWord 4 = .ok (.iload_n 0, 1) := by decide +kernel
theorem dX3_isWord_5 : decode cX3_isWord 5 = .ok (.bipush 40, 2) := by decide +kernel
theorem dX3_isWord_7 : decode cX3_isWord 7 = .ok (.if_icmp .ge 7, 3) := by decide +kernel
theorem dX3_isWord_10 : decode cX3_isWord 10 = .ok (.iconst 1, 1) := by decide +kernel
theorem dX3_isWord_11 : decode cX3_isWord 11 = .ok (.goto 4, 3) := by decide +kernel
theorem dX3_isWord_14 : decode cX3_isWord 14 = .ok (.iconst 0, 1) := by decide +kernel
theorem dX3_isWord_15 : decode cX3_isWord 15 = .ok (.ireturn, 1) := by decide +kernel
theorem dX3_isDoor_0 : decode cX3_isDoor 0 = .ok (.iload_n 0, 1) := by decide +kernel
theorem dX3_isDoor_1 : decode cX3_isDoor 1 = .ok (.ifCond .lt 12, 3) := by decide +kernel
theorem dX3_isDoor_4 : decode cX3_isDoor 4 = .ok (.iload_n 0, 1) := by decide +kernel
theorem dX3_isDoor_5 : decode cX3_isDoor 5 = .ok (.iconst 4, 1) := by decide +kernel
theorem dX3_isDoor_6 : decode cX3_isDoor 6 = .ok (.if_icmp .ge 7, 3) := by decide +kernel
theorem dX3_isDoor_9 : decode cX3_isDoor 9 = .ok (.iconst 1, 1) := by decide +kernel
theorem dX3_isDoor_10 : decode cX3_isDoor 10 = .ok (.goto 4, 3) := by decide +kernel
theorem dX3_isDoor_13 : decode cX3_isDoor 13 = .ok (.iconst 0, 1) := by decide +kernel
theorem dX3_isDoor_14 : decode cX3_isDoor 14 = .ok (.ireturn, 1) := by decide +kernel
theorem dX3_isLine_0 : decode cX3_isLine 0 = .ok (.iload_n 0, 1) := by decide +kernel
theorem dX3_isLine_1 : decode cX3_isLine 1 = .ok (.invokestatic 117, 3) := by decide +kernel
theorem dX3_isLine_4 : decode cX3_isLine 4 = .ok (.ifCond .eq 16, 3) := by decide +kernel
theorem dX3_isLine_7 : decode cX3_isLine 7 = .ok (.iload_n 1, 1) := by decide +kernel
theorem dX3_isLine_8 : decode cX3_isLine 8 = .ok (.ifCond .lt 12, 3) := by decide +kernel
theorem dX3_isLine_11 : decode cX3_isLine 11 = .ok (.iload_n 1, 1) := by decide +kernel
theorem dX3_isLine_12 : decode cX3_isLine 12 = .ok (.iconst 4, 1) := by decide +kernel
theorem dX3_isLine_13 : decode cX3_isLine 13 = .ok (.if_icmp .ge 7, 3) := by decide +kernel
theorem dX3_isLine_16 : decode cX3_isLine 16 = .ok (.iconst 1, 1) := by decide +kernel
theorem dX3_isLine_17 : decode cX3_isLine 17 = .ok (.goto 4, 3) := by decide +kernel
theorem dX3_isLine_20 : decode cX3_isLine 20 = .ok (.iconst 0, 1) := by decide +kernel
theorem dX3_isLine_21 : decode cX3_isLine 21 = .ok (.ireturn, 1) := by decide +kernel
theorem dX3_isPlaceToPut_0 : decode cX3_isPlaceToPut 0 = .ok (.iload_n 1, 1) := by decide +kernel
theorem dX3_isPlaceToPut_1 : decode cX3_isPlaceToPut 1 = .ok (.iload_n 2, 1) := by decide +kernel
theorem dX3_isPlaceToPut_2 : decode cX3_isPlaceToPut 2 = .ok (.invokestatic 106, 3) := by decide +kernel
theorem dX3_isPlaceToPut_5 : decode cX3_isPlaceToPut 5 = .ok (.ifCond .eq 27, 3) := by decide +kernel
theorem dX3_isPlaceToPut_8 : decode cX3_isPlaceToPut 8 = .ok (.iload_n 3, 1) := by decide +kernel
theorem dX3_isPlaceToPut_9 : decode cX3_isPlaceToPut 9 = .ok (.ifCond .lt 23, 3) := by decide +kernel
theorem dX3_isPlaceToPut_12 : decode cX3_isPlaceToPut 12 = .ok (.iload_n 3, 1) := by decide +kernel
theorem dX3_isPlaceToPut_13 : decode cX3_isPlaceToPut 13 = .ok (.aload_n 0, 1) := by decide +kernel
theorem dX3_isPlaceToPut_14 : decode cX3_isPlaceToPut 14 = .ok (.getfield 10, 3) := by decide +kernel
theorem dX3_isPlaceToPut_17 : decode cX3_isPlaceToPut 17 = .ok (.iload_n 1, 1) := by decide +kernel
theorem dX3_isPlaceToPut_18 : decode cX3_isPlaceToPut 18 = .ok (.iload_n 2, 1) := by decide +kernel
theorem dX3_isPlaceToPut_19 : decode cX3_isPlaceToPut 19 = .ok (.invokestatic 72, 3) := by decide +kernel
theorem dX3_isPlaceToPut_22 : decode cX3_isPlaceToPut 22 = .ok (.invokevirtual 114, 3) := by decide +kernel
theorem dX3_isPlaceToPut_25 : decode cX3_isPlaceToPut 25 = .ok (.if_icmp .gt 7, 3) := by decide +kernel
theorem dX3_isPlaceToPut_28 : decode cX3_isPlaceToPut 28 = .ok (.iconst 1, 1) := by decide +kernel
theorem dX3_isPlaceToPut_29 : decode cX3_isPlaceToPut 29 = .ok (.goto 4, 3) := by decide +kernel
theorem dX3_isPlaceToPut_32 : decode cX3_isPlaceToPut 32 = .ok (.iconst 0, 1) := by decide +kernel
theorem dX3_isPlaceToPut_33 : decode cX3_isPlaceToPut 33 = .ok (.ireturn, 1) := by decide +kernel
theorem dX3_isNights_0 : decode cX3_isNights 0 = .ok (.iload_n 0, 1) := by decide +kernel
theorem dX3_isNights_1 : decode cX3_isNights 1 = .ok (.iconst 1, 1) := by decide +kernel
theorem dX3_isNights_2 : decode cX3_isNights 2 = .ok (.if_icmp .lt 13, 3) := by decide +kernel
theorem dX3_isNights_5 : decode cX3_isNights 5 = .ok (.iload_n 0, 1) := by decide +kernel
theorem dX3_isNights_6 : decode cX3_isNights 6 = .ok (.bipush 20, 2) := by decide +kernel
theorem dX3_isNights_8 : decode cX3_isNights 8 = .ok (.if_icmp .gt 7, 3) := by decide +kernel
theorem dX3_isNights_11 : decode cX3_isNights 11 = .ok (.iconst 1, 1) := by decide +kernel
theorem dX3_isNights_12 : decode cX3_isNights 12 = .ok (.goto 4, 3) := by decide +kernel
theorem dX3_isNights_15 : decode cX3_isNights 15 = .ok (.iconst 0, 1) := by decide +kernel
theorem dX3_isNights_16 : decode cX3_isNights 16 = .ok (.ireturn, 1) := by decide +kernel
theorem dX3_isSetting_0 : decode cX3_isSetting 0 = .ok (.iload_n 0, 1) := by decide +kernel
theorem dX3_isSetting_1 : decode cX3_isSetting 1 = .ok (.ifCond .lt 12, 3) := by decide +kernel
theorem dX3_isSetting_4 : decode cX3_isSetting 4 = .ok (.iload_n 0, 1) := by decide +kernel
theorem dX3_isSetting_5 : decode cX3_isSetting 5 = .ok (.iconst 3, 1) := by decide +kernel
theorem dX3_isSetting_6 : decode cX3_isSetting 6 = .ok (.if_icmp .ge 7, 3) := by decide +kernel
theorem dX3_isSetting_9 : decode cX3_isSetting 9 = .ok (.iconst 1, 1) := by decide +kernel
theorem dX3_isSetting_10 : decode cX3_isSetting 10 = .ok (.goto 4, 3) := by decide +kernel
theorem dX3_isSetting_13 : decode cX3_isSetting 13 = .ok (.iconst 0, 1) := by decide +kernel
theorem dX3_isSetting_14 : decode cX3_isSetting 14 = .ok (.ireturn, 1) := by decide +kernel
theorem dX3_isSlot_0 : decode cX3_isSlot 0 = .ok (.iload_n 0, 1) := by decide +kernel
theorem dX3_isSlot_1 : decode cX3_isSlot 1 = .ok (.ifCond .lt 12, 3) := by decide +kernel
theorem dX3_isSlot_4 : decode cX3_isSlot 4 = .ok (.iload_n 0, 1) := by decide +kernel
theorem dX3_isSlot_5 : decode cX3_isSlot 5 = .ok (.iconst 2, 1) := by decide +kernel
theorem dX3_isSlot_6 : decode cX3_isSlot 6 = .ok (.if_icmp .ge 7, 3) := by decide +kernel
theorem dX3_isSlot_9 : decode cX3_isSlot 9 = .ok (.iconst 1, 1) := by decide +kernel
theorem dX3_isSlot_10 : decode cX3_isSlot 10 = .ok (.goto 4, 3) := by decide +kernel
theorem dX3_isSlot_13 : decode cX3_isSlot 13 = .ok (.iconst 0, 1) := by decide +kernel
theorem dX3_isSlot_14 : decode cX3_isSlot 14 = .ok (.ireturn, 1) := by decide +kernel
theorem dX3_greatestOf_0 : decode cX3_greatestOf 0 = .ok (.iload_n 0, 1) := by decide +kernel
theorem dX3_greatestOf_1 : decode cX3_greatestOf 1 = .ok (.lookupswitch 33 #[(0, 27), (1, 29)], 27) := by decide +kernel
theorem dX3_greatestOf_28 : decode cX3_greatestOf 28 = .ok (.iconst 1, 1) := by decide +kernel
theorem dX3_greatestOf_29 : decode cX3_greatestOf 29 = .ok (.ireturn, 1) := by decide +kernel
theorem dX3_greatestOf_30 : decode cX3_greatestOf 30 = .ok (.sipush 200, 3) := by decide +kernel
theorem dX3_greatestOf_33 : decode cX3_greatestOf 33 = .ok (.ireturn, 1) := by decide +kernel
theorem dX3_greatestOf_34 : decode cX3_greatestOf 34 = .ok (.bipush 9, 2) := by decide +kernel
theorem dX3_greatestOf_36 : decode cX3_greatestOf 36 = .ok (.ireturn, 1) := by decide +kernel
theorem dX3_kindOf_0 : decode cX3_kindOf 0 = .ok (.iload_n 0, 1) := by decide +kernel
theorem dX3_kindOf_1 : decode cX3_kindOf 1 = .ok (.iconst 4, 1) := by decide +kernel
theorem dX3_kindOf_2 : decode cX3_kindOf 2 = .ok (.irem, 1) := by decide +kernel
theorem dX3_kindOf_3 : decode cX3_kindOf 3 = .ok (.ireturn, 1) := by decide +kernel
theorem dX3_endingOf_0 : decode cX3_endingOf 0 = .ok (.iload_n 0, 1) := by decide +kernel
theorem dX3_endingOf_1 : decode cX3_endingOf 1 = .ok (.iconst 4, 1) := by decide +kernel
theorem dX3_endingOf_2 : decode cX3_endingOf 2 = .ok (.idiv, 1) := by decide +kernel
theorem dX3_endingOf_3 : decode cX3_endingOf 3 = .ok (.iconst 5, 1) := by decide +kernel
theorem dX3_endingOf_4 : decode cX3_endingOf 4 = .ok (.irem, 1) := by decide +kernel
theorem dX3_endingOf_5 : decode cX3_endingOf 5 = .ok (.ireturn, 1) := by decide +kernel
theorem dX3_beatsOf_0 : decode cX3_beatsOf 0 = .ok (.iload_n 0, 1) := by decide +kernel
theorem dX3_beatsOf_1 : decode cX3_beatsOf 1 = .ok (.iconst 3, 1) := by decide +kernel
theorem dX3_beatsOf_2 : decode cX3_beatsOf 2 = .ok (.irem, 1) := by decide +kernel
theorem dX3_beatsOf_3 : decode cX3_beatsOf 3 = .ok (.iconst 1, 1) := by decide +kernel
theorem dX3_beatsOf_4 : decode cX3_beatsOf 4 = .ok (.iadd, 1) := by decide +kernel
theorem dX3_beatsOf_5 : decode cX3_beatsOf 5 = .ok (.ireturn, 1) := by decide +kernel
theorem dX3_clash_0 : decode cX3_clash 0 = .ok (.iload_n 0, 1) := by decide +kernel
theorem dX3_clash_1 : decode cX3_clash 1 = .ok (.invokestatic 325, 3) := by decide +kernel
theorem dX3_clash_4 : decode cX3_clash 4 = .ok (.iload_n 1, 1) := by decide +kernel
theorem dX3_clash_5 : decode cX3_clash 5 = .ok (.invokestatic 325, 3) := by decide +kernel
theorem dX3_clash_8 : decode cX3_clash 8 = .ok (.if_icmp .ne 15, 3) := by decide +kernel
theorem dX3_clash_11 : decode cX3_clash 11 = .ok (.iload_n 0, 1) := by decide +kernel
theorem dX3_clash_12 : decode cX3_clash 12 = .ok (.invokestatic 325, 3) := by decide +kernel
theorem dX3_clash_15 : decode cX3_clash 15 = .ok (.iconst 2, 1) := by decide +kernel
theorem dX3_clash_16 : decode cX3_clash 16 = .ok (.if_icmp .eq 7, 3) := by decide +kernel
theorem dX3_clash_19 : decode cX3_clash 19 = .ok (.iconst 1, 1) := by decide +kernel
theorem dX3_clash_20 : decode cX3_clash 20 = .ok (.goto 4, 3) := by decide +kernel
theorem dX3_clash_23 : decode cX3_clash 23 = .ok (.iconst 0, 1) := by decide +kernel
theorem dX3_clash_24 : decode cX3_clash 24 = .ok (.ireturn, 1) := by decide +kernel
theorem dX3_lineNumber_0 : decode cX3_lineNumber 0 = .ok (.iload_n 0, 1) := by decide +kernel
theorem dX3_lineNumber_1 : decode cX3_lineNumber 1 = .ok (.iconst 4, 1) := by decide +kernel
theorem dX3_lineNumber_2 : decode cX3_lineNumber 2 = .ok (.imul, 1) := by decide +kernel
theorem dX3_lineNumber_3 : decode cX3_lineNumber 3 = .ok (.iload_n 1, 1) := by decide +kernel
theorem dX3_lineNumber_4 : decode cX3_lineNumber 4 = .ok (.iadd, 1) := by decide +kernel
theorem dX3_lineNumber_5 : decode cX3_lineNumber 5 = .ok (.ireturn, 1) := by decide +kernel
theorem dX3_lineCode_0 : decode cX3_lineCode 0 = .ok (.iload_n 0, 1) := by decide +kernel
theorem dX3_lineCode_1 : decode cX3_lineCode 1 = .ok (.iconst (-1), 1) := by decide +kernel
theorem dX3_lineCode_2 : decode cX3_lineCode 2 = .ok (.if_icmp .ne 7, 3) := by decide +kernel
theorem dX3_lineCode_5 : decode cX3_lineCode 5 = .ok (.iconst (-1), 1) := by decide +kernel
theorem dX3_lineCode_6 : decode cX3_lineCode 6 = .ok (.goto 13, 3) := by decide +kernel
theorem dX3_lineCode_9 : decode cX3_lineCode 9 = .ok (.bipush 10, 2) := by decide +kernel
theorem dX3_lineCode_11 : decode cX3_lineCode 11 = .ok (.iload_n 0, 1) := by decide +kernel
theorem dX3_lineCode_12 : decode cX3_lineCode 12 = .ok (.iconst 4, 1) := by decide +kernel
theorem dX3_lineCode_13 : decode cX3_lineCode 13 = .ok (.idiv, 1) := by decide +kernel
theorem dX3_lineCode_14 : decode cX3_lineCode 14 = .ok (.imul, 1) := by decide +kernel
theorem dX3_lineCode_15 : decode cX3_lineCode 15 = .ok (.iload_n 0, 1) := by decide +kernel
theorem dX3_lineCode_16 : decode cX3_lineCode 16 = .ok (.iconst 4, 1) := by decide +kernel
theorem dX3_lineCode_17 : decode cX3_lineCode 17 = .ok (.irem, 1) := by decide +kernel
theorem dX3_lineCode_18 : decode cX3_lineCode 18 = .ok (.iadd, 1) := by decide +kernel
theorem dX3_lineCode_19 : decode cX3_lineCode 19 = .ok (.ireturn, 1) := by decide +kernel
theorem dX3_cell_0 : decode cX3_cell 0 = .ok (.iload_n 1, 1) := by decide +kernel
theorem dX3_cell_1 : decode cX3_cell 1 = .ok (.ifCond .lt 15, 3) := by decide +kernel
theorem dX3_cell_4 : decode cX3_cell 4 = .ok (.iload_n 1, 1) := by decide +kernel
theorem dX3_cell_5 : decode cX3_cell 5 = .ok (.aload_n 0, 1) := by decide +kernel
theorem dX3_cell_6 : decode cX3_cell 6 = .ok (.arraylength, 1) := by decide +kernel
theorem dX3_cell_7 : decode cX3_cell 7 = .ok (.if_icmp .ge 9, 3) := by decide +kernel
theorem dX3_cell_10 : decode cX3_cell 10 = .ok (.aload_n 0, 1) := by decide +kernel
theorem dX3_cell_11 : decode cX3_cell 11 = .ok (.iload_n 1, 1) := by decide +kernel
theorem dX3_cell_12 : decode cX3_cell 12 = .ok (.iaload, 1) := by decide +kernel
theorem dX3_cell_13 : decode cX3_cell 13 = .ok (.goto 4, 3) := by decide +kernel
theorem dX3_cell_16 : decode cX3_cell 16 = .ok (.iconst (-1), 1) := by decide +kernel
theorem dX3_cell_17 : decode cX3_cell 17 = .ok (.ireturn, 1) := by decide +kernel
theorem dX3_setCell_0 : decode cX3_setCell 0 = .ok (.iload_n 1, 1) := by decide +kernel
theorem dX3_setCell_1 : decode cX3_setCell 1 = .ok (.ifCond .lt 13, 3) := by decide +kernel
theorem dX3_setCell_4 : decode cX3_setCell 4 = .ok (.iload_n 1, 1) := by decide +kernel
theorem dX3_setCell_5 : decode cX3_setCell 5 = .ok (.aload_n 0, 1) := by decide +kernel
theorem dX3_setCell_6 : decode cX3_setCell 6 = .ok (.arraylength, 1) := by decide +kernel
theorem dX3_setCell_7 : decode cX3_setCell 7 = .ok (.if_icmp .ge 7, 3) := by decide +kernel
theorem dX3_setCell_10 : decode cX3_setCell 10 = .ok (.aload_n 0, 1) := by decide +kernel
theorem dX3_setCell_11 : decode cX3_setCell 11 = .ok (.iload_n 1, 1) := by decide +kernel
theorem dX3_setCell_12 : decode cX3_setCell 12 = .ok (.iload_n 2, 1) := by decide +kernel
theorem dX3_setCell_13 : decode cX3_setCell 13 = .ok (.iastore, 1) := by decide +kernel
theorem dX3_setCell_14 : decode cX3_setCell 14 = .ok (.return_, 1) := by decide +kernel
theorem dX3_copyRow_0 : decode cX3_copyRow 0 = .ok (.iconst 0, 1) := by decide +kernel
theorem dX3_copyRow_1 : decode cX3_copyRow 1 = .ok (.istore_n 2, 1) := by decide +kernel
theorem dX3_copyRow_2 : decode cX3_copyRow 2 = .ok (.iload_n 2, 1) := by decide +kernel
theorem dX3_copyRow_3 : decode cX3_copyRow 3 = .ok (.aload_n 0, 1) := by decide +kernel
theorem dX3_copyRow_4 : decode cX3_copyRow 4 = .ok (.arraylength, 1) := by decide +kernel
theorem dX3_copyRow_5 : decode cX3_copyRow 5 = .ok (.if_icmp .ge 21, 3) := by decide +kernel
theorem dX3_copyRow_8 : decode cX3_copyRow 8 = .ok (.iload_n 2, 1) := by decide +kernel
theorem dX3_copyRow_9 : decode cX3_copyRow 9 = .ok (.aload_n 1, 1) := by decide +kernel
theorem dX3_copyRow_10 : decode cX3_copyRow 10 = .ok (.arraylength, 1) := by decide +kernel
theorem dX3_copyRow_11 : decode cX3_copyRow 11 = .ok (.if_icmp .ge 15, 3) := by decide +kernel
theorem dX3_copyRow_14 : decode cX3_copyRow 14 = .ok (.aload_n 1, 1) := by decide +kernel
theorem dX3_copyRow_15 : decode cX3_copyRow 15 = .ok (.iload_n 2, 1) := by decide +kernel
theorem dX3_copyRow_16 : decode cX3_copyRow 16 = .ok (.aload_n 0, 1) := by decide +kernel
theorem dX3_copyRow_17 : decode cX3_copyRow 17 = .ok (.iload_n 2, 1) := by decide +kernel
theorem dX3_copyRow_18 : decode cX3_copyRow 18 = .ok (.iaload, 1) := by decide +kernel
theorem dX3_copyRow_19 : decode cX3_copyRow 19 = .ok (.iastore, 1) := by decide +kernel
theorem dX3_copyRow_20 : decode cX3_copyRow 20 = .ok (.iinc 2 1, 3) := by decide +kernel
theorem dX3_copyRow_23 : decode cX3_copyRow 23 = .ok (.goto (-21), 3) := by decide +kernel
theorem dX3_copyRow_26 : decode cX3_copyRow 26 = .ok (.return_, 1) := by decide +kernel
theorem dX3_fillRow_0 : decode cX3_fillRow 0 = .ok (.iconst 0, 1) := by decide +kernel
theorem dX3_fillRow_1 : decode cX3_fillRow 1 = .ok (.istore_n 2, 1) := by decide +kernel
theorem dX3_fillRow_2 : decode cX3_fillRow 2 = .ok (.iload_n 2, 1) := by decide +kernel
theorem dX3_fillRow_3 : decode cX3_fillRow 3 = .ok (.aload_n 0, 1) := by decide +kernel
theorem dX3_fillRow_4 : decode cX3_fillRow 4 = .ok (.arraylength, 1) := by decide +kernel
theorem dX3_fillRow_5 : decode cX3_fillRow 5 = .ok (.if_icmp .ge 13, 3) := by decide +kernel
theorem dX3_fillRow_8 : decode cX3_fillRow 8 = .ok (.aload_n 0, 1) := by decide +kernel
theorem dX3_fillRow_9 : decode cX3_fillRow 9 = .ok (.iload_n 2, 1) := by decide +kernel
theorem dX3_fillRow_10 : decode cX3_fillRow 10 = .ok (.iload_n 1, 1) := by decide +kernel
theorem dX3_fillRow_11 : decode cX3_fillRow 11 = .ok (.iastore, 1) := by decide +kernel
theorem dX3_fillRow_12 : decode cX3_fillRow 12 = .ok (.iinc 2 1, 3) := by decide +kernel
theorem dX3_fillRow_15 : decode cX3_fillRow 15 = .ok (.goto (-13), 3) := by decide +kernel
theorem dX3_fillRow_18 : decode cX3_fillRow 18 = .ok (.return_, 1) := by decide +kernel
theorem dX4_init_0 : decode cX4_init 0 = .ok (.aload_n 0, 1) := by decide +kernel
theorem dX4_init_1 : decode cX4_init 1 = .ok (.invokespecial 1, 3) := by decide +kernel
theorem dX4_init_4 : decode cX4_init 4 = .ok (.aload_n 0, 1) := by decide +kernel
theorem dX4_init_5 : decode cX4_init 5 = .ok (.sipush 182, 3) := by decide +kernel
theorem dX4_init_8 : decode cX4_init 8 = .ok (.newarray .int, 2) := by decide +kernel
theorem dX4_init_10 : decode cX4_init 10 = .ok (.putfield 7, 3) := by decide +kernel
theorem dX4_init_13 : decode cX4_init 13 = .ok (.aload_n 0, 1) := by decide +kernel
theorem dX4_init_14 : decode cX4_init 14 = .ok (.sipush 1092, 3) := by decide +kernel
theorem dX4_init_17 : decode cX4_init 17 = .ok (.newarray .int, 2) := by decide +kernel
theorem dX4_init_19 : decode cX4_init 19 = .ok (.putfield 13, 3) := by decide +kernel
theorem dX4_init_22 : decode cX4_init 22 = .ok (.aload_n 0, 1) := by decide +kernel
theorem dX4_init_23 : decode cX4_init 23 = .ok (.sipush 364, 3) := by decide +kernel
theorem dX4_init_26 : decode cX4_init 26 = .ok (.newarray .int, 2) := by decide +kernel
theorem dX4_init_28 : decode cX4_init 28 = .ok (.putfield 16, 3) := by decide +kernel
theorem dX4_init_31 : decode cX4_init 31 = .ok (.aload_n 0, 1) := by decide +kernel
theorem dX4_init_32 : decode cX4_init 32 = .ok (.iconst 2, 1) := by decide +kernel
theorem dX4_init_33 : decode cX4_init 33 = .ok (.newarray .boolean, 2) := by decide +kernel
theorem dX4_init_35 : decode cX4_init 35 = .ok (.putfield 19, 3) := by decide +kernel
theorem dX4_init_38 : decode cX4_init 38 = .ok (.aload_n 0, 1) := by decide +kernel
theorem dX4_init_39 : decode cX4_init 39 = .ok (.sipush 182, 3) := by decide +kernel
theorem dX4_init_42 : decode cX4_init 42 = .ok (.newarray .int, 2) := by decide +kernel
theorem dX4_init_44 : decode cX4_init 44 = .ok (.putfield 23, 3) := by decide +kernel
theorem dX4_init_47 : decode cX4_init 47 = .ok (.aload_n 0, 1) := by decide +kernel
theorem dX4_init_48 : decode cX4_init 48 = .ok (.bipush 60, 2) := by decide +kernel
theorem dX4_init_50 : decode cX4_init 50 = .ok (.newarray .int, 2) := by decide +kernel
theorem dX4_init_52 : decode cX4_init 52 = .ok (.putfield 26, 3) := by decide +kernel
theorem dX4_init_55 : decode cX4_init 55 = .ok (.aload_n 0, 1) := by decide +kernel
theorem dX4_init_56 : decode cX4_init 56 = .ok (.bipush 24, 2) := by decide +kernel
theorem dX4_init_58 : decode cX4_init 58 = .ok (.newarray .int, 2) := by decide +kernel
theorem dX4_init_60 : decode cX4_init 60 = .ok (.putfield 29, 3) := by decide +kernel
theorem dX4_init_63 : decode cX4_init 63 = .ok (.aload_n 0, 1) := by decide +kernel
theorem dX4_init_64 : decode cX4_init 64 = .ok (.bipush 24, 2) := by decide +kernel
theorem dX4_init_66 : decode cX4_init 66 = .ok (.newarray .int, 2) := by decide +kernel
theorem dX4_init_68 : decode cX4_init 68 = .ok (.putfield 32, 3) := by decide +kernel
theorem dX4_init_71 : decode cX4_init 71 = .ok (.aload_n 0, 1) := by decide +kernel
theorem dX4_init_72 : decode cX4_init 72 = .ok (.bipush 72, 2) := by decide +kernel
theorem dX4_init_74 : decode cX4_init 74 = .ok (.newarray .int, 2) := by decide +kernel
theorem dX4_init_76 : decode cX4_init 76 = .ok (.putfield 35, 3) := by decide +kernel
theorem dX4_init_79 : decode cX4_init 79 = .ok (.aload_n 0, 1) := by decide +kernel
theorem dX4_init_80 : decode cX4_init 80 = .ok (.getfield 7, 3) := by decide +kernel
theorem dX4_init_83 : decode cX4_init 83 = .ok (.sipush 177, 3) := by decide +kernel
theorem dX4_init_86 : decode cX4_init 86 = .ok (.bipush 20, 2) := by decide +kernel
theorem dX4_init_88 : decode cX4_init 88 = .ok (.iastore, 1) := by decide +kernel
theorem dX4_init_89 : decode cX4_init 89 = .ok (.aload_n 0, 1) := by decide +kernel
theorem dX4_init_90 : decode cX4_init 90 = .ok (.getfield 7, 3) := by decide +kernel
theorem dX4_init_93 : decode cX4_init 93 = .ok (.sipush 178, 3) := by decide +kernel
theorem dX4_init_96 : decode cX4_init 96 = .ok (.iconst 1, 1) := by decide +kernel
theorem dX4_init_97 : decode cX4_init 97 = .ok (.iastore, 1) := by decide +kernel
theorem dX4_init_98 : decode cX4_init 98 = .ok (.return_, 1) := by decide +kernel
theorem dX4_thrown_0 : decode cX4_thrown 0 = .ok (.aload_n 0, 1) := by decide +kernel
theorem dX4_thrown_1 : decode cX4_thrown 1 = .ok (.getfield 38, 3) := by decide +kernel
theorem dX4_thrown_4 : decode cX4_thrown 4 = .ok (.ireturn, 1) := by decide +kernel
theorem dX4_fails_0 : decode cX4_fails 0 = .ok (.aload_n 0, 1) := by decide +kernel
theorem dX4_fails_1 : decode cX4_fails 1 = .ok (.iload_n 1, 1) := by decide +kernel
theorem dX4_fails_2 : decode cX4_fails 2 = .ok (.putfield 38, 3) := by decide +kernel
theorem dX4_fails_5 : decode cX4_fails 5 = .ok (.iconst 0, 1) := by decide +kernel
theorem dX4_fails_6 : decode cX4_fails 6 = .ok (.ireturn, 1) := by decide +kernel
theorem dX4_in_0 : decode cX4_in 0 = .ok (.iload_n 0, 1) := by decide +kernel
theorem dX4_in_1 : decode cX4_in 1 = .ok (.iload_n 1, 1) := by decide +kernel
theorem dX4_in_2 : decode cX4_in 2 = .ok (.if_icmp .lt 12, 3) := by decide +kernel
theorem dX4_in_5 : decode cX4_in 5 = .ok (.iload_n 0, 1) := by decide +kernel
theorem dX4_in_6 : decode cX4_in 6 = .ok (.iload_n 2, 1) := by decide +kernel
theorem dX4_in_7 : decode cX4_in 7 = .ok (.if_icmp .gt 7, 3) := by decide +kernel
theorem dX4_in_10 : decode cX4_in 10 = .ok (.iconst 1, 1) := by decide +kernel
theorem dX4_in_11 : decode cX4_in 11 = .ok (.goto 4, 3) := by decide +kernel
theorem dX4_in_14 : decode cX4_in 14 = .ok (.iconst 0, 1) := by decide +kernel
theorem dX4_in_15 : decode cX4_in 15 = .ok (.ireturn, 1) := by decide +kernel
theorem dX4_isWord_0 : decode cX4_isWord 0 = .ok (.iload_n 0, 1) := by decide +kernel
theorem dX4_isWord_1 : decode cX4_isWord 1 = .ok (.iconst 0, 1) := by decide +kernel
theorem dX4_isWord_2 : decode cX4_isWord 2 = .ok (.bipush 39, 2) := by decide +kernel
theorem dX4_isWord_4 : decode cX4_isWord 4 = .ok (.invokestatic 42, 3) := by decide +kernel
theorem dX4_isWord_7 : decode cX4_isWord 7 = .ok (.ireturn, 1) := by decide +kernel
theorem dX4_isDoor_0 : decode cX4_isDoor 0 = .ok (.iload_n 0, 1) := by decide +kernel
theorem dX4_isDoor_1 : decode cX4_isDoor 1 = .ok (.iconst 0, 1) := by decide +kernel
theorem dX4_isDoor_2 : decode cX4_isDoor 2 = .ok (.iconst 3, 1) := by decide +kernel
theorem dX4_isDoor_3 : decode cX4_isDoor 3 = .ok (.invokestatic 42, 3) := by decide +kernel
theorem dX4_isDoor_6 : decode cX4_isDoor 6 = .ok (.ireturn, 1) := by decide +kernel
theorem dX4_isLine_0 : decode cX4_isLine 0 = .ok (.iload_n 0, 1) := by decide +kernel
theorem dX4_isLine_1 : decode cX4_isLine 1 = .ok (.invokestatic 46, 3) := by decide +kernel
theorem dX4_isLine_4 : decode cX4_isLine 4 = .ok (.ifCond .eq 16, 3) := by decide +kernel
theorem dX4_isLine_7 : decode cX4_isLine 7 = .ok (.iload_n 1, 1) := by decide +kernel
theorem dX4_isLine_8 : decode cX4_isLine 8 = .ok (.iconst 0, 1) := by decide +kernel
theorem dX4_isLine_9 : decode cX4_isLine 9 = .ok (.iconst 3, 1) := by decide +kernel
theorem dX4_isLine_10 : decode cX4_isLine 10 = .ok (.invokestatic 42, 3) := by decide +kernel
theorem dX4_isLine_13 : decode cX4_isLine 13 = .ok (.ifCond .eq 7, 3) := by decide +kernel
theorem dX4_isLine_16 : decode cX4_isLine 16 = .ok (.iconst 1, 1) := by decide +kernel
theorem dX4_isLine_17 : decode cX4_isLine 17 = .ok (.goto 4, 3) := by decide +kernel
theorem dX4_isLine_20 : decode cX4_isLine 20 = .ok (.iconst 0, 1) := by decide +kernel
theorem dX4_isLine_21 : decode cX4_isLine 21 = .ok (.ireturn, 1) := by decide +kernel
theorem dX4_save_0 : decode cX4_save 0 = .ok (.aload_n 0, 1) := by decide +kernel
theorem dX4_save_1 : decode cX4_save 1 = .ok (.getfield 50, 3) := by decide +kernel
theorem dX4_save_4 : decode cX4_save 4 = .ok (.bipush 6, 2) := by decide +kernel
theorem dX4_save_6 : decode cX4_save 6 = .ok (.if_icmp .ne 44, 3) := by decide +kernel
theorem dX4_save_9 : decode cX4_save 9 = .ok (.iconst 0, 1) := by decide +kernel
theorem dX4_save_10 : decode cX4_save 10 = .ok (.istore_n 1, 1) := by decide +kernel
theorem dX4_save_11 : decode cX4_save 11 = .ok (.iload_n 1, 1) := by decide +kernel
theorem dX4_save_12 : decode cX4_save 12 = .ok (.sipush 910, 3) := by decide +kernel
theorem dX4_save_15 : decode cX4_save 15 = .ok (.if_icmp .ge 25, 3) := by decide +kernel
theorem dX4_save_18 : decode cX4_save 18 = .ok (.aload_n 0, 1) := by decide +kernel
theorem dX4_save_19 : decode cX4_save 19 = .ok (.getfield 13, 3) := by decide +kernel
theorem dX4_save_22 : decode cX4_save 22 = .ok (.iload_n 1, 1) := by decide +kernel
theorem dX4_save_23 : decode cX4_save 23 = .ok (.aload_n 0, 1) := by decide +kernel
theorem dX4_save_24 : decode cX4_save 24 = .ok (.getfield 13, 3) := by decide +kernel
theorem dX4_save_27 : decode cX4_save 27 = .ok (.iload_n 1, 1) := by decide +kernel
theorem dX4_save_28 : decode cX4_save 28 = .ok (.sipush 182, 3) := by decide +kernel
theorem dX4_save_31 : decode cX4_save 31 = .ok (.iadd, 1) := by decide +kernel
theorem dX4_save_32 : decode cX4_save 32 = .ok (.iaload, 1) := by decide +kernel
theorem dX4_save_33 : decode cX4_save 33 = .ok (.iastore, 1) := by decide +kernel
theorem dX4_save_34 : decode cX4_save 34 = .ok (.iinc 1 1, 3) := by decide +kernel
theorem dX4_save_37 : decode cX4_save 37 = .ok (.goto (-26), 3) := by decide +kernel
theorem dX4_save_40 : decode cX4_save 40 = .ok (.aload_n 0, 1) := by decide +kernel
theorem dX4_save_41 : decode cX4_save 41 = .ok (.dup, 1) := by decide +kernel
theorem dX4_save_42 : decode cX4_save 42 = .ok (.getfield 50, 3) := by decide +kernel
theorem dX4_save_45 : decode cX4_save 45 = .ok (.iconst 1, 1) := by decide +kernel
theorem dX4_save_46 : decode cX4_save 46 = .ok (.isub, 1) := by decide +kernel
theorem dX4_save_47 : decode cX4_save 47 = .ok (.putfield 50, 3) := by decide +kernel
theorem dX4_save_50 : decode cX4_save 50 = .ok (.iconst 0, 1) := by decide +kernel
theorem dX4_save_51 : decode cX4_save 51 = .ok (.istore_n 1, 1) := by decide +kernel
theorem dX4_save_52 : decode cX4_save 52 = .ok (.iload_n 1, 1) := by decide +kernel
theorem dX4_save_53 : decode cX4_save 53 = .ok (.sipush 182, 3) := by decide +kernel
theorem dX4_save_56 : decode cX4_save 56 = .ok (.if_icmp .ge 30, 3) := by decide +kernel
theorem dX4_save_59 : decode cX4_save 59 = .ok (.aload_n 0, 1) := by decide +kernel
theorem dX4_save_60 : decode cX4_save 60 = .ok (.getfield 13, 3) := by decide +kernel
theorem dX4_save_63 : decode cX4_save 63 = .ok (.sipush 182, 3) := by decide +kernel
theorem dX4_save_66 : decode cX4_save 66 = .ok (.aload_n 0, 1) := by decide +kernel
theorem dX4_save_67 : decode cX4_save 67 = .ok (.getfield 50, 3) := by decide +kernel
theorem dX4_save_70 : decode cX4_save 70 = .ok (.imul, 1) := by decide +kernel
theorem dX4_save_71 : decode cX4_save 71 = .ok (.iload_n 1, 1) := by decide +kernel
theorem dX4_save_72 : decode cX4_save 72 = .ok (.iadd, 1) := by decide +kernel
theorem dX4_save_73 : decode cX4_save 73 = .ok (.aload_n 0, 1) := by decide +kernel
theorem dX4_save_74 : decode cX4_save 74 = .ok (.getfield 7, 3) := by decide +kernel
theorem dX4_save_77 : decode cX4_save 77 = .ok (.iload_n 1, 1) := by decide +kernel
theorem dX4_save_78 : decode cX4_save 78 = .ok (.iaload, 1) := by decide +kernel
theorem dX4_save_79 : decode cX4_save 79 = .ok (.iastore, 1) := by decide +kernel
theorem dX4_save_80 : decode cX4_save 80 = .ok (.iinc 1 1, 3) := by decide +kernel
theorem dX4_save_83 : decode cX4_save 83 = .ok (.goto (-31), 3) := by decide +kernel
theorem dX4_save_86 : decode cX4_save 86 = .ok (.aload_n 0, 1) := by decide +kernel
theorem dX4_save_87 : decode cX4_save 87 = .ok (.dup, 1) := by decide +kernel
theorem dX4_save_88 : decode cX4_save 88 = .ok (.getfield 50, 3) := by decide +kernel
theorem dX4_save_91 : decode cX4_save 91 = .ok (.iconst 1, 1) := by decide +kernel
theorem dX4_save_92 : decode cX4_save 92 = .ok (.iadd, 1) := by decide +kernel
theorem dX4_save_93 : decode cX4_save 93 = .ok (.putfield 50, 3) := by decide +kernel
theorem dX4_save_96 : decode cX4_save 96 = .ok (.return_, 1) := by decide +kernel
theorem dX4_putAside_0 : decode cX4_putAside 0 = .ok (.iconst 0, 1) := by decide +kernel
theorem dX4_putAside_1 : decode cX4_putAside 1 = .ok (.istore_n 1, 1) := by decide +kernel
theorem dX4_putAside_2 : decode cX4_putAside 2 = .ok (.iload_n 1, 1) := by decide +kernel
theorem dX4_putAside_3 : decode cX4_putAside 3 = .ok (.sipush 182, 3) := by decide +kernel
theorem dX4_putAside_6 : decode cX4_putAside 6 = .ok (.if_icmp .ge 21, 3) := by decide +kernel
theorem dX4_putAside_9 : decode cX4_putAside 9 = .ok (.aload_n 0, 1) := by decide +kernel
theorem dX4_putAside_10 : decode cX4_putAside 10 = .ok (.getfield 23, 3) := by decide +kernel
theorem dX4_putAside_13 : decode cX4_putAside 13 = .ok (.iload_n 1, 1) := by decide +kernel
theorem dX4_putAside_14 : decode cX4_putAside 14 = .ok (.aload_n 0, 1) := by decide +kernel
theorem dX4_putAside_15 : decode cX4_putAside 15 = .ok (.getfield 7, 3) := by decide +kernel
theorem dX4_putAside_18 : decode cX4_putAside 18 = .ok (.iload_n 1, 1) := by decide +kernel
theorem dX4_putAside_19 : decode cX4_putAside 19 = .ok (.iaload, 1) := by decide +kernel
theorem dX4_putAside_20 : decode cX4_putAside 20 = .ok (.iastore, 1) := by decide +kernel
theorem dX4_putAside_21 : decode cX4_putAside 21 = .ok (.iinc 1 1, 3) := by decide +kernel
theorem dX4_putAside_24 : decode cX4_putAside 24 = .ok (.goto (-22), 3) := by decide +kernel
theorem dX4_putAside_27 : decode cX4_putAside 27 = .ok (.return_, 1) := by decide +kernel
theorem dX4_putBack_0 : decode cX4_putBack 0 = .ok (.iconst 0, 1) := by decide +kernel
theorem dX4_putBack_1 : decode cX4_putBack 1 = .ok (.istore_n 1, 1) := by decide +kernel
theorem dX4_putBack_2 : decode cX4_putBack 2 = .ok (.iload_n 1, 1) := by decide +kernel
theorem dX4_putBack_3 : decode cX4_putBack 3 = .ok (.sipush 182, 3) := by decide +kernel
theorem dX4_putBack_6 : decode cX4_putBack 6 = .ok (.if_icmp .ge 21, 3) := by decide +kernel
theorem dX4_putBack_9 : decode cX4_putBack 9 = .ok (.aload_n 0, 1) := by decide +kernel
theorem dX4_putBack_10 : decode cX4_putBack 10 = .ok (.getfield 7, 3) := by decide +kernel
theorem dX4_putBack_13 : decode cX4_putBack 13 = .ok (.iload_n 1, 1) := by decide +kernel
theorem dX4_putBack_14 : decode cX4_putBack 14 = .ok (.aload_n 0, 1) := by decide +kernel
theorem dX4_putBack_15 : decode cX4_putBack 15 = .ok (.getfield 23, 3) := by decide +kernel
theorem dX4_putBack_18 : decode cX4_putBack 18 = .ok (.iload_n 1, 1) := by decide +kernel
theorem dX4_putBack_19 : decode cX4_putBack 19 = .ok (.iaload, 1) := by decide +kernel
theorem dX4_putBack_20 : decode cX4_putBack 20 = .ok (.iastore, 1) := by decide +kernel
theorem dX4_putBack_21 : decode cX4_putBack 21 = .ok (.iinc 1 1, 3) := by decide +kernel
theorem dX4_putBack_24 : decode cX4_putBack 24 = .ok (.goto (-22), 3) := by decide +kernel
theorem dX4_putBack_27 : decode cX4_putBack 27 = .ok (.return_, 1) := by decide +kernel
theorem dX4_kindOf_0 : decode cX4_kindOf 0 = .ok (.iload_n 0, 1) := by decide +kernel
theorem dX4_kindOf_1 : decode cX4_kindOf 1 = .ok (.iconst 4, 1) := by decide +kernel
theorem dX4_kindOf_2 : decode cX4_kindOf 2 = .ok (.irem, 1) := by decide +kernel
theorem dX4_kindOf_3 : decode cX4_kindOf 3 = .ok (.ireturn, 1) := by decide +kernel
theorem dX4_endingOf_0 : decode cX4_endingOf 0 = .ok (.iload_n 0, 1) := by decide +kernel
theorem dX4_endingOf_1 : decode cX4_endingOf 1 = .ok (.iconst 4, 1) := by decide +kernel
theorem dX4_endingOf_2 : decode cX4_endingOf 2 = .ok (.idiv, 1) := by decide +kernel
theorem dX4_endingOf_3 : decode cX4_endingOf 3 = .ok (.iconst 5, 1) := by decide +kernel
theorem dX4_endingOf_4 : decode cX4_endingOf 4 = .ok (.irem, 1) := by decide +kernel
theorem dX4_endingOf_5 : decode cX4_endingOf 5 = .ok (.ireturn, 1) := by decide +kernel
theorem dX4_beatsOf_0 : decode cX4_beatsOf 0 = .ok (.iload_n 0, 1) := by decide +kernel
theorem dX4_beatsOf_1 : decode cX4_beatsOf 1 = .ok (.iconst 3, 1) := by decide +kernel
theorem dX4_beatsOf_2 : decode cX4_beatsOf 2 = .ok (.irem, 1) := by decide +kernel
theorem dX4_beatsOf_3 : decode cX4_beatsOf 3 = .ok (.iconst 1, 1) := by decide +kernel
theorem dX4_beatsOf_4 : decode cX4_beatsOf 4 = .ok (.iadd, 1) := by decide +kernel
theorem dX4_beatsOf_5 : decode cX4_beatsOf 5 = .ok (.ireturn, 1) := by decide +kernel
theorem dX4_wordAt_0 : decode cX4_wordAt 0 = .ok (.aload_n 0, 1) := by decide +kernel
theorem dX4_wordAt_1 : decode cX4_wordAt 1 = .ok (.getfield 7, 3) := by decide +kernel
theorem dX4_wordAt_4 : decode cX4_wordAt 4 = .ok (.bipush 16, 2) := by decide +kernel
theorem dX4_wordAt_6 : decode cX4_wordAt 6 = .ok (.bipush 6, 2) := by decide +kernel
theorem dX4_wordAt_8 : decode cX4_wordAt 8 = .ok (.iload_n 1, 1) := by decide +kernel
theorem dX4_wordAt_9 : decode cX4_wordAt 9 = .ok (.imul, 1) := by decide +kernel
theorem dX4_wordAt_10 : decode cX4_wordAt 10 = .ok (.iadd, 1) := by decide +kernel
theorem dX4_wordAt_11 : decode cX4_wordAt 11 = .ok (.iload_n 2, 1) := by decide +kernel
theorem dX4_wordAt_12 : decode cX4_wordAt 12 = .ok (.iadd, 1) := by decide +kernel
theorem dX4_wordAt_13 : decode cX4_wordAt 13 = .ok (.iaload, 1) := by decide +kernel
theorem dX4_wordAt_14 : decode cX4_wordAt 14 = .ok (.ireturn, 1) := by decide +kernel
theorem dX4_lastOf_0 : decode cX4_lastOf 0 = .ok (.aload_n 0, 1) := by decide +kernel
theorem dX4_lastOf_1 : decode cX4_lastOf 1 = .ok (.getfield 7, 3) := by decide +kernel
theorem dX4_lastOf_4 : decode cX4_lastOf 4 = .ok (.iconst 0, 1) := by decide +kernel
theorem dX4_lastOf_5 : decode cX4_lastOf 5 = .ok (.iload_n 1, 1) := by decide +kernel
theorem dX4_lastOf_6 : decode cX4_lastOf 6 = .ok (.iadd, 1) := by decide +kernel
theorem dX4_lastOf_7 : decode cX4_lastOf 7 = .ok (.iaload, 1) := by decide +kernel
theorem dX4_lastOf_8 : decode cX4_lastOf 8 = .ok (.ifCond .ne 7, 3) := by decide +kernel
theorem dX4_lastOf_11 : decode cX4_lastOf 11 = .ok (.iconst (-1), 1) := by decide +kernel
theorem dX4_lastOf_12 : decode cX4_lastOf 12 = .ok (.goto 18, 3) := by decide +kernel
theorem dX4_lastOf_15 : decode cX4_lastOf 15 = .ok (.aload_n 0, 1) := by decide +kernel
theorem dX4_lastOf_16 : decode cX4_lastOf 16 = .ok (.iload_n 1, 1) := by decide +kernel
theorem dX4_lastOf_17 : decode cX4_lastOf 17 = .ok (.aload_n 0, 1) := by decide +kernel
theorem dX4_lastOf_18 : decode cX4_lastOf 18 = .ok (.getfield 7, 3) := by decide +kernel
theorem dX4_lastOf_21 : decode cX4_lastOf 21 = .ok (.iconst 0, 1) := by decide +kernel
theorem dX4_lastOf_22 : decode cX4_lastOf 22 = .ok (.iload_n 1, 1) := by decide +kernel
theorem dX4_lastOf_23 : decode cX4_lastOf 23 = .ok (.iadd, 1) := by decide +kernel
theorem dX4_lastOf_24 : decode cX4_lastOf 24 = .ok (.iaload, 1) := by decide +kernel
theorem dX4_lastOf_25 : decode cX4_lastOf 25 = .ok (.iconst 1, 1) := by decide +kernel
theorem dX4_lastOf_26 : decode cX4_lastOf 26 = .ok (.isub, 1) := by decide +kernel
theorem dX4_lastOf_27 : decode cX4_lastOf 27 = .ok (.invokevirtual 53, 3) := by decide +kernel
theorem dX4_lastOf_30 : decode cX4_lastOf 30 = .ok (.ireturn, 1) := by decide +kernel
theorem dX4_lineOfWord_0 : decode cX4_lineOfWord 0 = .ok (.iconst 0, 1) := by decide +kernel
theorem dX4_lineOfWord_1 : decode cX4_lineOfWord 1 = .ok (.istore_n 2, 1) := by decide +kernel
theorem dX4_lineOfWord_2 : decode cX4_lineOfWord 2 = .ok (.iload_n 2, 1) := by decide +kernel
theorem dX4_lineOfWord_3 : decode cX4_lineOfWord 3 = .ok (.bipush 16, 2) := by decide +kernel
theorem dX4_lineOfWord_5 : decode cX4_lineOfWord 5 = .ok (.if_icmp .ge 41, 3) := by decide +kernel
theorem dX4_lineOfWord_8 : decode cX4_lineOfWord 8 = .ok (.iconst 0, 1) := by decide +kernel
theorem dX4_lineOfWord_9 : decode cX4_lineOfWord 9 = .ok (.istore_n 3, 1) := by decide +kernel
theorem dX4_lineOfWord_10 : decode cX4_lineOfWord 10 = .ok (.iload_n 3, 1) := by decide +kernel
theorem dX4_lineOfWord_11 : decode cX4_lineOfWord 11 = .ok (.aload_n 0, 1) := by decide +kernel
theorem dX4_lineOfWord_12 : decode cX4_lineOfWord 12 = .ok (.getfield 7, 3) := by decide +kernel
theorem dX4_lineOfWord_15 : decode cX4_lineOfWord 15 = .ok (.iconst 0, 1) := by decide +kernel
theorem dX4_lineOfWord_16 : decode cX4_lineOfWord 16 = .ok (.iload_n 2, 1) := by decide +kernel
theorem dX4_lineOfWord_17 : decode cX4_lineOfWord 17 = .ok (.iadd, 1) := by decide +kernel
theorem dX4_lineOfWord_18 : decode cX4_lineOfWord 18 = .ok (.iaload, 1) := by decide +kernel
theorem dX4_lineOfWord_19 : decode cX4_lineOfWord 19 = .ok (.if_icmp .ge 21, 3) := by decide +kernel
theorem dX4_lineOfWord_22 : decode cX4_lineOfWord 22 = .ok (.aload_n 0, 1) := by decide +kernel
theorem dX4_lineOfWord_23 : decode cX4_lineOfWord 23 = .ok (.iload_n 2, 1) := by decide +kernel
theorem dX4_lineOfWord_24 : decode cX4_lineOfWord 24 = .ok (.iload_n 3, 1) := by decide +kernel
theorem dX4_lineOfWord_25 : decode cX4_lineOfWord 25 = .ok (.invokevirtual 53, 3) := by decide +kernel
theorem dX4_lineOfWord_28 : decode cX4_lineOfWord 28 = .ok (.iload_n 1, 1) := by decide +kernel
theorem dX4_lineOfWord_29 : decode cX4_lineOfWord 29 = .ok (.if_icmp .ne 5, 3) := by decide +kernel
theorem dX4_lineOfWord_32 : decode cX4_lineOfWord 32 = .ok (.iload_n 2, 1) := by decide +kernel
theorem dX4_lineOfWord_33 : decode cX4_lineOfWord 33 = .ok (.ireturn, 1) := by decide +kernel
theorem dX4_lineOfWord_34 : decode cX4_lineOfWord 34 = .ok (.iinc 3 1, 3) := by decide +kernel
theorem dX4_lineOfWord_37 : decode cX4_lineOfWord 37 = .ok (.goto (-27), 3) := by decide +kernel
theorem dX4_lineOfWord_40 : decode cX4_lineOfWord 40 = .ok (.iinc 2 1, 3) := by decide +kernel
theorem dX4_lineOfWord_43 : decode cX4_lineOfWord 43 = .ok (.goto (-41), 3) := by decide +kernel
theorem dX4_lineOfWord_46 : decode cX4_lineOfWord 46 = .ok (.iconst (-1), 1) := by decide +kernel
theorem dX4_lineOfWord_47 : decode cX4_lineOfWord 47 = .ok (.ireturn, 1) := by decide +kernel
theorem dX4_placeOfWord_0 : decode cX4_placeOfWord 0 = .ok (.aload_n 0, 1) := by decide +kernel
theorem dX4_placeOfWord_1 : decode cX4_placeOfWord 1 = .ok (.iload_n 1, 1) := by decide +kernel
theorem dX4_placeOfWord_2 : decode cX4_placeOfWord 2 = .ok (.invokevirtual 57, 3) := by decide +kernel
theorem dX4_placeOfWord_5 : decode cX4_placeOfWord 5 = .ok (.istore_n 2, 1) := by decide +kernel
theorem dX4_placeOfWord_6 : decode cX4_placeOfWord 6 = .ok (.iconst 0, 1) := by decide +kernel
theorem dX4_placeOfWord_7 : decode cX4_placeOfWord 7 = .ok (.istore_n 3, 1) := by decide +kernel
theorem dX4_placeOfWord_8 : decode cX4_placeOfWord 8 = .ok (.iload_n 2, 1) := by decide +kernel
theorem dX4_placeOfWord_9 : decode cX4_placeOfWord 9 = .ok (.iconst (-1), 1) := by decide +kernel
theorem dX4_placeOfWord_10 : decode cX4_placeOfWord 10 = .ok (.if_icmp .eq 19, 3) := by decide +kernel
theorem dX4_placeOfWord_13 : decode cX4_placeOfWord 13 = .ok (.aload_n 0, 1) := by decide +kernel
theorem dX4_placeOfWord_14 : decode cX4_placeOfWord 14 = .ok (.iload_n 2, 1) := by decide +kernel
theorem dX4_placeOfWord_15 : decode cX4_placeOfWord 15 = .ok (.iload_n 3, 1) := by decide +kernel
theorem dX4_placeOfWord_16 : decode cX4_placeOfWord 16 = .ok (.invokevirtual 53, 3) := by decide +kernel
theorem dX4_placeOfWord_19 : decode cX4_placeOfWord 19 = .ok (.iload_n 1, 1) := by decide +kernel
theorem dX4_placeOfWord_20 : decode cX4_placeOfWord 20 = .ok (.if_icmp .eq 9, 3) := by decide +kernel
theorem dX4_placeOfWord_23 : decode cX4_placeOfWord 23 = .ok (.iinc 3 1, 3) := by decide +kernel
theorem dX4_placeOfWord_26 : decode cX4_placeOfWord 26 = .ok (.goto (-18), 3) := by decide +kernel
theorem dX4_placeOfWord_29 : decode cX4_placeOfWord 29 = .ok (.iload_n 2, 1) := by decide +kernel
theorem dX4_placeOfWord_30 : decode cX4_placeOfWord 30 = .ok (.iconst (-1), 1) := by decide +kernel
theorem dX4_placeOfWord_31 : decode cX4_placeOfWord 31 = .ok (.if_icmp .ne 7, 3) := by decide +kernel
theorem dX4_placeOfWord_34 : decode cX4_placeOfWord 34 = .ok (.iconst (-1), 1) := by decide +kernel
theorem dX4_placeOfWord_35 : decode cX4_placeOfWord 35 = .ok (.goto 4, 3) := by decide +kernel
theorem dX4_placeOfWord_38 : decode cX4_placeOfWord 38 = .ok (.iload_n 3, 1) := by decide +kernel
theorem dX4_placeOfWord_39 : decode cX4_placeOfWord 39 = .ok (.ireturn, 1) := by decide +kernel
theorem dX4_inBag_0 : decode cX4_inBag 0 = .ok (.bipush 40, 2) := by decide +kernel
theorem dX4_inBag_2 : decode cX4_inBag 2 = .ok (.istore_n 1, 1) := by decide +kernel
theorem dX4_inBag_3 : decode cX4_inBag 3 = .ok (.iconst 0, 1) := by decide +kernel
theorem dX4_inBag_4 : decode cX4_inBag 4 = .ok (.istore_n 2, 1) := by decide +kernel
theorem dX4_inBag_5 : decode cX4_inBag 5 = .ok (.iload_n 2, 1) := by decide +kernel
theorem dX4_inBag_6 : decode cX4_inBag 6 = .ok (.bipush 16, 2) := by decide +kernel
theorem dX4_inBag_8 : decode cX4_inBag 8 = .ok (.if_icmp .ge 20, 3) := by decide +kernel
theorem dX4_inBag_11 : decode cX4_inBag 11 = .ok (.iload_n 1, 1) := by decide +kernel
theorem dX4_inBag_12 : decode cX4_inBag 12 = .ok (.aload_n 0, 1) := by decide +kernel
theorem dX4_inBag_13 : decode cX4_inBag 13 = .ok (.getfield 7, 3) := by decide +kernel
theorem dX4_inBag_16 : decode cX4_inBag 16 = .ok (.iconst 0, 1) := by decide +kernel
theorem dX4_inBag_17 : decode cX4_inBag 17 = .ok (.iload_n 2, 1) := by decide +kernel
theorem dX4_inBag_18 : decode cX4_inBag 18 = .ok (.iadd, 1) := by decide +kernel
theorem dX4_inBag_19 : decode cX4_inBag 19 = .ok (.iaload, 1) := by decide +kernel
theorem dX4_inBag_20 : decode cX4_inBag 20 = .ok (.isub, 1) := by decide +kernel
theorem dX4_inBag_21 : decode cX4_inBag 21 = .ok (.istore_n 1, 1) := by decide +kernel
theorem dX4_inBag_22 : decode cX4_inBag 22 = .ok (.iinc 2 1, 3) := by decide +kernel
theorem dX4_inBag_25 : decode cX4_inBag 25 = .ok (.goto (-20), 3) := by decide +kernel
theorem dX4_inBag_28 : decode cX4_inBag 28 = .ok (.iload_n 1, 1) := by decide +kernel
theorem dX4_inBag_29 : decode cX4_inBag 29 = .ok (.ireturn, 1) := by decide +kernel
theorem dX4_endLoans_0 : decode cX4_endLoans 0 = .ok (.aload_n 0, 1) := by decide +kernel
theorem dX4_endLoans_1 : decode cX4_endLoans 1 = .ok (.getfield 7, 3) := by decide +kernel
theorem dX4_endLoans_4 : decode cX4_endLoans 4 = .ok (.bipush 112, 2) := by decide +kernel
theorem dX4_endLoans_6 : decode cX4_endLoans 6 = .ok (.iload_n 1, 1) := by decide +kernel
theorem dX4_endLoans_7 : decode cX4_endLoans 7 = .ok (.iadd, 1) := by decide +kernel
theorem dX4_endLoans_8 : decode cX4_endLoans 8 = .ok (.iconst 0, 1) := by decide +kernel
theorem dX4_endLoans_9 : decode cX4_endLoans 9 = .ok (.iastore, 1) := by decide +kernel
theorem dX4_endLoans_10 : decode cX4_endLoans 10 = .ok (.aload_n 0, 1) := by decide +kernel
theorem dX4_endLoans_11 : decode cX4_endLoans 11 = .ok (.iload_n 1, 1) := by decide +kernel
theorem dX4_endLoans_12 : decode cX4_endLoans 12 = .ok (.invokevirtual 61, 3) := by decide +kernel
theorem dX4_endLoans_15 : decode cX4_endLoans 15 = .ok (.iload_n 2, 1) := by decide +kernel
theorem dX4_endLoans_16 : decode cX4_endLoans 16 = .ok (.if_icmp .eq 54, 3) := by decide +kernel
theorem dX4_endLoans_19 : decode cX4_endLoans 19 = .ok (.iconst 0, 1) := by decide +kernel
theorem dX4_endLoans_20 : decode cX4_endLoans 20 = .ok (.istore_n 3, 1) := by decide +kernel
theorem dX4_endLoans_21 : decode cX4_endLoans 21 = .ok (.iload_n 3, 1) := by decide +kernel
theorem dX4_endLoans_22 : decode cX4_endLoans 22 = .ok (.bipush 16, 2) := by decide +kernel
theorem dX4_endLoans_24 : decode cX4_endLoans 24 = .ok (.if_icmp .ge 46, 3) := by decide +kernel
theorem dX4_endLoans_27 : decode cX4_endLoans 27 = .ok (.aload_n 0, 1) := by decide +kernel
theorem dX4_endLoans_28 : decode cX4_endLoans 28 = .ok (.getfield 7, 3) := by decide +kernel
theorem dX4_endLoans_31 : decode cX4_endLoans 31 = .ok (.bipush 112, 2) := by decide +kernel
theorem dX4_endLoans_33 : decode cX4_endLoans 33 = .ok (.iload_n 3, 1) := by decide +kernel
theorem dX4_endLoans_34 : decode cX4_endLoans 34 = .ok (.iadd, 1) := by decide +kernel
theorem dX4_endLoans_35 : decode cX4_endLoans 35 = .ok (.aload_n 0, 1) := by decide +kernel
theorem dX4_endLoans_36 : decode cX4_endLoans 36 = .ok (.getfield 7, 3) := by decide +kernel
theorem dX4_endLoans_39 : decode cX4_endLoans 39 = .ok (.bipush 112, 2) := by decide +kernel
theorem dX4_endLoans_41 : decode cX4_endLoans 41 = .ok (.iload_n 3, 1) := by decide +kernel
theorem dX4_endLoans_42 : decode cX4_endLoans 42 = .ok (.iadd, 1) := by decide +kernel
theorem dX4_endLoans_43 : decode cX4_endLoans 43 = .ok (.iaload, 1) := by decide +kernel
theorem dX4_endLoans_44 : decode cX4_endLoans 44 = .ok (.iload_n 1, 1) := by decide +kernel
theorem dX4_endLoans_45 : decode cX4_endLoans 45 = .ok (.iconst 1, 1) := by decide +kernel
theorem dX4_endLoans_46 : decode cX4_endLoans 46 = .ok (.iadd, 1) := by decide +kernel
theorem dX4_endLoans_47 : decode cX4_endLoans 47 = .ok (.if_icmp .ne 7, 3) := by decide +kernel
theorem dX4_endLoans_50 : decode cX4_endLoans 50 = .ok (.iconst 0, 1) := by decide +kernel
theorem dX4_endLoans_51 : decode cX4_endLoans 51 = .ok (.goto 12, 3) := by decide +kernel
theorem dX4_endLoans_54 : decode cX4_endLoans 54 = .ok (.aload_n 0, 1) := by decide +kernel
theorem dX4_endLoans_55 : decode cX4_endLoans 55 = .ok (.getfield 7, 3) := by decide +kernel
theorem dX4_endLoans_58 : decode cX4_endLoans 58 = .ok (.bipush 112, 2) := by decide +kernel
theorem dX4_endLoans_60 : decode cX4_endLoans 60 = .ok (.iload_n 3, 1) := by decide +kernel
theorem dX4_endLoans_61 : decode cX4_endLoans 61 = .ok (.iadd, 1) := by decide +kernel
theorem dX4_endLoans_62 : decode cX4_endLoans 62 = .ok (.iaload, 1) := by decide +kernel
theorem dX4_endLoans_63 : decode cX4_endLoans 63 = .ok (.iastore, 1) := by decide +kernel
theorem dX4_endLoans_64 : decode cX4_endLoans 64 = .ok (.iinc 3 1, 3) := by decide +kernel
theorem dX4_endLoans_67 : decode cX4_endLoans 67 = .ok (.goto (-46), 3) := by decide +kernel
theorem dX4_endLoans_70 : decode cX4_endLoans 70 = .ok (.return_, 1) := by decide +kernel
theorem dX4_insert_0 : decode cX4_insert 0 = .ok (.aload_n 0, 1) := by decide +kernel
theorem dX4_insert_1 : decode cX4_insert 1 = .ok (.iload_n 2, 1) := by decide +kernel
theorem dX4_insert_2 : decode cX4_insert 2 = .ok (.invokevirtual 61, 3) := by decide +kernel
theorem dX4_insert_5 : decode cX4_insert 5 = .ok (.istore 4, 2) := by decide +kernel
theorem dX4_insert_7 : decode cX4_insert 7 = .ok (.bipush 16, 2) := by decide +kernel
theorem dX4_insert_9 : decode cX4_insert 9 = .ok (.bipush 6, 2) := by decide +kernel
theorem dX4_insert_11 : decode cX4_insert 11 = .ok (.iload_n 2, 1) := by decide +kernel
theorem dX4_insert_12 : decode cX4_insert 12 = .ok (.imul, 1) := by decide +kernel
theorem dX4_insert_13 : decode cX4_insert 13 = .ok (.iadd, 1) := by decide +kernel
theorem dX4_insert_14 : decode cX4_insert 14 = .ok (.istore 5, 2) := by decide +kernel
theorem dX4_insert_16 : decode cX4_insert 16 = .ok (.aload_n 0, 1) := by decide +kernel
theorem dX4_insert_17 : decode cX4_insert 17 = .ok (.getfield 7, 3) := by decide +kernel
theorem dX4_insert_20 : decode cX4_insert 20 = .ok (.iconst 0, 1) := by decide +kernel
theorem dX4_insert_21 : decode cX4_insert 21 = .ok (.iload_n 2, 1) := by decide +kernel
theorem dX4_insert_22 : decode cX4_insert 22 = .ok (.iadd, 1) := by decide +kernel
theorem dX4_insert_23 : decode cX4_insert 23 = .ok (.iaload, 1) := by decide +kernel
theorem dX4_insert_24 : decode cX4_insert 24 = .ok (.istore 6, 2) := by decide +kernel
theorem dX4_insert_26 : decode cX4_insert 26 = .ok (.iload 6, 2) := by decide +kernel
theorem dX4_insert_28 : decode cX4_insert 28 = .ok (.iload_n 3, 1) := by decide +kernel
theorem dX4_insert_29 : decode cX4_insert 29 = .ok (.if_icmp .le 31, 3) := by decide +kernel
theorem dX4_insert_32 : decode cX4_insert 32 = .ok (.aload_n 0, 1) := by decide +kernel
theorem dX4_insert_33 : decode cX4_insert 33 = .ok (.getfield 7, 3) := by decide +kernel
theorem dX4_insert_36 : decode cX4_insert 36 = .ok (.iload 5, 2) := by decide +kernel
theorem dX4_insert_38 : decode cX4_insert 38 = .ok (.iload 6, 2) := by decide +kernel
theorem dX4_insert_40 : decode cX4_insert 40 = .ok (.iadd, 1) := by decide +kernel
theorem dX4_insert_41 : decode cX4_insert 41 = .ok (.aload_n 0, 1) := by decide +kernel
theorem dX4_insert_42 : decode cX4_insert 42 = .ok (.getfield 7, 3) := by decide +kernel
theorem dX4_insert_45 : decode cX4_insert 45 = .ok (.iload 5, 2) := by decide +kernel
theorem dX4_insert_47 : decode cX4_insert 47 = .ok (.iload 6, 2) := by decide +kernel
theorem dX4_insert_49 : decode cX4_insert 49 = .ok (.iadd, 1) := by decide +kernel
theorem dX4_insert_50 : decode cX4_insert 50 = .ok (.iconst 1, 1) := by decide +kernel
theorem dX4_insert_51 : decode cX4_insert 51 = .ok (.isub, 1) := by decide +kernel
theorem dX4_insert_52 : decode cX4_insert 52 = .ok (.iaload, 1) := by decide +kernel
theorem dX4_insert_53 : decode cX4_insert 53 = .ok (.iastore, 1) := by decide +kernel
theorem dX4_insert_54 : decode cX4_insert 54 = .ok (.iinc 6 (-1), 3) := by decide +kernel
theorem dX4_insert_57 : decode cX4_insert 57 = .ok (.goto (-31), 3) := by decide +kernel
theorem dX4_insert_60 : decode cX4_insert 60 = .ok (.aload_n 0, 1) := by decide +kernel
theorem dX4_insert_61 : decode cX4_insert 61 = .ok (.getfield 7, 3) := by decide +kernel
theorem dX4_insert_64 : decode cX4_insert 64 = .ok (.iload 5, 2) := by decide +kernel
theorem dX4_insert_66 : decode cX4_insert 66 = .ok (.iload_n 3, 1) := by decide +kernel
theorem dX4_insert_67 : decode cX4_insert 67 = .ok (.iadd, 1) := by decide +kernel
theorem dX4_insert_68 : decode cX4_insert 68 = .ok (.iload_n 1, 1) := by decide +kernel
theorem dX4_insert_69 : decode cX4_insert 69 = .ok (.iastore, 1) := by decide +kernel
theorem dX4_insert_70 : decode cX4_insert 70 = .ok (.aload_n 0, 1) := by decide +kernel
theorem dX4_insert_71 : decode cX4_insert 71 = .ok (.getfield 7, 3) := by decide +kernel
theorem dX4_insert_74 : decode cX4_insert 74 = .ok (.iconst 0, 1) := by decide +kernel
theorem dX4_insert_75 : decode cX4_insert 75 = .ok (.iload_n 2, 1) := by decide +kernel
theorem dX4_insert_76 : decode cX4_insert 76 = .ok (.iadd, 1) := by decide +kernel
theorem dX4_insert_77 : decode cX4_insert 77 = .ok (.dup2, 1) := by decide +kernel
theorem dX4_insert_78 : decode cX4_insert 78 = .ok (.iaload, 1) := by decide +kernel
theorem dX4_insert_79 : decode cX4_insert 79 = .ok (.iconst 1, 1) := by decide +kernel
theorem dX4_insert_80 : decode cX4_insert 80 = .ok (.iadd, 1) := by decide +kernel
theorem dX4_insert_81 : decode cX4_insert 81 = .ok (.iastore, 1) := by decide +kernel
theorem dX4_insert_82 : decode cX4_insert 82 = .ok (.aload_n 0, 1) := by decide +kernel
theorem dX4_insert_83 : decode cX4_insert 83 = .ok (.iload_n 2, 1) := by decide +kernel
theorem dX4_insert_84 : decode cX4_insert 84 = .ok (.iload 4, 2) := by decide +kernel
theorem dX4_insert_86 : decode cX4_insert 86 = .ok (.invokevirtual 64, 3) := by decide +kernel
theorem dX4_insert_89 : decode cX4_insert 89 = .ok (.return_, 1) := by decide +kernel
theorem dX4_removeAt_0 : decode cX4_removeAt 0 = .ok (.aload_n 0, 1) := by decide +kernel
theorem dX4_removeAt_1 : decode cX4_removeAt 1 = .ok (.iload_n 1, 1) := by decide +kernel
theorem dX4_removeAt_2 : decode cX4_removeAt 2 = .ok (.invokevirtual 61, 3) := by decide +kernel
theorem dX4_removeAt_5 : decode cX4_removeAt 5 = .ok (.istore_n 3, 1) := by decide +kernel
theorem dX4_removeAt_6 : decode cX4_removeAt 6 = .ok (.bipush 16, 2) := by decide +kernel
theorem dX4_removeAt_8 : decode cX4_removeAt 8 = .ok (.bipush 6, 2) := by decide +kernel
theorem dX4_removeAt_10 : decode cX4_removeAt 10 = .ok (.iload_n 1, 1) := by decide +kernel
theorem dX4_removeAt_11 : decode cX4_removeAt 11 = .ok (.imul, 1) := by decide +kernel
theorem dX4_removeAt_12 : decode cX4_removeAt 12 = .ok (.iadd, 1) := by decide +kernel
theorem dX4_removeAt_13 : decode cX4_removeAt 13 = .ok (.istore 4, 2) := by decide +kernel
theorem dX4_removeAt_15 : decode cX4_removeAt 15 = .ok (.iload_n 2, 1) := by decide +kernel
theorem dX4_removeAt_16 : decode cX4_removeAt 16 = .ok (.istore 5, 2) := by decide +kernel
theorem dX4_removeAt_18 : decode cX4_removeAt 18 = .ok (.iload 5, 2) := by decide +kernel
theorem dX4_removeAt_20 : decode cX4_removeAt 20 = .ok (.iconst 1, 1) := by decide +kernel
theorem dX4_removeAt_21 : decode cX4_removeAt 21 = .ok (.iadd, 1) := by decide +kernel
theorem dX4_removeAt_22 : decode cX4_removeAt 22 = .ok (.aload_n 0, 1) := by decide +kernel
theorem dX4_removeAt_23 : decode cX4_removeAt 23 = .ok (.getfield 7, 3) := by decide +kernel
theorem dX4_removeAt_26 : decode cX4_removeAt 26 = .ok (.iconst 0, 1) := by decide +kernel
theorem dX4_removeAt_27 : decode cX4_removeAt 27 = .ok (.iload_n 1, 1) := by decide +kernel
theorem dX4_removeAt_28 : decode cX4_removeAt 28 = .ok (.iadd, 1) := by decide +kernel
theorem dX4_removeAt_29 : decode cX4_removeAt 29 = .ok (.iaload, 1) := by decide +kernel
theorem dX4_removeAt_30 : decode cX4_removeAt 30 = .ok (.if_icmp .ge 31, 3) := by decide +kernel
theorem dX4_removeAt_33 : decode cX4_removeAt 33 = .ok (.aload_n 0, 1) := by decide +kernel
theorem dX4_removeAt_34 : decode cX4_removeAt 34 = .ok (.getfield 7, 3) := by decide +kernel
theorem dX4_removeAt_37 : decode cX4_removeAt 37 = .ok (.iload 4, 2) := by decide +kernel
theorem dX4_removeAt_39 : decode cX4_removeAt 39 = .ok (.iload 5, 2) := by decide +kernel
theorem dX4_removeAt_41 : decode cX4_removeAt 41 = .ok (.iadd, 1) := by decide +kernel
theorem dX4_removeAt_42 : decode cX4_removeAt 42 = .ok (.aload_n 0, 1) := by decide +kernel
theorem dX4_removeAt_43 : decode cX4_removeAt 43 = .ok (.getfield 7, 3) := by decide +kernel
theorem dX4_removeAt_46 : decode cX4_removeAt 46 = .ok (.iload 4, 2) := by decide +kernel
theorem dX4_removeAt_48 : decode cX4_removeAt 48 = .ok (.iload 5, 2) := by decide +kernel
theorem dX4_removeAt_50 : decode cX4_removeAt 50 = .ok (.iadd, 1) := by decide +kernel
theorem dX4_removeAt_51 : decode cX4_removeAt 51 = .ok (.iconst 1, 1) := by decide +kernel
theorem dX4_removeAt_52 : decode cX4_removeAt 52 = .ok (.iadd, 1) := by decide +kernel
theorem dX4_removeAt_53 : decode cX4_removeAt 53 = .ok (.iaload, 1) := by decide +kernel
theorem dX4_removeAt_54 : decode cX4_removeAt 54 = .ok (.iastore, 1) := by decide +kernel
theorem dX4_removeAt_55 : decode cX4_removeAt 55 = .ok (.iinc 5 1, 3) := by decide +kernel
theorem dX4_removeAt_58 : decode cX4_removeAt 58 = .ok (.goto (-40), 3) := by decide +kernel
theorem dX4_removeAt_61 : decode cX4_removeAt 61 = .ok (.aload_n 0, 1) := by decide +kernel
theorem dX4_removeAt_62 : decode cX4_removeAt 62 = .ok (.getfield 7, 3) := by decide +kernel
theorem dX4_removeAt_65 : decode cX4_removeAt 65 = .ok (.iconst 0, 1) := by decide +kernel
theorem dX4_removeAt_66 : decode cX4_removeAt 66 = .ok (.iload_n 1, 1) := by decide +kernel
theorem dX4_removeAt_67 : decode cX4_removeAt 67 = .ok (.iadd, 1) := by decide +kernel
theorem dX4_removeAt_68 : decode cX4_removeAt 68 = .ok (.dup2, 1) := by decide +kernel
theorem dX4_removeAt_69 : decode cX4_removeAt 69 = .ok (.iaload, 1) := by decide +kernel
theorem dX4_removeAt_70 : decode cX4_removeAt 70 = .ok (.iconst 1, 1) := by decide +kernel
theorem dX4_removeAt_71 : decode cX4_removeAt 71 = .ok (.isub, 1) := by decide +kernel
theorem dX4_removeAt_72 : decode cX4_removeAt 72 = .ok (.iastore, 1) := by decide +kernel
theorem dX4_removeAt_73 : decode cX4_removeAt 73 = .ok (.aload_n 0, 1) := by decide +kernel
theorem dX4_removeAt_74 : decode cX4_removeAt 74 = .ok (.getfield 7, 3) := by decide +kernel
theorem dX4_removeAt_77 : decode cX4_removeAt 77 = .ok (.iload 4, 2) := by decide +kernel
theorem dX4_removeAt_79 : decode cX4_removeAt 79 = .ok (.aload_n 0, 1) := by decide +kernel
theorem dX4_removeAt_80 : decode cX4_removeAt 80 = .ok (.getfield 7, 3) := by decide +kernel
theorem dX4_removeAt_83 : decode cX4_removeAt 83 = .ok (.iconst 0, 1) := by decide +kernel
theorem dX4_removeAt_84 : decode cX4_removeAt 84 = .ok (.iload_n 1, 1) := by decide +kernel
theorem dX4_removeAt_85 : decode cX4_removeAt 85 = .ok (.iadd, 1) := by decide +kernel
theorem dX4_removeAt_86 : decode cX4_removeAt 86 = .ok (.iaload, 1) := by decide +kernel
theorem dX4_removeAt_87 : decode cX4_removeAt 87 = .ok (.iadd, 1) := by decide +kernel
theorem dX4_removeAt_88 : decode cX4_removeAt 88 = .ok (.iconst 0, 1) := by decide +kernel
theorem dX4_removeAt_89 : decode cX4_removeAt 89 = .ok (.iastore, 1) := by decide +kernel
theorem dX4_removeAt_90 : decode cX4_removeAt 90 = .ok (.aload_n 0, 1) := by decide +kernel
theorem dX4_removeAt_91 : decode cX4_removeAt 91 = .ok (.iload_n 1, 1) := by decide +kernel
theorem dX4_removeAt_92 : decode cX4_removeAt 92 = .ok (.iload_n 3, 1) := by decide +kernel
theorem dX4_removeAt_93 : decode cX4_removeAt 93 = .ok (.invokevirtual 64, 3) := by decide +kernel
theorem dX4_removeAt_96 : decode cX4_removeAt 96 = .ok (.return_, 1) := by decide +kernel
theorem dX4_emptyDoor_0 : decode cX4_emptyDoor 0 = .ok (.iconst 0, 1) := by decide +kernel
theorem dX4_emptyDoor_1 : decode cX4_emptyDoor 1 = .ok (.istore_n 2, 1) := by decide +kernel
theorem dX4_emptyDoor_2 : decode cX4_emptyDoor 2 = .ok (.iconst 4, 1) := by decide +kernel
theorem dX4_emptyDoor_3 : decode cX4_emptyDoor 3 = .ok (.iload_n 1, 1) := by decide +kernel
theorem dX4_emptyDoor_4 : decode cX4_emptyDoor 4 = .ok (.imul, 1) := by decide +kernel
theorem dX4_emptyDoor_5 : decode cX4_emptyDoor 5 = .ok (.istore_n 3, 1) := by decide +kernel
theorem dX4_emptyDoor_6 : decode cX4_emptyDoor 6 = .ok (.iload_n 3, 1) := by decide +kernel
theorem dX4_emptyDoor_7 : decode cX4_emptyDoor 7 = .ok (.iconst 4, 1) := by decide +kernel
theorem dX4_emptyDoor_8 : decode cX4_emptyDoor 8 = .ok (.iload_n 1, 1) := by decide +kernel
theorem dX4_emptyDoor_9 : decode cX4_emptyDoor 9 = .ok (.imul, 1) := by decide +kernel
theorem dX4_emptyDoor_10 : decode cX4_emptyDoor 10 = .ok (.iconst 4, 1) := by decide +kernel
theorem dX4_emptyDoor_11 : decode cX4_emptyDoor 11 = .ok (.iadd, 1) := by decide +kernel
theorem dX4_emptyDoor_12 : decode cX4_emptyDoor 12 = .ok (.if_icmp .ge 41, 3) := by decide +kernel
theorem dX4_emptyDoor_15 : decode cX4_emptyDoor 15 = .ok (.aload_n 0, 1) := by decide +kernel
theorem dX4_emptyDoor_16 : decode cX4_emptyDoor 16 = .ok (.getfield 7, 3) := by decide +kernel
theorem dX4_emptyDoor_19 : decode cX4_emptyDoor 19 = .ok (.iconst 0, 1) := by decide +kernel
theorem dX4_emptyDoor_20 : decode cX4_emptyDoor 20 = .ok (.iload_n 3, 1) := by decide +kernel
theorem dX4_emptyDoor_21 : decode cX4_emptyDoor 21 = .ok (.iadd, 1) := by decide +kernel
theorem dX4_emptyDoor_22 : decode cX4_emptyDoor 22 = .ok (.iaload, 1) := by decide +kernel
theorem dX4_emptyDoor_23 : decode cX4_emptyDoor 23 = .ok (.ifCond .le 24, 3) := by decide +kernel
theorem dX4_emptyDoor_26 : decode cX4_emptyDoor 26 = .ok (.aload_n 0, 1) := by decide +kernel
theorem dX4_emptyDoor_27 : decode cX4_emptyDoor 27 = .ok (.iload_n 3, 1) := by decide +kernel
theorem dX4_emptyDoor_28 : decode cX4_emptyDoor 28 = .ok (.aload_n 0, 1) := by decide +kernel
theorem dX4_emptyDoor_29 : decode cX4_emptyDoor 29 = .ok (.getfield 7, 3) := by decide +kernel
theorem dX4_emptyDoor_32 : decode cX4_emptyDoor 32 = .ok (.iconst 0, 1) := by decide +kernel
theorem dX4_emptyDoor_33 : decode cX4_emptyDoor 33 = .ok (.iload_n 3, 1) := by decide +kernel
theorem dX4_emptyDoor_34 : decode cX4_emptyDoor 34 = .ok (.iadd, 1) := by decide +kernel
theorem dX4_emptyDoor_35 : decode cX4_emptyDoor 35 = .ok (.iaload, 1) := by decide +kernel
theorem dX4_emptyDoor_36 : decode cX4_emptyDoor 36 = .ok (.iconst 1, 1) := by decide +kernel
theorem dX4_emptyDoor_37 : decode cX4_emptyDoor 37 = .ok (.isub, 1) := by decide +kernel
theorem dX4_emptyDoor_38 : decode cX4_emptyDoor 38 = .ok (.invokevirtual 68, 3) := by decide +kernel
theorem dX4_emptyDoor_41 : decode cX4_emptyDoor 41 = .ok (.iinc 2 1, 3) := by decide +kernel
theorem dX4_emptyDoor_44 : decode cX4_emptyDoor 44 = .ok (.goto (-29), 3) := by decide +kernel
theorem dX4_emptyDoor_47 : decode cX4_emptyDoor 47 = .ok (.iinc 3 1, 3) := by decide +kernel
theorem dX4_emptyDoor_50 : decode cX4_emptyDoor 50 = .ok (.goto (-44), 3) := by decide +kernel
theorem dX4_emptyDoor_53 : decode cX4_emptyDoor 53 = .ok (.iload_n 2, 1) := by decide +kernel
theorem dX4_emptyDoor_54 : decode cX4_emptyDoor 54 = .ok (.ireturn, 1) := by decide +kernel
theorem dX4_beatsOn_0 : decode cX4_beatsOn 0 = .ok (.iconst 0, 1) := by decide +kernel
theorem dX4_beatsOn_1 : decode cX4_beatsOn 1 = .ok (.istore_n 2, 1) := by decide +kernel
theorem dX4_beatsOn_2 : decode cX4_beatsOn 2 = .ok (.iconst 0, 1) := by decide +kernel
theorem dX4_beatsOn_3 : decode cX4_beatsOn 3 = .ok (.istore_n 3, 1) := by decide +kernel
theorem dX4_beatsOn_4 : decode cX4_beatsOn 4 = .ok (.iload_n 3, 1) := by decide +kernel
theorem dX4_beatsOn_5 : decode cX4_beatsOn 5 = .ok (.aload_n 0, 1) := by decide +kernel
theorem dX4_beatsOn_6 : decode cX4_beatsOn 6 = .ok (.getfield 7, 3) := by decide +kernel
theorem dX4_beatsOn_9 : decode cX4_beatsOn 9 = .ok (.iconst 0, 1) := by decide +kernel
theorem dX4_beatsOn_10 : decode cX4_beatsOn 10 = .ok (.iload_n 1, 1) := by decide +kernel
theorem dX4_beatsOn_11 : decode cX4_beatsOn 11 = .ok (.iadd, 1) := by decide +kernel
theorem dX4_beatsOn_12 : decode cX4_beatsOn 12 = .ok (.iaload, 1) := by decide +kernel
theorem dX4_beatsOn_13 : decode cX4_beatsOn 13 = .ok (.if_icmp .ge 21, 3) := by decide +kernel
theorem dX4_beatsOn_16 : decode cX4_beatsOn 16 = .ok (.iload_n 2, 1) := by decide +kernel
theorem dX4_beatsOn_17 : decode cX4_beatsOn 17 = .ok (.aload_n 0, 1) := by decide +kernel
theorem dX4_beatsOn_18 : decode cX4_beatsOn 18 = .ok (.iload_n 1, 1) := by decide +kernel
theorem dX4_beatsOn_19 : decode cX4_beatsOn 19 = .ok (.iload_n 3, 1) := by decide +kernel
theorem dX4_beatsOn_20 : decode cX4_beatsOn 20 = .ok (.invokevirtual 53, 3) := by decide +kernel
theorem dX4_beatsOn_23 : decode cX4_beatsOn 23 = .ok (.invokestatic 71, 3) := by decide +kernel
theorem dX4_beatsOn_26 : decode cX4_beatsOn 26 = .ok (.iadd, 1) := by decide +kernel
theorem dX4_beatsOn_27 : decode cX4_beatsOn 27 = .ok (.istore_n 2, 1) := by decide +kernel
theorem dX4_beatsOn_28 : decode cX4_beatsOn 28 = .ok (.iinc 3 1, 3) := by decide +kernel
theorem dX4_beatsOn_31 : decode cX4_beatsOn 31 = .ok (.goto (-27), 3) := by decide +kernel
theorem dX4_beatsOn_34 : decode cX4_beatsOn 34 = .ok (.iload_n 2, 1) := by decide +kernel
theorem dX4_beatsOn_35 : decode cX4_beatsOn 35 = .ok (.ireturn, 1) := by decide +kernel
theorem dX4_wordWith_0 : decode cX4_wordWith 0 = .ok (.iload 4, 2) := by decide +kernel
theorem dX4_wordWith_2 : decode cX4_wordWith 2 = .ok (.iload_n 3, 1) := by decide +kernel
theorem dX4_wordWith_3 : decode cX4_wordWith 3 = .ok (.if_icmp .ge 13, 3) := by decide +kernel
theorem dX4_wordWith_6 : decode cX4_wordWith 6 = .ok (.aload_n 0, 1) := by decide +kernel
theorem dX4_wordWith_7 : decode cX4_wordWith 7 = .ok (.iload_n 2, 1) := by decide +kernel
theorem dX4_wordWith_8 : decode cX4_wordWith 8 = .ok (.iload 4, 2) := by decide +kernel
theorem dX4_wordWith_10 : decode cX4_wordWith 10 = .ok (.invokevirtual 53, 3) := by decide +kernel
theorem dX4_wordWith_13 : decode cX4_wordWith 13 = .ok (.goto 22, 3) := by decide +kernel
theorem dX4_wordWith_16 : decode cX4_wordWith 16 = .ok (.iload 4, 2) := by decide +kernel
theorem dX4_wordWith_18 : decode cX4_wordWith 18 = .ok (.iload_n 3, 1) := by decide +kernel
theorem dX4_wordWith_19 : decode cX4_wordWith 19 = .ok (.if_icmp .ne 7, 3) := by decide +kernel
theorem dX4_wordWith_22 : decode cX4_wordWith 22 = .ok (.iload_n 1, 1) := by decide +kernel
theorem dX4_wordWith_23 : decode cX4_wordWith 23 = .ok (.goto 12, 3) := by decide +kernel
theorem dX4_wordWith_26 : decode cX4_wordWith 26 = .ok (.aload_n 0, 1) := by decide +kernel
theorem dX4_wordWith_27 : decode cX4_wordWith 27 = .ok (.iload_n 2, 1) := by decide +kernel
theorem dX4_wordWith_28 : decode cX4_wordWith 28 = .ok (.iload 4, 2) := by decide +kernel
theorem dX4_wordWith_30 : decode cX4_wordWith 30 = .ok (.iconst 1, 1) := by decide +kernel
theorem dX4_wordWith_31 : decode cX4_wordWith 31 = .ok (.isub, 1) := by decide +kernel
theorem dX4_wordWith_32 : decode cX4_wordWith 32 = .ok (.invokevirtual 53, 3) := by decide +kernel
theorem dX4_wordWith_35 : decode cX4_wordWith 35 = .ok (.ireturn, 1) := by decide +kernel
theorem dX4_clash_0 : decode cX4_clash 0 = .ok (.iload_n 0, 1) := by decide +kernel
theorem dX4_clash_1 : decode cX4_clash 1 = .ok (.invokestatic 74, 3) := by decide +kernel
theorem dX4_clash_4 : decode cX4_clash 4 = .ok (.iload_n 1, 1) := by decide +kernel
theorem dX4_clash_5 : decode cX4_clash 5 = .ok (.invokestatic 74, 3) := by decide +kernel
theorem dX4_clash_8 : decode cX4_clash 8 = .ok (.if_icmp .ne 15, 3) := by decide +kernel
theorem dX4_clash_11 : decode cX4_clash 11 = .ok (.iload_n 0, 1) := by decide +kernel
theorem dX4_clash_12 : decode cX4_clash 12 = .ok (.invokestatic 74, 3) := by decide +kernel
theorem dX4_clash_15 : decode cX4_clash 15 = .ok (.iconst 2, 1) := by decide +kernel
theorem dX4_clash_16 : decode cX4_clash 16 = .ok (.if_icmp .eq 7, 3) := by decide +kernel
theorem dX4_clash_19 : decode cX4_clash 19 = .ok (.iconst 1, 1) := by decide +kernel
theorem dX4_clash_20 : decode cX4_clash 20 = .ok (.goto 4, 3) := by decide +kernel
theorem dX4_clash_23 : decode cX4_clash 23 = .ok (.iconst 0, 1) := by decide +kernel
theorem dX4_clash_24 : decode cX4_clash 24 = .ok (.ireturn, 1) := by decide +kernel
theorem dX4_reason_0 : decode cX4_reason 0 = .ok (.aload_n 0, 1) := by decide +kernel
theorem dX4_reason_1 : decode cX4_reason 1 = .ok (.getfield 7, 3) := by decide +kernel
theorem dX4_reason_4 : decode cX4_reason 4 = .ok (.iconst 0, 1) := by decide +kernel
theorem dX4_reason_5 : decode cX4_reason 5 = .ok (.iload_n 2, 1) := by decide +kernel
theorem dX4_reason_6 : decode cX4_reason 6 = .ok (.iadd, 1) := by decide +kernel
theorem dX4_reason_7 : decode cX4_reason 7 = .ok (.iaload, 1) := by decide +kernel
theorem dX4_reason_8 : decode cX4_reason 8 = .ok (.istore 4, 2) := by decide +kernel
theorem dX4_reason_10 : decode cX4_reason 10 = .ok (.iload 4, 2) := by decide +kernel
theorem dX4_reason_12 : decode cX4_reason 12 = .ok (.bipush 6, 2) := by decide +kernel
theorem dX4_reason_14 : decode cX4_reason 14 = .ok (.if_icmp .ne 5, 3) := by decide +kernel
theorem dX4_reason_17 : decode cX4_reason 17 = .ok (.iconst 1, 1) := by decide +kernel
theorem dX4_reason_18 : decode cX4_reason 18 = .ok (.ireturn, 1) := by decide +kernel
theorem dX4_reason_19 : decode cX4_reason 19 = .ok (.aload_n 0, 1) := by decide +kernel
theorem dX4_reason_20 : decode cX4_reason 20 = .ok (.iload_n 2, 1) := by decide +kernel
theorem dX4_reason_21 : decode cX4_reason 21 = .ok (.invokevirtual 77, 3) := by decide +kernel
theorem dX4_reason_24 : decode cX4_reason 24 = .ok (.iload_n 1, 1) := by decide +kernel
theorem dX4_reason_25 : decode cX4_reason 25 = .ok (.invokestatic 71, 3) := by decide +kernel
theorem dX4_reason_28 : decode cX4_reason 28 = .ok (.iadd, 1) := by decide +kernel
theorem dX4_reason_29 : decode cX4_reason 29 = .ok (.bipush 12, 2) := by decide +kernel
theorem dX4_reason_31 : decode cX4_reason 31 = .ok (.if_icmp .le 5, 3) := by decide +kernel
theorem dX4_reason_34 : decode cX4_reason 34 = .ok (.iconst 2, 1) := by decide +kernel
theorem dX4_reason_35 : decode cX4_reason 35 = .ok (.ireturn, 1) := by decide +kernel
theorem dX4_reason_36 : decode cX4_reason 36 = .ok (.iconst 0, 1) := by decide +kernel
theorem dX4_reason_37 : decode cX4_reason 37 = .ok (.istore 5, 2) := by decide +kernel
theorem dX4_reason_39 : decode cX4_reason 39 = .ok (.iload 5, 2) := by decide +kernel
theorem dX4_reason_41 : decode cX4_reason 41 = .ok (.iload 4, 2) := by decide +kernel
theorem dX4_reason_43 : decode cX4_reason 43 = .ok (.if_icmp .ge 37, 3) := by decide +kernel
theorem dX4_reason_46 : decode cX4_reason 46 = .ok (.aload_n 0, 1) := by decide +kernel
theorem dX4_reason_47 : decode cX4_reason 47 = .ok (.iload_n 1, 1) := by decide +kernel
theorem dX4_reason_48 : decode cX4_reason 48 = .ok (.iload_n 2, 1) := by decide +kernel
theorem dX4_reason_49 : decode cX4_reason 49 = .ok (.iload_n 3, 1) := by decide +kernel
theorem dX4_reason_50 : decode cX4_reason 50 = .ok (.iload 5, 2) := by decide +kernel
theorem dX4_reason_52 : decode cX4_reason 52 = .ok (.invokevirtual 80, 3) := by decide +kernel
theorem dX4_reason_55 : decode cX4_reason 55 = .ok (.aload_n 0, 1) := by decide +kernel
theorem dX4_reason_56 : decode cX4_reason 56 = .ok (.iload_n 1, 1) := by decide +kernel
theorem dX4_reason_57 : decode cX4_reason 57 = .ok (.iload_n 2, 1) := by decide +kernel
theorem dX4_reason_58 : decode cX4_reason 58 = .ok (.iload_n 3, 1) := by decide +kernel
theorem dX4_reason_59 : decode cX4_reason 59 = .ok (.iload 5, 2) := by decide +kernel
theorem dX4_reason_61 : decode cX4_reason 61 = .ok (.iconst 1, 1) := by decide +kernel
theorem dX4_reason_62 : decode cX4_reason 62 = .ok (.iadd, 1) := by decide +kernel
theorem dX4_reason_63 : decode cX4_reason 63 = .ok (.invokevirtual 80, 3) := by decide +kernel
theorem dX4_reason_66 : decode cX4_reason 66 = .ok (.invokestatic 84, 3) := by decide +kernel
theorem dX4_reason_69 : decode cX4_reason 69 = .ok (.ifCond .eq 5, 3) := by decide +kernel
theorem dX4_reason_72 : decode cX4_reason 72 = .ok (.iconst 3, 1) := by decide +kernel
theorem dX4_reason_73 : decode cX4_reason 73 = .ok (.ireturn, 1) := by decide +kernel
theorem dX4_reason_74 : decode cX4_reason 74 = .ok (.iinc 5 1, 3) := by decide +kernel
theorem dX4_reason_77 : decode cX4_reason 77 = .ok (.goto (-38), 3) := by decide +kernel
theorem dX4_reason_80 : decode cX4_reason 80 = .ok (.iload_n 3, 1) := by decide +kernel
theorem dX4_reason_81 : decode cX4_reason 81 = .ok (.ifCond .eq 9, 3) := by decide +kernel
theorem dX4_reason_84 : decode cX4_reason 84 = .ok (.iload_n 3, 1) := by decide +kernel
theorem dX4_reason_85 : decode cX4_reason 85 = .ok (.iload 4, 2) := by decide +kernel
theorem dX4_reason_87 : decode cX4_reason 87 = .ok (.if_icmp .ne 7, 3) := by decide +kernel
theorem dX4_reason_90 : decode cX4_reason 90 = .ok (.iconst 1, 1) := by decide +kernel
theorem dX4_reason_91 : decode cX4_reason 91 = .ok (.goto 4, 3) := by decide +kernel
theorem dX4_reason_94 : decode cX4_reason 94 = .ok (.iconst 0, 1) := by decide +kernel
theorem dX4_reason_95 : decode cX4_reason 95 = .ok (.istore 5, 2) := by decide +kernel
theorem dX4_reason_97 : decode cX4_reason 97 = .ok (.aload_n 0, 1) := by decide +kernel
theorem dX4_reason_98 : decode cX4_reason 98 = .ok (.getfield 7, 3) := by decide +kernel
theorem dX4_reason_101 : decode cX4_reason 101 = .ok (.sipush 176, 3) := by decide +kernel
theorem dX4_reason_104 : decode cX4_reason 104 = .ok (.iaload, 1) := by decide +kernel
theorem dX4_reason_105 : decode cX4_reason 105 = .ok (.iconst 1, 1) := by decide +kernel
theorem dX4_reason_106 : decode cX4_reason 106 = .ok (.if_icmp .ne 20, 3) := by decide +kernel
theorem dX4_reason_109 : decode cX4_reason 109 = .ok (.iload_n 1, 1) := by decide +kernel
theorem dX4_reason_110 : decode cX4_reason 110 = .ok (.invokestatic 74, 3) := by decide +kernel
theorem dX4_reason_113 : decode cX4_reason 113 = .ok (.iconst 3, 1) := by decide +kernel
theorem dX4_reason_114 : decode cX4_reason 114 = .ok (.if_icmp .ne 12, 3) := by decide +kernel
theorem dX4_reason_117 : decode cX4_reason 117 = .ok (.iload 5, 2) := by decide +kernel
theorem dX4_reason_119 : decode cX4_reason 119 = .ok (.ifCond .eq 7, 3) := by decide +kernel
theorem dX4_reason_122 : decode cX4_reason 122 = .ok (.iconst 4, 1) := by decide +kernel
theorem dX4_reason_123 : decode cX4_reason 123 = .ok (.goto 4, 3) := by decide +kernel
theorem dX4_reason_126 : decode cX4_reason 126 = .ok (.iconst 0, 1) := by decide +kernel
theorem dX4_reason_127 : decode cX4_reason 127 = .ok (.ireturn, 1) := by decide +kernel
theorem dX4_hasKind_0 : decode cX4_hasKind 0 = .ok (.iconst 0, 1) := by decide +kernel
theorem dX4_hasKind_1 : decode cX4_hasKind 1 = .ok (.istore_n 3, 1) := by decide +kernel
theorem dX4_hasKind_2 : decode cX4_hasKind 2 = .ok (.iconst 0, 1) := by decide +kernel
theorem dX4_hasKind_3 : decode cX4_hasKind 3 = .ok (.istore 4, 2) := by decide +kernel
theorem dX4_hasKind_5 : decode cX4_hasKind 5 = .ok (.iload 4, 2) := by decide +kernel
theorem dX4_hasKind_7 : decode cX4_hasKind 7 = .ok (.aload_n 0, 1) := by decide +kernel
theorem dX4_hasKind_8 : decode cX4_hasKind 8 = .ok (.getfield 7, 3) := by decide +kernel
theorem dX4_hasKind_11 : decode cX4_hasKind 11 = .ok (.iconst 0, 1) := by decide +kernel
theorem dX4_hasKind_12 : decode cX4_hasKind 12 = .ok (.iload_n 1, 1) := by decide +kernel
theorem dX4_hasKind_13 : decode cX4_hasKind 13 = .ok (.iadd, 1) := by decide +kernel
theorem dX4_hasKind_14 : decode cX4_hasKind 14 = .ok (.iaload, 1) := by decide +kernel
theorem dX4_hasKind_15 : decode cX4_hasKind 15 = .ok (.if_icmp .ge 33, 3) := by decide +kernel
theorem dX4_hasKind_18 : decode cX4_hasKind 18 = .ok (.iload_n 3, 1) := by decide +kernel
theorem dX4_hasKind_19 : decode cX4_hasKind 19 = .ok (.ifCond .ne 17, 3) := by decide +kernel
theorem dX4_hasKind_22 : decode cX4_hasKind 22 = .ok (.aload_n 0, 1) := by decide +kernel
theorem dX4_hasKind_23 : decode cX4_hasKind 23 = .ok (.iload_n 1, 1) := by decide +kernel
theorem dX4_hasKind_24 : decode cX4_hasKind 24 = .ok (.iload 4, 2) := by decide +kernel
theorem dX4_hasKind_26 : decode cX4_hasKind 26 = .ok (.invokevirtual 53, 3) := by decide +kernel
theorem dX4_hasKind_29 : decode cX4_hasKind 29 = .ok (.invokestatic 74, 3) := by decide +kernel
theorem dX4_hasKind_32 : decode cX4_hasKind 32 = .ok (.iload_n 2, 1) := by decide +kernel
theorem dX4_hasKind_33 : decode cX4_hasKind 33 = .ok (.if_icmp .ne 7, 3) := by decide +kernel
theorem dX4_hasKind_36 : decode cX4_hasKind 36 = .ok (.iconst 1, 1) := by decide +kernel
theorem dX4_hasKind_37 : decode cX4_hasKind 37 = .ok (.goto 4, 3) := by decide +kernel
theorem dX4_hasKind_40 : decode cX4_hasKind 40 = .ok (.iconst 0, 1) := by decide +kernel
theorem dX4_hasKind_41 : decode cX4_hasKind 41 = .ok (.istore_n 3, 1) := by decide +kernel
theorem dX4_hasKind_42 : decode cX4_hasKind 42 = .ok (.iinc 4 1, 3) := by decide +kernel
theorem dX4_hasKind_45 : decode cX4_hasKind 45 = .ok (.goto (-40), 3) := by decide +kernel
theorem dX4_hasKind_48 : decode cX4_hasKind 48 = .ok (.iload_n 3, 1) := by decide +kernel
theorem dX4_hasKind_49 : decode cX4_hasKind 49 = .ok (.ireturn, 1) := by decide +kernel
theorem dX4_lineWorth_0 : decode cX4_lineWorth 0 = .ok (.aload_n 0, 1) := by decide +kernel
theorem dX4_lineWorth_1 : decode cX4_lineWorth 1 = .ok (.iload_n 1, 1) := by decide +kernel
theorem dX4_lineWorth_2 : decode cX4_lineWorth 2 = .ok (.invokevirtual 77, 3) := by decide +kernel
theorem dX4_lineWorth_5 : decode cX4_lineWorth 5 = .ok (.istore_n 2, 1) := by decide +kernel
theorem dX4_lineWorth_6 : decode cX4_lineWorth 6 = .ok (.iload_n 2, 1) := by decide +kernel
theorem dX4_lineWorth_7 : decode cX4_lineWorth 7 = .ok (.aload_n 0, 1) := by decide +kernel
theorem dX4_lineWorth_8 : decode cX4_lineWorth 8 = .ok (.iload_n 1, 1) := by decide +kernel
theorem dX4_lineWorth_9 : decode cX4_lineWorth 9 = .ok (.iconst 0, 1) := by decide +kernel

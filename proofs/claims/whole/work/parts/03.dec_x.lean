theorem dX0_init_0 : decode cX0_init 0 = .ok (.aload_n 0, 1) := by decide +kernel
theorem dX0_init_1 : decode cX0_init 1 = .ok (.invokespecial 3, 3) := by decide +kernel
theorem dX0_init_4 : decode cX0_init 4 = .ok (.aload_n 0, 1) := by decide +kernel
theorem dX0_init_5 : decode cX0_init 5 = .ok (.new 9, 3) := by decide +kernel
theorem dX0_init_8 : decode cX0_init 8 = .ok (.dup, 1) := by decide +kernel
theorem dX0_init_9 : decode cX0_init 9 = .ok (.invokespecial 11, 3) := by decide +kernel
theorem dX0_init_12 : decode cX0_init 12 = .ok (.putfield 12, 3) := by decide +kernel
theorem dX0_init_15 : decode cX0_init 15 = .ok (.return_, 1) := by decide +kernel
theorem dX0_clear_0 : decode cX0_clear 0 = .ok (.aload_n 0, 1) := by decide +kernel
theorem dX0_clear_1 : decode cX0_clear 1 = .ok (.iconst 0, 1) := by decide +kernel
theorem dX0_clear_2 : decode cX0_clear 2 = .ok (.putfield 18, 3) := by decide +kernel
theorem dX0_clear_5 : decode cX0_clear 5 = .ok (.aload_n 0, 1) := by decide +kernel
theorem dX0_clear_6 : decode cX0_clear 6 = .ok (.iconst 0, 1) := by decide +kernel
theorem dX0_clear_7 : decode cX0_clear 7 = .ok (.putfield 22, 3) := by decide +kernel
theorem dX0_clear_10 : decode cX0_clear 10 = .ok (.aload_n 0, 1) := by decide +kernel
theorem dX0_clear_11 : decode cX0_clear 11 = .ok (.iconst 0, 1) := by decide +kernel
theorem dX0_clear_12 : decode cX0_clear 12 = .ok (.putfield 26, 3) := by decide +kernel
theorem dX0_clear_15 : decode cX0_clear 15 = .ok (.aload_n 0, 1) := by decide +kernel
theorem dX0_clear_16 : decode cX0_clear 16 = .ok (.aconst_null, 1) := by decide +kernel
theorem dX0_clear_17 : decode cX0_clear 17 = .ok (.putfield 29, 3) := by decide +kernel
theorem dX0_clear_20 : decode cX0_clear 20 = .ok (.aload_n 0, 1) := by decide +kernel
theorem dX0_clear_21 : decode cX0_clear 21 = .ok (.aconst_null, 1) := by decide +kernel
theorem dX0_clear_22 : decode cX0_clear 22 = .ok (.putfield 33, 3) := by decide +kernel
theorem dX0_clear_25 : decode cX0_clear 25 = .ok (.return_, 1) := by decide +kernel
theorem dX0_makesArray_0 : decode cX0_makesArray 0 = .ok (.aload_n 0, 1) := by decide +kernel
theorem dX0_makesArray_1 : decode cX0_makesArray 1 = .ok (.getfield 18, 3) := by decide +kernel
theorem dX0_makesArray_4 : decode cX0_makesArray 4 = .ok (.bipush 9, 2) := by decide +kernel
theorem dX0_makesArray_6 : decode cX0_makesArray 6 = .ok (.if_icmp .eq 29, 3) := by decide +kernel
theorem dX0_makesArray_9 : decode cX0_makesArray 9 = .ok (.aload_n 0, 1) := by decide +kernel
theorem dX0_makesArray_10 : decode cX0_makesArray 10 = .ok (.getfield 18, 3) := by decide +kernel
theorem dX0_makesArray_13 : decode cX0_makesArray 13 = .ok (.iconst 5, 1) := by decide +kernel
theorem dX0_makesArray_14 : decode cX0_makesArray 14 = .ok (.if_icmp .eq 21, 3) := by decide +kernel
theorem dX0_makesArray_17 : decode cX0_makesArray 17 = .ok (.aload_n 0, 1) := by decide +kernel
theorem dX0_makesArray_18 : decode cX0_makesArray 18 = .ok (.getfield 18, 3) := by decide +kernel
theorem dX0_makesArray_21 : decode cX0_makesArray 21 = .ok (.bipush 6, 2) := by decide +kernel
theorem dX0_makesArray_23 : decode cX0_makesArray 23 = .ok (.if_icmp .eq 12, 3) := by decide +kernel
theorem dX0_makesArray_26 : decode cX0_makesArray 26 = .ok (.aload_n 0, 1) := by decide +kernel
theorem dX0_makesArray_27 : decode cX0_makesArray 27 = .ok (.getfield 18, 3) := by decide +kernel
theorem dX0_makesArray_30 : decode cX0_makesArray 30 = .ok (.bipush 7, 2) := by decide +kernel
theorem dX0_makesArray_32 : decode cX0_makesArray 32 = .ok (.if_icmp .ne 7, 3) := by decide +kernel
theorem dX0_makesArray_35 : decode cX0_makesArray 35 = .ok (.iconst 1, 1) := by decide +kernel
theorem dX0_makesArray_36 : decode cX0_makesArray 36 = .ok (.goto 4, 3) := by decide +kernel
theorem dX0_makesArray_39 : decode cX0_makesArray 39 = .ok (.iconst 0, 1) := by decide +kernel
theorem dX0_makesArray_40 : decode cX0_makesArray 40 = .ok (.ireturn, 1) := by decide +kernel
theorem dX1_init_0 : decode cX1_init 0 = .ok (.aload_n 0, 1) := by decide +kernel
theorem dX1_init_1 : decode cX1_init 1 = .ok (.invokespecial 3, 3) := by decide +kernel
theorem dX1_init_4 : decode cX1_init 4 = .ok (.aload_n 0, 1) := by decide +kernel
theorem dX1_init_5 : decode cX1_init 5 = .ok (.iconst 0, 1) := by decide +kernel
theorem dX1_init_6 : decode cX1_init 6 = .ok (.putfield 9, 3) := by decide +kernel
theorem dX1_init_9 : decode cX1_init 9 = .ok (.aload_n 0, 1) := by decide +kernel
theorem dX1_init_10 : decode cX1_init 10 = .ok (.bipush 24, 2) := by decide +kernel
theorem dX1_init_12 : decode cX1_init 12 = .ok (.newarray .double, 2) := by decide +kernel
theorem dX1_init_14 : decode cX1_init 14 = .ok (.putfield 15, 3) := by decide +kernel
theorem dX1_init_17 : decode cX1_init 17 = .ok (.return_, 1) := by decide +kernel
theorem dX1_count_0 : decode cX1_count 0 = .ok (.aload_n 0, 1) := by decide +kernel
theorem dX1_count_1 : decode cX1_count 1 = .ok (.getfield 9, 3) := by decide +kernel
theorem dX1_count_4 : decode cX1_count 4 = .ok (.invokestatic 19, 3) := by decide +kernel
theorem dX1_count_7 : decode cX1_count 7 = .ok (.ireturn, 1) := by decide +kernel
theorem dX1_hasElement_0 : decode cX1_hasElement 0 = .ok (.iload_n 1, 1) := by decide +kernel
theorem dX1_hasElement_1 : decode cX1_hasElement 1 = .ok (.ifCond .lt 15, 3) := by decide +kernel
theorem dX1_hasElement_4 : decode cX1_hasElement 4 = .ok (.iload_n 1, 1) := by decide +kernel
theorem dX1_hasElement_5 : decode cX1_hasElement 5 = .ok (.aload_n 0, 1) := by decide +kernel
theorem dX1_hasElement_6 : decode cX1_hasElement 6 = .ok (.invokevirtual 24, 3) := by decide +kernel
theorem dX1_hasElement_9 : decode cX1_hasElement 9 = .ok (.if_icmp .ge 7, 3) := by decide +kernel
theorem dX1_hasElement_12 : decode cX1_hasElement 12 = .ok (.iconst 1, 1) := by decide +kernel
theorem dX1_hasElement_13 : decode cX1_hasElement 13 = .ok (.goto 4, 3) := by decide +kernel
theorem dX1_hasElement_16 : decode cX1_hasElement 16 = .ok (.iconst 0, 1) := by decide +kernel
theorem dX1_hasElement_17 : decode cX1_hasElement 17 = .ok (.ireturn, 1) := by decide +kernel
theorem dX1_becomeZeros_0 : decode cX1_becomeZeros 0 = .ok (.aload_n 0, 1) := by decide +kernel
theorem dX1_becomeZeros_1 : decode cX1_becomeZeros 1 = .ok (.iload_n 1, 1) := by decide +kernel
theorem dX1_becomeZeros_2 : decode cX1_becomeZeros 2 = .ok (.putfield 9, 3) := by decide +kernel
theorem dX1_becomeZeros_5 : decode cX1_becomeZeros 5 = .ok (.iconst 0, 1) := by decide +kernel
theorem dX1_becomeZeros_6 : decode cX1_becomeZeros 6 = .ok (.istore_n 2, 1) := by decide +kernel
theorem dX1_becomeZeros_7 : decode cX1_becomeZeros 7 = .ok (.iload_n 2, 1) := by decide +kernel
theorem dX1_becomeZeros_8 : decode cX1_becomeZeros 8 = .ok (.bipush 24, 2) := by decide +kernel
theorem dX1_becomeZeros_10 : decode cX1_becomeZeros 10 = .ok (.if_icmp .ge 16, 3) := by decide +kernel
theorem dX1_becomeZeros_13 : decode cX1_becomeZeros 13 = .ok (.aload_n 0, 1) := by decide +kernel
theorem dX1_becomeZeros_14 : decode cX1_becomeZeros 14 = .ok (.getfield 15, 3) := by decide +kernel
theorem dX1_becomeZeros_17 : decode cX1_becomeZeros 17 = .ok (.iload_n 2, 1) := by decide +kernel
theorem dX1_becomeZeros_18 : decode cX1_becomeZeros 18 = .ok (.dconst 0, 1) := by decide +kernel
theorem dX1_becomeZeros_19 : decode cX1_becomeZeros 19 = .ok (.dastore, 1) := by decide +kernel
theorem dX1_becomeZeros_20 : decode cX1_becomeZeros 20 = .ok (.iinc 2 1, 3) := by decide +kernel
theorem dX1_becomeZeros_23 : decode cX1_becomeZeros 23 = .ok (.goto (-16), 3) := by decide +kernel
theorem dX1_becomeZeros_26 : decode cX1_becomeZeros 26 = .ok (.return_, 1) := by decide +kernel
theorem dX1_becomeCopy_0 : decode cX1_becomeCopy 0 = .ok (.aload_n 0, 1) := by decide +kernel
theorem dX1_becomeCopy_1 : decode cX1_becomeCopy 1 = .ok (.aload_n 1, 1) := by decide +kernel
theorem dX1_becomeCopy_2 : decode cX1_becomeCopy 2 = .ok (.getfield 9, 3) := by decide +kernel
theorem dX1_becomeCopy_5 : decode cX1_becomeCopy 5 = .ok (.putfield 9, 3) := by decide +kernel
theorem dX1_becomeCopy_8 : decode cX1_becomeCopy 8 = .ok (.iconst 0, 1) := by decide +kernel
theorem dX1_becomeCopy_9 : decode cX1_becomeCopy 9 = .ok (.istore_n 2, 1) := by decide +kernel
theorem dX1_becomeCopy_10 : decode cX1_becomeCopy 10 = .ok (.iload_n 2, 1) := by decide +kernel
theorem dX1_becomeCopy_11 : decode cX1_becomeCopy 11 = .ok (.bipush 24, 2) := by decide +kernel
theorem dX1_becomeCopy_13 : decode cX1_becomeCopy 13 = .ok (.if_icmp .ge 21, 3) := by decide +kernel
theorem dX1_becomeCopy_16 : decode cX1_becomeCopy 16 = .ok (.aload_n 0, 1) := by decide +kernel
theorem dX1_becomeCopy_17 : decode cX1_becomeCopy 17 = .ok (.getfield 15, 3) := by decide +kernel
theorem dX1_becomeCopy_20 : decode cX1_becomeCopy 20 = .ok (.iload_n 2, 1) := by decide +kernel
theorem dX1_becomeCopy_21 : decode cX1_becomeCopy 21 = .ok (.aload_n 1, 1) := by decide +kernel
theorem dX1_becomeCopy_22 : decode cX1_becomeCopy 22 = .ok (.getfield 15, 3) := by decide +kernel
theorem dX1_becomeCopy_25 : decode cX1_becomeCopy 25 = .ok (.iload_n 2, 1) := by decide +kernel
theorem dX1_becomeCopy_26 : decode cX1_becomeCopy 26 = .ok (.daload, 1) := by decide +kernel
theorem dX1_becomeCopy_27 : decode cX1_becomeCopy 27 = .ok (.dastore, 1) := by decide +kernel
theorem dX1_becomeCopy_28 : decode cX1_becomeCopy 28 = .ok (.iinc 2 1, 3) := by decide +kernel
theorem dX1_becomeCopy_31 : decode cX1_becomeCopy 31 = .ok (.goto (-21), 3) := by decide +kernel
theorem dX1_becomeCopy_34 : decode cX1_becomeCopy 34 = .ok (.return_, 1) := by decide +kernel
theorem dX2_readWhole_0 : decode cX2_readWhole 0 = .ok (.aload_n 0, 1) := by decide +kernel
theorem dX2_readWhole_1 : decode cX2_readWhole 1 = .ok (.invokevirtual 9, 3) := by decide +kernel
theorem dX2_readWhole_4 : decode cX2_readWhole 4 = .ok (.aload_n 1, 1) := by decide +kernel
theorem dX2_readWhole_5 : decode cX2_readWhole 5 = .ok (.invokevirtual 14, 3) := by decide +kernel
theorem dX2_readWhole_8 : decode cX2_readWhole 8 = .ok (.aload_n 0, 1) := by decide +kernel
theorem dX2_readWhole_9 : decode cX2_readWhole 9 = .ok (.aload_n 1, 1) := by decide +kernel
theorem dX2_readWhole_10 : decode cX2_readWhole 10 = .ok (.iconst 0, 1) := by decide +kernel
theorem dX2_readWhole_11 : decode cX2_readWhole 11 = .ok (.invokestatic 19, 3) := by decide +kernel
theorem dX2_readWhole_14 : decode cX2_readWhole 14 = .ok (.astore_n 2, 1) := by decide +kernel
theorem dX2_readWhole_15 : decode cX2_readWhole 15 = .ok (.aload_n 0, 1) := by decide +kernel
theorem dX2_readWhole_16 : decode cX2_readWhole 16 = .ok (.invokevirtual 25, 3) := by decide +kernel
theorem dX2_readWhole_19 : decode cX2_readWhole 19 = .ok (.ifCond .eq 13, 3) := by decide +kernel
theorem dX2_readWhole_22 : decode cX2_readWhole 22 = .ok (.new 29, 3) := by decide +kernel
theorem dX2_readWhole_25 : decode cX2_readWhole 25 = .ok (.dup, 1) := by decide +kernel
theorem dX2_readWhole_26 : decode cX2_readWhole 26 = .ok (.ldc 31, 2) := by decide +kernel
theorem dX2_readWhole_28 : decode cX2_readWhole 28 = .ok (.invokespecial 33, 3) := by decide +kernel
theorem dX2_readWhole_31 : decode cX2_readWhole 31 = .ok (.athrow, 1) := by decide +kernel
theorem dX2_readWhole_32 : decode cX2_readWhole 32 = .ok (.aload_n 2, 1) := by decide +kernel
theorem dX2_readWhole_33 : decode cX2_readWhole 33 = .ok (.areturn, 1) := by decide +kernel
theorem dX2_readExpression_0 : decode cX2_readExpression 0 = .ok (.iload_n 2, 1) := by decide +kernel
theorem dX2_readExpression_1 : decode cX2_readExpression 1 = .ok (.bipush 40, 2) := by decide +kernel
theorem dX2_readExpression_3 : decode cX2_readExpression 3 = .ok (.if_icmp .le 13, 3) := by decide +kernel
theorem dX2_readExpression_6 : decode cX2_readExpression 6 = .ok (.new 29, 3) := by decide +kernel
theorem dX2_readExpression_9 : decode cX2_readExpression 9 = .ok (.dup, 1) := by decide +kernel
theorem dX2_readExpression_10 : decode cX2_readExpression 10 = .ok (.ldc 36, 2) := by decide +kernel
theorem dX2_readExpression_12 : decode cX2_readExpression 12 = .ok (.invokespecial 33, 3) := by decide +kernel
theorem dX2_readExpression_15 : decode cX2_readExpression 15 = .ok (.athrow, 1) := by decide +kernel
theorem dX2_readExpression_16 : decode cX2_readExpression 16 = .ok (.aload_n 1, 1) := by decide +kernel
theorem dX2_readExpression_17 : decode cX2_readExpression 17 = .ok (.invokevirtual 38, 3) := by decide +kernel
theorem dX2_readExpression_20 : decode cX2_readExpression 20 = .ok (.astore_n 3, 1) := by decide +kernel
theorem dX2_readExpression_21 : decode cX2_readExpression 21 = .ok (.aload_n 0, 1) := by decide +kernel
theorem dX2_readExpression_22 : decode cX2_readExpression 22 = .ok (.aload_n 3, 1) := by decide +kernel
theorem dX2_readExpression_23 : decode cX2_readExpression 23 = .ok (.invokestatic 42, 3) := by decide +kernel
theorem dX2_readExpression_26 : decode cX2_readExpression 26 = .ok (.ifCond .ne 28, 3) := by decide +kernel
theorem dX2_readExpression_29 : decode cX2_readExpression 29 = .ok (.aload_n 0, 1) := by decide +kernel
theorem dX2_readExpression_30 : decode cX2_readExpression 30 = .ok (.aload_n 1, 1) := by decide +kernel
theorem dX2_readExpression_31 : decode cX2_readExpression 31 = .ok (.iload_n 2, 1) := by decide +kernel
theorem dX2_readExpression_32 : decode cX2_readExpression 32 = .ok (.invokestatic 46, 3) := by decide +kernel
theorem dX2_readExpression_35 : decode cX2_readExpression 35 = .ok (.astore 4, 2) := by decide +kernel
theorem dX2_readExpression_37 : decode cX2_readExpression 37 = .ok (.aload_n 0, 1) := by decide +kernel
theorem dX2_readExpression_38 : decode cX2_readExpression 38 = .ok (.aload_n 3, 1) := by decide +kernel
theorem dX2_readExpression_39 : decode cX2_readExpression 39 = .ok (.invokestatic 49, 3) := by decide +kernel
theorem dX2_readExpression_42 : decode cX2_readExpression 42 = .ok (.ifCond .ne 6, 3) := by decide +kernel
theorem dX2_readExpression_45 : decode cX2_readExpression 45 = .ok (.aload 4, 2) := by decide +kernel
theorem dX2_readExpression_47 : decode cX2_readExpression 47 = .ok (.areturn, 1) := by decide +kernel
theorem dX2_readExpression_48 : decode cX2_readExpression 48 = .ok (.aload_n 3, 1) := by decide +kernel
theorem dX2_readExpression_49 : decode cX2_readExpression 49 = .ok (.aload 4, 2) := by decide +kernel
theorem dX2_readExpression_51 : decode cX2_readExpression 51 = .ok (.putfield 52, 3) := by decide +kernel
theorem dX2_readExpression_54 : decode cX2_readExpression 54 = .ok (.aload_n 3, 1) := by decide +kernel
theorem dX2_readExpression_55 : decode cX2_readExpression 55 = .ok (.aload_n 0, 1) := by decide +kernel
theorem dX2_readExpression_56 : decode cX2_readExpression 56 = .ok (.aload_n 1, 1) := by decide +kernel
theorem dX2_readExpression_57 : decode cX2_readExpression 57 = .ok (.iload_n 2, 1) := by decide +kernel
theorem dX2_readExpression_58 : decode cX2_readExpression 58 = .ok (.iconst 1, 1) := by decide +kernel
theorem dX2_readExpression_59 : decode cX2_readExpression 59 = .ok (.iadd, 1) := by decide +kernel
theorem dX2_readExpression_60 : decode cX2_readExpression 60 = .ok (.invokestatic 19, 3) := by decide +kernel
theorem dX2_readExpression_63 : decode cX2_readExpression 63 = .ok (.putfield 58, 3) := by decide +kernel
theorem dX2_readExpression_66 : decode cX2_readExpression 66 = .ok (.aload_n 3, 1) := by decide +kernel
theorem dX2_readExpression_67 : decode cX2_readExpression 67 = .ok (.areturn, 1) := by decide +kernel
theorem dX2_readPart_0 : decode cX2_readPart 0 = .ok (.aload_n 0, 1) := by decide +kernel
theorem dX2_readPart_1 : decode cX2_readPart 1 = .ok (.bipush 40, 2) := by decide +kernel
theorem dX2_readPart_3 : decode cX2_readPart 3 = .ok (.invokevirtual 61, 3) := by decide +kernel
theorem dX2_readPart_6 : decode cX2_readPart 6 = .ok (.ifCond .eq 33, 3) := by decide +kernel
theorem dX2_readPart_9 : decode cX2_readPart 9 = .ok (.aload_n 0, 1) := by decide +kernel
theorem dX2_readPart_10 : decode cX2_readPart 10 = .ok (.aload_n 1, 1) := by decide +kernel
theorem dX2_readPart_11 : decode cX2_readPart 11 = .ok (.iload_n 2, 1) := by decide +kernel
theorem dX2_readPart_12 : decode cX2_readPart 12 = .ok (.iconst 1, 1) := by decide +kernel
theorem dX2_readPart_13 : decode cX2_readPart 13 = .ok (.iadd, 1) := by decide +kernel
theorem dX2_readPart_14 : decode cX2_readPart 14 = .ok (.invokestatic 19, 3) := by decide +kernel
theorem dX2_readPart_17 : decode cX2_readPart 17 = .ok (.astore_n 3, 1) := by decide +kernel
theorem dX2_readPart_18 : decode cX2_readPart 18 = .ok (.aload_n 0, 1) := by decide +kernel
theorem dX2_readPart_19 : decode cX2_readPart 19 = .ok (.bipush 41, 2) := by decide +kernel
theorem dX2_readPart_21 : decode cX2_readPart 21 = .ok (.invokevirtual 61, 3) := by decide +kernel
theorem dX2_readPart_24 : decode cX2_readPart 24 = .ok (.ifCond .ne 13, 3) := by decide +kernel
theorem dX2_readPart_27 : decode cX2_readPart 27 = .ok (.new 29, 3) := by decide +kernel
theorem dX2_readPart_30 : decode cX2_readPart 30 = .ok (.dup, 1) := by decide +kernel
theorem dX2_readPart_31 : decode cX2_readPart 31 = .ok (.ldc 65, 2) := by decide +kernel
theorem dX2_readPart_33 : decode cX2_readPart 33 = .ok (.invokespecial 33, 3) := by decide +kernel
theorem dX2_readPart_36 : decode cX2_readPart 36 = .ok (.athrow, 1) := by decide +kernel
theorem dX2_readPart_37 : decode cX2_readPart 37 = .ok (.aload_n 3, 1) := by decide +kernel
theorem dX2_readPart_38 : decode cX2_readPart 38 = .ok (.areturn, 1) := by decide +kernel
theorem dX2_readPart_39 : decode cX2_readPart 39 = .ok (.aload_n 1, 1) := by decide +kernel
theorem dX2_readPart_40 : decode cX2_readPart 40 = .ok (.invokevirtual 38, 3) := by decide +kernel
theorem dX2_readPart_43 : decode cX2_readPart 43 = .ok (.astore_n 3, 1) := by decide +kernel
theorem dX2_readPart_44 : decode cX2_readPart 44 = .ok (.aload_n 0, 1) := by decide +kernel
theorem dX2_readPart_45 : decode cX2_readPart 45 = .ok (.invokevirtual 25, 3) := by decide +kernel
theorem dX2_readPart_48 : decode cX2_readPart 48 = .ok (.bipush 97, 2) := by decide +kernel
theorem dX2_readPart_50 : decode cX2_readPart 50 = .ok (.isub, 1) := by decide +kernel
theorem dX2_readPart_51 : decode cX2_readPart 51 = .ok (.invokestatic 67, 3) := by decide +kernel
theorem dX2_readPart_54 : decode cX2_readPart 54 = .ok (.ifCond .eq 26, 3) := by decide +kernel
theorem dX2_readPart_57 : decode cX2_readPart 57 = .ok (.aload_n 3, 1) := by decide +kernel
theorem dX2_readPart_58 : decode cX2_readPart 58 = .ok (.iconst 1, 1) := by decide +kernel
theorem dX2_readPart_59 : decode cX2_readPart 59 = .ok (.putfield 71, 3) := by decide +kernel
theorem dX2_readPart_62 : decode cX2_readPart 62 = .ok (.aload_n 3, 1) := by decide +kernel
theorem dX2_readPart_63 : decode cX2_readPart 63 = .ok (.aload_n 0, 1) := by decide +kernel
theorem dX2_readPart_64 : decode cX2_readPart 64 = .ok (.invokevirtual 25, 3) := by decide +kernel
theorem dX2_readPart_67 : decode cX2_readPart 67 = .ok (.bipush 97, 2) := by decide +kernel
theorem dX2_readPart_69 : decode cX2_readPart 69 = .ok (.isub, 1) := by decide +kernel
theorem dX2_readPart_70 : decode cX2_readPart 70 = .ok (.putfield 75, 3) := by decide +kernel
theorem dX2_readPart_73 : decode cX2_readPart 73 = .ok (.aload_n 0, 1) := by decide +kernel
theorem dX2_readPart_74 : decode cX2_readPart 74 = .ok (.invokevirtual 78, 3) := by decide +kernel
theorem dX2_readPart_77 : decode cX2_readPart 77 = .ok (.goto 41, 3) := by decide +kernel
theorem dX2_readPart_80 : decode cX2_readPart 80 = .ok (.aload_n 0, 1) := by decide +kernel
theorem dX2_readPart_81 : decode cX2_readPart 81 = .ok (.bipush 105, 2) := by decide +kernel
theorem dX2_readPart_83 : decode cX2_readPart 83 = .ok (.invokevirtual 61, 3) := by decide +kernel
theorem dX2_readPart_86 : decode cX2_readPart 86 = .ok (.ifCond .eq 19, 3) := by decide +kernel
theorem dX2_readPart_89 : decode cX2_readPart 89 = .ok (.aload_n 3, 1) := by decide +kernel
theorem dX2_readPart_90 : decode cX2_readPart 90 = .ok (.iconst 3, 1) := by decide +kernel
theorem dX2_readPart_91 : decode cX2_readPart 91 = .ok (.putfield 71, 3) := by decide +kernel
theorem dX2_readPart_94 : decode cX2_readPart 94 = .ok (.aload_n 3, 1) := by decide +kernel
theorem dX2_readPart_95 : decode cX2_readPart 95 = .ok (.aload_n 0, 1) := by decide +kernel
theorem dX2_readPart_96 : decode cX2_readPart 96 = .ok (.invokestatic 81, 3) := by decide +kernel
theorem dX2_readPart_99 : decode cX2_readPart 99 = .ok (.putfield 75, 3) := by decide +kernel
theorem dX2_readPart_102 : decode cX2_readPart 102 = .ok (.goto 16, 3) := by decide +kernel
theorem dX2_readPart_105 : decode cX2_readPart 105 = .ok (.aload_n 3, 1) := by decide +kernel
theorem dX2_readPart_106 : decode cX2_readPart 106 = .ok (.iconst 2, 1) := by decide +kernel
theorem dX2_readPart_107 : decode cX2_readPart 107 = .ok (.putfield 71, 3) := by decide +kernel
theorem dX2_readPart_110 : decode cX2_readPart 110 = .ok (.aload_n 0, 1) := by decide +kernel
theorem dX2_readPart_111 : decode cX2_readPart 111 = .ok (.aload_n 3, 1) := by decide +kernel
theorem dX2_readPart_112 : decode cX2_readPart 112 = .ok (.getfield 85, 3) := by decide +kernel
theorem dX2_readPart_115 : decode cX2_readPart 115 = .ok (.invokestatic 89, 3) := by decide +kernel
theorem dX2_readPart_118 : decode cX2_readPart 118 = .ok (.aload_n 3, 1) := by decide +kernel
theorem dX2_readPart_119 : decode cX2_readPart 119 = .ok (.areturn, 1) := by decide +kernel
theorem dX2_readConstant_0 : decode cX2_readConstant 0 = .ok (.aload_n 1, 1) := by decide +kernel
theorem dX2_readConstant_1 : decode cX2_readConstant 1 = .ok (.getfield 93, 3) := by decide +kernel
theorem dX2_readConstant_4 : decode cX2_readConstant 4 = .ok (.iconst 0, 1) := by decide +kernel
theorem dX2_readConstant_5 : decode cX2_readConstant 5 = .ok (.aload_n 0, 1) := by decide +kernel
theorem dX2_readConstant_6 : decode cX2_readConstant 6 = .ok (.invokestatic 81, 3) := by decide +kernel
theorem dX2_readConstant_9 : decode cX2_readConstant 9 = .ok (.i2d, 1) := by decide +kernel
theorem dX2_readConstant_10 : decode cX2_readConstant 10 = .ok (.dastore, 1) := by decide +kernel
theorem dX2_readConstant_11 : decode cX2_readConstant 11 = .ok (.iconst 1, 1) := by decide +kernel
theorem dX2_readConstant_12 : decode cX2_readConstant 12 = .ok (.istore_n 2, 1) := by decide +kernel
theorem dX2_readConstant_13 : decode cX2_readConstant 13 = .ok (.iload_n 2, 1) := by decide +kernel
theorem dX2_readConstant_14 : decode cX2_readConstant 14 = .ok (.bipush 24, 2) := by decide +kernel
theorem dX2_readConstant_16 : decode cX2_readConstant 16 = .ok (.if_icmp .ge 29, 3) := by decide +kernel
theorem dX2_readConstant_19 : decode cX2_readConstant 19 = .ok (.aload_n 0, 1) := by decide +kernel
theorem dX2_readConstant_20 : decode cX2_readConstant 20 = .ok (.bipush 32, 2) := by decide +kernel
theorem dX2_readConstant_22 : decode cX2_readConstant 22 = .ok (.invokevirtual 61, 3) := by decide +kernel
theorem dX2_readConstant_25 : decode cX2_readConstant 25 = .ok (.ifCond .eq 20, 3) := by decide +kernel
theorem dX2_readConstant_28 : decode cX2_readConstant 28 = .ok (.aload_n 1, 1) := by decide +kernel
theorem dX2_readConstant_29 : decode cX2_readConstant 29 = .ok (.getfield 93, 3) := by decide +kernel
theorem dX2_readConstant_32 : decode cX2_readConstant 32 = .ok (.iload_n 2, 1) := by decide +kernel
theorem dX2_readConstant_33 : decode cX2_readConstant 33 = .ok (.aload_n 0, 1) := by decide +kernel
theorem dX2_readConstant_34 : decode cX2_readConstant 34 = .ok (.invokestatic 81, 3) := by decide +kernel
theorem dX2_readConstant_37 : decode cX2_readConstant 37 = .ok (.i2d, 1) := by decide +kernel
theorem dX2_readConstant_38 : decode cX2_readConstant 38 = .ok (.dastore, 1) := by decide +kernel
theorem dX2_readConstant_39 : decode cX2_readConstant 39 = .ok (.iinc 2 1, 3) := by decide +kernel
theorem dX2_readConstant_42 : decode cX2_readConstant 42 = .ok (.goto (-29), 3) := by decide +kernel
theorem dX2_readConstant_45 : decode cX2_readConstant 45 = .ok (.aload_n 1, 1) := by decide +kernel
theorem dX2_readConstant_46 : decode cX2_readConstant 46 = .ok (.iload_n 2, 1) := by decide +kernel
theorem dX2_readConstant_47 : decode cX2_readConstant 47 = .ok (.iconst 1, 1) := by decide +kernel
theorem dX2_readConstant_48 : decode cX2_readConstant 48 = .ok (.if_icmp .ne 7, 3) := by decide +kernel
theorem dX2_readConstant_51 : decode cX2_readConstant 51 = .ok (.iconst 0, 1) := by decide +kernel
theorem dX2_readConstant_52 : decode cX2_readConstant 52 = .ok (.goto 4, 3) := by decide +kernel
theorem dX2_readConstant_55 : decode cX2_readConstant 55 = .ok (.iload_n 2, 1) := by decide +kernel
theorem dX2_readConstant_56 : decode cX2_readConstant 56 = .ok (.putfield 99, 3) := by decide +kernel
theorem dX2_readConstant_59 : decode cX2_readConstant 59 = .ok (.return_, 1) := by decide +kernel
theorem dX2_readNumber_0 : decode cX2_readNumber 0 = .ok (.iconst 0, 1) := by decide +kernel
theorem dX2_readNumber_1 : decode cX2_readNumber 1 = .ok (.istore_n 1, 1) := by decide +kernel
theorem dX2_readNumber_2 : decode cX2_readNumber 2 = .ok (.iconst 0, 1) := by decide +kernel
theorem dX2_readNumber_3 : decode cX2_readNumber 3 = .ok (.istore_n 2, 1) := by decide +kernel
theorem dX2_readNumber_4 : decode cX2_readNumber 4 = .ok (.iload_n 2, 1) := by decide +kernel
theorem dX2_readNumber_5 : decode cX2_readNumber 5 = .ok (.iconst 4, 1) := by decide +kernel
theorem dX2_readNumber_6 : decode cX2_readNumber 6 = .ok (.if_icmp .ge 36, 3) := by decide +kernel
theorem dX2_readNumber_9 : decode cX2_readNumber 9 = .ok (.aload_n 0, 1) := by decide +kernel
theorem dX2_readNumber_10 : decode cX2_readNumber 10 = .ok (.invokevirtual 25, 3) := by decide +kernel
theorem dX2_readNumber_13 : decode cX2_readNumber 13 = .ok (.invokestatic 102, 3) := by decide +kernel
theorem dX2_readNumber_16 : decode cX2_readNumber 16 = .ok (.ifCond .eq 26, 3) := by decide +kernel
theorem dX2_readNumber_19 : decode cX2_readNumber 19 = .ok (.iload_n 1, 1) := by decide +kernel
theorem dX2_readNumber_20 : decode cX2_readNumber 20 = .ok (.bipush 10, 2) := by decide +kernel
theorem dX2_readNumber_22 : decode cX2_readNumber 22 = .ok (.imul, 1) := by decide +kernel
theorem dX2_readNumber_23 : decode cX2_readNumber 23 = .ok (.aload_n 0, 1) := by decide +kernel
theorem dX2_readNumber_24 : decode cX2_readNumber 24 = .ok (.invokevirtual 25, 3) := by decide +kernel
theorem dX2_readNumber_27 : decode cX2_readNumber 27 = .ok (.bipush 48, 2) := by decide +kernel
theorem dX2_readNumber_29 : decode cX2_readNumber 29 = .ok (.isub, 1) := by decide +kernel
theorem dX2_readNumber_30 : decode cX2_readNumber 30 = .ok (.iadd, 1) := by decide +kernel
theorem dX2_readNumber_31 : decode cX2_readNumber 31 = .ok (.istore_n 1, 1) := by decide +kernel
theorem dX2_readNumber_32 : decode cX2_readNumber 32 = .ok (.iinc 2 1, 3) := by decide +kernel
theorem dX2_readNumber_35 : decode cX2_readNumber 35 = .ok (.aload_n 0, 1) := by decide +kernel
theorem dX2_readNumber_36 : decode cX2_readNumber 36 = .ok (.invokevirtual 78, 3) := by decide +kernel
theorem dX2_readNumber_39 : decode cX2_readNumber 39 = .ok (.goto (-35), 3) := by decide +kernel
theorem dX2_readNumber_42 : decode cX2_readNumber 42 = .ok (.iload_n 2, 1) := by decide +kernel
theorem dX2_readNumber_43 : decode cX2_readNumber 43 = .ok (.ifCond .ne 13, 3) := by decide +kernel
theorem dX2_readNumber_46 : decode cX2_readNumber 46 = .ok (.new 29, 3) := by decide +kernel
theorem dX2_readNumber_49 : decode cX2_readNumber 49 = .ok (.dup, 1) := by decide +kernel
theorem dX2_readNumber_50 : decode cX2_readNumber 50 = .ok (.ldc 105, 2) := by decide +kernel
theorem dX2_readNumber_52 : decode cX2_readNumber 52 = .ok (.invokespecial 33, 3) := by decide +kernel
theorem dX2_readNumber_55 : decode cX2_readNumber 55 = .ok (.athrow, 1) := by decide +kernel
theorem dX2_readNumber_56 : decode cX2_readNumber 56 = .ok (.iload_n 1, 1) := by decide +kernel
theorem dX2_readNumber_57 : decode cX2_readNumber 57 = .ok (.ireturn, 1) := by decide +kernel
theorem dX2_isDigit_0 : decode cX2_isDigit 0 = .ok (.iload_n 0, 1) := by decide +kernel
theorem dX2_isDigit_1 : decode cX2_isDigit 1 = .ok (.bipush 48, 2) := by decide +kernel
theorem dX2_isDigit_3 : decode cX2_isDigit 3 = .ok (.if_icmp .lt 13, 3) := by decide +kernel
theorem dX2_isDigit_6 : decode cX2_isDigit 6 = .ok (.iload_n 0, 1) := by decide +kernel
theorem dX2_isDigit_7 : decode cX2_isDigit 7 = .ok (.bipush 57, 2) := by decide +kernel
theorem dX2_isDigit_9 : decode cX2_isDigit 9 = .ok (.if_icmp .gt 7, 3) := by decide +kernel
theorem dX2_isDigit_12 : decode cX2_isDigit 12 = .ok (.iconst 1, 1) := by decide +kernel
theorem dX2_isDigit_13 : decode cX2_isDigit 13 = .ok (.goto 4, 3) := by decide +kernel
theorem dX2_isDigit_16 : decode cX2_isDigit 16 = .ok (.iconst 0, 1) := by decide +kernel
theorem dX2_isDigit_17 : decode cX2_isDigit 17 = .ok (.ireturn, 1) := by decide +kernel
theorem dX2_readFront_0 : decode cX2_readFront 0 = .ok (.aload_n 1, 1) := by decide +kernel
theorem dX2_readFront_1 : decode cX2_readFront 1 = .ok (.aload_n 0, 1) := by decide +kernel
theorem dX2_readFront_2 : decode cX2_readFront 2 = .ok (.invokevirtual 25, 3) := by decide +kernel
theorem dX2_readFront_5 : decode cX2_readFront 5 = .ok (.invokestatic 107, 3) := by decide +kernel
theorem dX2_readFront_8 : decode cX2_readFront 8 = .ok (.putfield 71, 3) := by decide +kernel
theorem dX2_readFront_11 : decode cX2_readFront 11 = .ok (.aload_n 1, 1) := by decide +kernel
theorem dX2_readFront_12 : decode cX2_readFront 12 = .ok (.getfield 71, 3) := by decide +kernel
theorem dX2_readFront_15 : decode cX2_readFront 15 = .ok (.ifCond .ne 5, 3) := by decide +kernel
theorem dX2_readFront_18 : decode cX2_readFront 18 = .ok (.iconst 0, 1) := by decide +kernel
theorem dX2_readFront_19 : decode cX2_readFront 19 = .ok (.ireturn, 1) := by decide +kernel
theorem dX2_readFront_20 : decode cX2_readFront 20 = .ok (.aload_n 0, 1) := by decide +kernel
theorem dX2_readFront_21 : decode cX2_readFront 21 = .ok (.invokevirtual 78, 3) := by decide +kernel
theorem dX2_readFront_24 : decode cX2_readFront 24 = .ok (.aload_n 1, 1) := by decide +kernel
theorem dX2_readFront_25 : decode cX2_readFront 25 = .ok (.getfield 71, 3) := by decide +kernel
theorem dX2_readFront_28 : decode cX2_readFront 28 = .ok (.bipush 6, 2) := by decide +kernel
theorem dX2_readFront_30 : decode cX2_readFront 30 = .ok (.if_icmp .eq 12, 3) := by decide +kernel
theorem dX2_readFront_33 : decode cX2_readFront 33 = .ok (.aload_n 1, 1) := by decide +kernel
theorem dX2_readFront_34 : decode cX2_readFront 34 = .ok (.getfield 71, 3) := by decide +kernel
theorem dX2_readFront_37 : decode cX2_readFront 37 = .ok (.bipush 7, 2) := by decide +kernel
theorem dX2_readFront_39 : decode cX2_readFront 39 = .ok (.if_icmp .ne 11, 3) := by decide +kernel
theorem dX2_readFront_42 : decode cX2_readFront 42 = .ok (.aload_n 1, 1) := by decide +kernel
theorem dX2_readFront_43 : decode cX2_readFront 43 = .ok (.aload_n 0, 1) := by decide +kernel
theorem dX2_readFront_44 : decode cX2_readFront 44 = .ok (.invokestatic 111, 3) := by decide +kernel
theorem dX2_readFront_47 : decode cX2_readFront 47 = .ok (.putfield 115, 3) := by decide +kernel
theorem dX2_readFront_50 : decode cX2_readFront 50 = .ok (.iconst 1, 1) := by decide +kernel
theorem dX2_readFront_51 : decode cX2_readFront 51 = .ok (.ireturn, 1) := by decide +kernel
theorem dX2_kindOfFront_0 : decode cX2_kindOfFront 0 = .ok (.iload_n 0, 1) := by decide +kernel
theorem dX2_kindOfFront_1 : decode cX2_kindOfFront 1 = .ok (.lookupswitch 53 #[(45, 43), (47, 47), (92, 50), (126, 45)], 43) := by decide +kernel
theorem dX2_kindOfFront_44 : decode cX2_kindOfFront 44 = .ok (.iconst 4, 1) := by decide +kernel
theorem dX2_kindOfFront_45 : decode cX2_kindOfFront 45 = .ok (.ireturn, 1) := by decide +kernel
theorem dX2_kindOfFront_46 : decode cX2_kindOfFront 46 = .ok (.iconst 5, 1) := by decide +kernel
theorem dX2_kindOfFront_47 : decode cX2_kindOfFront 47 = .ok (.ireturn, 1) := by decide +kernel
theorem dX2_kindOfFront_48 : decode cX2_kindOfFront 48 = .ok (.bipush 6, 2) := by decide +kernel
theorem dX2_kindOfFront_50 : decode cX2_kindOfFront 50 = .ok (.ireturn, 1) := by decide +kernel
theorem dX2_kindOfFront_51 : decode cX2_kindOfFront 51 = .ok (.bipush 7, 2) := by decide +kernel
theorem dX2_kindOfFront_53 : decode cX2_kindOfFront 53 = .ok (.ireturn, 1) := by decide +kernel
theorem dX2_kindOfFront_54 : decode cX2_kindOfFront 54 = .ok (.iconst 0, 1) := by decide +kernel
theorem dX2_kindOfFront_55 : decode cX2_kindOfFront 55 = .ok (.ireturn, 1) := by decide +kernel
theorem dX2_readFoldingSign_0 : decode cX2_readFoldingSign 0 = .ok (.aload_n 0, 1) := by decide +kernel
theorem dX2_readFoldingSign_1 : decode cX2_readFoldingSign 1 = .ok (.invokevirtual 25, 3) := by decide +kernel
theorem dX2_readFoldingSign_4 : decode cX2_readFoldingSign 4 = .ok (.istore_n 1, 1) := by decide +kernel
theorem dX2_readFoldingSign_5 : decode cX2_readFoldingSign 5 = .ok (.iload_n 1, 1) := by decide +kernel
theorem dX2_readFoldingSign_6 : decode cX2_readFoldingSign 6 = .ok (.bipush 43, 2) := by decide +kernel
theorem dX2_readFoldingSign_8 : decode cX2_readFoldingSign 8 = .ok (.if_icmp .eq 31, 3) := by decide +kernel
theorem dX2_readFoldingSign_11 : decode cX2_readFoldingSign 11 = .ok (.iload_n 1, 1) := by decide +kernel
theorem dX2_readFoldingSign_12 : decode cX2_readFoldingSign 12 = .ok (.bipush 42, 2) := by decide +kernel
theorem dX2_readFoldingSign_14 : decode cX2_readFoldingSign 14 = .ok (.if_icmp .eq 25, 3) := by decide +kernel
theorem dX2_readFoldingSign_17 : decode cX2_readFoldingSign 17 = .ok (.iload_n 1, 1) := by decide +kernel
theorem dX2_readFoldingSign_18 : decode cX2_readFoldingSign 18 = .ok (.bipush 38, 2) := by decide +kernel
theorem dX2_readFoldingSign_20 : decode cX2_readFoldingSign 20 = .ok (.if_icmp .eq 19, 3) := by decide +kernel
theorem dX2_readFoldingSign_23 : decode cX2_readFoldingSign 23 = .ok (.iload_n 1, 1) := by decide +kernel
theorem dX2_readFoldingSign_24 : decode cX2_readFoldingSign 24 = .ok (.bipush 124, 2) := by decide +kernel
theorem dX2_readFoldingSign_26 : decode cX2_readFoldingSign 26 = .ok (.if_icmp .eq 13, 3) := by decide +kernel
theorem dX2_readFoldingSign_29 : decode cX2_readFoldingSign 29 = .ok (.new 29, 3) := by decide +kernel
theorem dX2_readFoldingSign_32 : decode cX2_readFoldingSign 32 = .ok (.dup, 1) := by decide +kernel
theorem dX2_readFoldingSign_33 : decode cX2_readFoldingSign 33 = .ok (.ldc 119, 2) := by decide +kernel
theorem dX2_readFoldingSign_35 : decode cX2_readFoldingSign 35 = .ok (.invokespecial 33, 3) := by decide +kernel
theorem dX2_readFoldingSign_38 : decode cX2_readFoldingSign 38 = .ok (.athrow, 1) := by decide +kernel
theorem dX2_readFoldingSign_39 : decode cX2_readFoldingSign 39 = .ok (.aload_n 0, 1) := by decide +kernel
theorem dX2_readFoldingSign_40 : decode cX2_readFoldingSign 40 = .ok (.invokevirtual 78, 3) := by decide +kernel
theorem dX2_readFoldingSign_43 : decode cX2_readFoldingSign 43 = .ok (.iload_n 1, 1) := by decide +kernel
theorem dX2_readFoldingSign_44 : decode cX2_readFoldingSign 44 = .ok (.ireturn, 1) := by decide +kernel
theorem dX2_readSign_0 : decode cX2_readSign 0 = .ok (.aload_n 1, 1) := by decide +kernel
theorem dX2_readSign_1 : decode cX2_readSign 1 = .ok (.aload_n 0, 1) := by decide +kernel
theorem dX2_readSign_2 : decode cX2_readSign 2 = .ok (.invokevirtual 25, 3) := by decide +kernel
theorem dX2_readSign_5 : decode cX2_readSign 5 = .ok (.putfield 115, 3) := by decide +kernel
theorem dX2_readSign_8 : decode cX2_readSign 8 = .ok (.aload_n 1, 1) := by decide +kernel
theorem dX2_readSign_9 : decode cX2_readSign 9 = .ok (.aload_n 1, 1) := by decide +kernel
theorem dX2_readSign_10 : decode cX2_readSign 10 = .ok (.getfield 115, 3) := by decide +kernel
theorem dX2_readSign_13 : decode cX2_readSign 13 = .ok (.invokestatic 121, 3) := by decide +kernel
theorem dX2_readSign_16 : decode cX2_readSign 16 = .ok (.putfield 71, 3) := by decide +kernel
theorem dX2_readSign_19 : decode cX2_readSign 19 = .ok (.aload_n 1, 1) := by decide +kernel
theorem dX2_readSign_20 : decode cX2_readSign 20 = .ok (.getfield 71, 3) := by decide +kernel
theorem dX2_readSign_23 : decode cX2_readSign 23 = .ok (.ifCond .ne 5, 3) := by decide +kernel
theorem dX2_readSign_26 : decode cX2_readSign 26 = .ok (.iconst 0, 1) := by decide +kernel
theorem dX2_readSign_27 : decode cX2_readSign 27 = .ok (.ireturn, 1) := by decide +kernel
theorem dX2_readSign_28 : decode cX2_readSign 28 = .ok (.aload_n 0, 1) := by decide +kernel
theorem dX2_readSign_29 : decode cX2_readSign 29 = .ok (.invokevirtual 78, 3) := by decide +kernel
theorem dX2_readSign_32 : decode cX2_readSign 32 = .ok (.iconst 1, 1) := by decide +kernel
theorem dX2_readSign_33 : decode cX2_readSign 33 = .ok (.ireturn, 1) := by decide +kernel
theorem dX2_kindOfSign_0 : decode cX2_kindOfSign 0 = .ok (.iload_n 0, 1) := by decide +kernel
theorem dX2_kindOfSign_1 : decode cX2_kindOfSign 1 = .ok (.lookupswitch 100 #[(35, 97), (38, 91), (42, 91), (43, 91), (44, 94), (45, 91), (60, 91), (61, 91), (62, 91), (124, 91)], 91) := by decide +kernel
theorem dX2_kindOfSign_92 : decode cX2_kindOfSign 92 = .ok (.bipush 8, 2) := by decide +kernel
theorem dX2_kindOfSign_94 : decode cX2_kindOfSign 94 = .ok (.ireturn, 1) := by decide +kernel
theorem dX2_kindOfSign_95 : decode cX2_kindOfSign 95 = .ok (.bipush 9, 2) := by decide +kernel
theorem dX2_kindOfSign_97 : decode cX2_kindOfSign 97 = .ok (.ireturn, 1) := by decide +kernel
theorem dX2_kindOfSign_98 : decode cX2_kindOfSign 98 = .ok (.bipush 10, 2) := by decide +kernel
theorem dX2_kindOfSign_100 : decode cX2_kindOfSign 100 = .ok (.ireturn, 1) := by decide +kernel
theorem dX2_kindOfSign_101 : decode cX2_kindOfSign 101 = .ok (.iconst 0, 1) := by decide +kernel
theorem dX2_kindOfSign_102 : decode cX2_kindOfSign 102 = .ok (.ireturn, 1) := by decide +kernel
theorem dX3_findAll_0 : decode cX3_findAll 0 = .ok (.aload_n 0, 1) := by decide +kernel
theorem dX3_findAll_1 : decode cX3_findAll 1 = .ok (.getfield 9, 3) := by decide +kernel
theorem dX3_findAll_4 : decode cX3_findAll 4 = .ok (.iconst 1, 1) := by decide +kernel
theorem dX3_findAll_5 : decode cX3_findAll 5 = .ok (.isub, 1) := by decide +kernel
theorem dX3_findAll_6 : decode cX3_findAll 6 = .ok (.istore_n 2, 1) := by decide +kernel
theorem dX3_findAll_7 : decode cX3_findAll 7 = .ok (.iload_n 2, 1) := by decide +kernel
theorem dX3_findAll_8 : decode cX3_findAll 8 = .ok (.ifCond .lt 28, 3) := by decide +kernel
theorem dX3_findAll_11 : decode cX3_findAll 11 = .ok (.aload_n 0, 1) := by decide +kernel
theorem dX3_findAll_12 : decode cX3_findAll 12 = .ok (.getfield 15, 3) := by decide +kernel
theorem dX3_findAll_15 : decode cX3_findAll 15 = .ok (.iload_n 2, 1) := by decide +kernel
theorem dX3_findAll_16 : decode cX3_findAll 16 = .ok (.aaload, 1) := by decide +kernel
theorem dX3_findAll_17 : decode cX3_findAll 17 = .ok (.astore_n 3, 1) := by decide +kernel
theorem dX3_findAll_18 : decode cX3_findAll 18 = .ok (.aload_n 3, 1) := by decide +kernel
theorem dX3_findAll_19 : decode cX3_findAll 19 = .ok (.getfield 19, 3) := by decide +kernel
theorem dX3_findAll_22 : decode cX3_findAll 22 = .ok (.aload_n 3, 1) := by decide +kernel
theorem dX3_findAll_23 : decode cX3_findAll 23 = .ok (.aload_n 1, 1) := by decide +kernel
theorem dX3_findAll_24 : decode cX3_findAll 24 = .ok (.invokestatic 25, 3) := by decide +kernel
theorem dX3_findAll_27 : decode cX3_findAll 27 = .ok (.putfield 31, 3) := by decide +kernel
theorem dX3_findAll_30 : decode cX3_findAll 30 = .ok (.iinc 2 (-1), 3) := by decide +kernel
theorem dX3_findAll_33 : decode cX3_findAll 33 = .ok (.goto (-26), 3) := by decide +kernel
theorem dX3_findAll_36 : decode cX3_findAll 36 = .ok (.return_, 1) := by decide +kernel
theorem dX3_shapeFound_0 : decode cX3_shapeFound 0 = .ok (.aload_n 0, 1) := by decide +kernel
theorem dX3_shapeFound_1 : decode cX3_shapeFound 1 = .ok (.getfield 36, 3) := by decide +kernel
theorem dX3_shapeFound_4 : decode cX3_shapeFound 4 = .ok (.tableswitch 179 1 10 #[56, 179, 66, 74, 85, 99, 74, 113, 137, 161], 56) := by decide +kernel
theorem dX3_shapeFound_60 : decode cX3_shapeFound 60 = .ok (.aload_n 1, 1) := by decide +kernel
theorem dX3_shapeFound_61 : decode cX3_shapeFound 61 = .ok (.aload_n 0, 1) := by decide +kernel
theorem dX3_shapeFound_62 : decode cX3_shapeFound 62 = .ok (.getfield 39, 3) := by decide +kernel
theorem dX3_shapeFound_65 : decode cX3_shapeFound 65 = .ok (.aaload, 1) := by decide +kernel
theorem dX3_shapeFound_66 : decode cX3_shapeFound 66 = .ok (.getfield 31, 3) := by decide +kernel
theorem dX3_shapeFound_69 : decode cX3_shapeFound 69 = .ok (.ireturn, 1) := by decide +kernel
theorem dX3_shapeFound_70 : decode cX3_shapeFound 70 = .ok (.aload_n 0, 1) := by decide +kernel
theorem dX3_shapeFound_71 : decode cX3_shapeFound 71 = .ok (.getfield 39, 3) := by decide +kernel
theorem dX3_shapeFound_74 : decode cX3_shapeFound 74 = .ok (.invokestatic 42, 3) := by decide +kernel
theorem dX3_shapeFound_77 : decode cX3_shapeFound 77 = .ok (.ireturn, 1) := by decide +kernel
theorem dX3_shapeFound_78 : decode cX3_shapeFound 78 = .ok (.aload_n 0, 1) := by decide +kernel
theorem dX3_shapeFound_79 : decode cX3_shapeFound 79 = .ok (.getfield 46, 3) := by decide +kernel
theorem dX3_shapeFound_82 : decode cX3_shapeFound 82 = .ok (.getfield 19, 3) := by decide +kernel
theorem dX3_shapeFound_85 : decode cX3_shapeFound 85 = .ok (.getfield 31, 3) := by decide +kernel
theorem dX3_shapeFound_88 : decode cX3_shapeFound 88 = .ok (.ireturn, 1) := by decide +kernel
theorem dX3_shapeFound_89 : decode cX3_shapeFound 89 = .ok (.aload_n 0, 1) := by decide +kernel
theorem dX3_shapeFound_90 : decode cX3_shapeFound 90 = .ok (.getfield 46, 3) := by decide +kernel
theorem dX3_shapeFound_93 : decode cX3_shapeFound 93 = .ok (.getfield 19, 3) := by decide +kernel
theorem dX3_shapeFound_96 : decode cX3_shapeFound 96 = .ok (.getfield 31, 3) := by decide +kernel
theorem dX3_shapeFound_99 : decode cX3_shapeFound 99 = .ok (.invokestatic 50, 3) := by decide +kernel
theorem dX3_shapeFound_102 : decode cX3_shapeFound 102 = .ok (.ireturn, 1) := by decide +kernel
theorem dX3_shapeFound_103 : decode cX3_shapeFound 103 = .ok (.aload_n 0, 1) := by decide +kernel
theorem dX3_shapeFound_104 : decode cX3_shapeFound 104 = .ok (.getfield 46, 3) := by decide +kernel
theorem dX3_shapeFound_107 : decode cX3_shapeFound 107 = .ok (.getfield 19, 3) := by decide +kernel
theorem dX3_shapeFound_110 : decode cX3_shapeFound 110 = .ok (.getfield 31, 3) := by decide +kernel
theorem dX3_shapeFound_113 : decode cX3_shapeFound 113 = .ok (.invokestatic 53, 3) := by decide +kernel
theorem dX3_shapeFound_116 : decode cX3_shapeFound 116 = .ok (.ireturn, 1) := by decide +kernel
theorem dX3_shapeFound_117 : decode cX3_shapeFound 117 = .ok (.aload_n 0, 1) := by decide +kernel
theorem dX3_shapeFound_118 : decode cX3_shapeFound 118 = .ok (.getfield 56, 3) := by decide +kernel
theorem dX3_shapeFound_121 : decode cX3_shapeFound 121 = .ok (.getfield 19, 3) := by decide +kernel
theorem dX3_shapeFound_124 : decode cX3_shapeFound 124 = .ok (.getfield 31, 3) := by decide +kernel
theorem dX3_shapeFound_127 : decode cX3_shapeFound 127 = .ok (.aload_n 0, 1) := by decide +kernel
theorem dX3_shapeFound_128 : decode cX3_shapeFound 128 = .ok (.getfield 46, 3) := by decide +kernel
theorem dX3_shapeFound_131 : decode cX3_shapeFound 131 = .ok (.getfield 19, 3) := by decide +kernel
theorem dX3_shapeFound_134 : decode cX3_shapeFound 134 = .ok (.getfield 31, 3) := by decide +kernel
theorem dX3_shapeFound_137 : decode cX3_shapeFound 137 = .ok (.invokestatic 59, 3) := by decide +kernel
theorem dX3_shapeFound_140 : decode cX3_shapeFound 140 = .ok (.ireturn, 1) := by decide +kernel
theorem dX3_shapeFound_141 : decode cX3_shapeFound 141 = .ok (.aload_n 0, 1) := by decide +kernel
theorem dX3_shapeFound_142 : decode cX3_shapeFound 142 = .ok (.getfield 56, 3) := by decide +kernel
theorem dX3_shapeFound_145 : decode cX3_shapeFound 145 = .ok (.getfield 19, 3) := by decide +kernel
theorem dX3_shapeFound_148 : decode cX3_shapeFound 148 = .ok (.getfield 31, 3) := by decide +kernel
theorem dX3_shapeFound_151 : decode cX3_shapeFound 151 = .ok (.aload_n 0, 1) := by decide +kernel
theorem dX3_shapeFound_152 : decode cX3_shapeFound 152 = .ok (.getfield 46, 3) := by decide +kernel
theorem dX3_shapeFound_155 : decode cX3_shapeFound 155 = .ok (.getfield 19, 3) := by decide +kernel
theorem dX3_shapeFound_158 : decode cX3_shapeFound 158 = .ok (.getfield 31, 3) := by decide +kernel
theorem dX3_shapeFound_161 : decode cX3_shapeFound 161 = .ok (.invokestatic 63, 3) := by decide +kernel
theorem dX3_shapeFound_164 : decode cX3_shapeFound 164 = .ok (.ireturn, 1) := by decide +kernel
theorem dX3_shapeFound_165 : decode cX3_shapeFound 165 = .ok (.aload_n 0, 1) := by decide +kernel
theorem dX3_shapeFound_166 : decode cX3_shapeFound 166 = .ok (.getfield 56, 3) := by decide +kernel
theorem dX3_shapeFound_169 : decode cX3_shapeFound 169 = .ok (.aload_n 0, 1) := by decide +kernel
theorem dX3_shapeFound_170 : decode cX3_shapeFound 170 = .ok (.getfield 46, 3) := by decide +kernel
theorem dX3_shapeFound_173 : decode cX3_shapeFound 173 = .ok (.getfield 19, 3) := by decide +kernel
theorem dX3_shapeFound_176 : decode cX3_shapeFound 176 = .ok (.invokevirtual 66, 3) := by decide +kernel
theorem dX3_shapeFound_179 : decode cX3_shapeFound 179 = .ok (.invokestatic 69, 3) := by decide +kernel
theorem dX3_shapeFound_182 : decode cX3_shapeFound 182 = .ok (.ireturn, 1) := by decide +kernel
theorem dX3_shapeFound_183 : decode cX3_shapeFound 183 = .ok (.aload_n 0, 1) := by decide +kernel
theorem dX3_shapeFound_184 : decode cX3_shapeFound 184 = .ok (.getfield 19, 3) := by decide +kernel
theorem dX3_shapeFound_187 : decode cX3_shapeFound 187 = .ok (.getfield 31, 3) := by decide +kernel
theorem dX3_shapeFound_190 : decode cX3_shapeFound 190 = .ok (.ireturn, 1) := by decide +kernel
theorem dX3_shapeOfCount_0 : decode cX3_shapeOfCount 0 = .ok (.iconst 1, 1) := by decide +kernel
theorem dX3_shapeOfCount_1 : decode cX3_shapeOfCount 1 = .ok (.iload_n 0, 1) := by decide +kernel
theorem dX3_shapeOfCount_2 : decode cX3_shapeOfCount 2 = .ok (.invokestatic 73, 3) := by decide +kernel
theorem dX3_shapeOfCount_5 : decode cX3_shapeOfCount 5 = .ok (.ifCond .ne 13, 3) := by decide +kernel
theorem dX3_shapeOfCount_8 : decode cX3_shapeOfCount 8 = .ok (.new 79, 3) := by decide +kernel
theorem dX3_shapeOfCount_11 : decode cX3_shapeOfCount 11 = .ok (.dup, 1) := by decide +kernel
theorem dX3_shapeOfCount_12 : decode cX3_shapeOfCount 12 = .ok (.ldc 81, 2) := by decide +kernel
theorem dX3_shapeOfCount_14 : decode cX3_shapeOfCount 14 = .ok (.invokespecial 83, 3) := by decide +kernel
theorem dX3_shapeOfCount_17 : decode cX3_shapeOfCount 17 = .ok (.athrow, 1) := by decide +kernel
theorem dX3_shapeOfCount_18 : decode cX3_shapeOfCount 18 = .ok (.iload_n 0, 1) := by decide +kernel
theorem dX3_shapeOfCount_19 : decode cX3_shapeOfCount 19 = .ok (.ireturn, 1) := by decide +kernel
theorem dX3_shapeTurned_0 : decode cX3_shapeTurned 0 = .ok (.iload_n 0, 1) := by decide +kernel
theorem dX3_shapeTurned_1 : decode cX3_shapeTurned 1 = .ok (.invokestatic 86, 3) := by decide +kernel
theorem dX3_shapeTurned_4 : decode cX3_shapeTurned 4 = .ok (.ifCond .eq 17, 3) := by decide +kernel
theorem dX3_shapeTurned_7 : decode cX3_shapeTurned 7 = .ok (.iload_n 0, 1) := by decide +kernel
theorem dX3_shapeTurned_8 : decode cX3_shapeTurned 8 = .ok (.invokestatic 90, 3) := by decide +kernel
theorem dX3_shapeTurned_11 : decode cX3_shapeTurned 11 = .ok (.iload_n 0, 1) := by decide +kernel
theorem dX3_shapeTurned_12 : decode cX3_shapeTurned 12 = .ok (.invokestatic 93, 3) := by decide +kernel
theorem dX3_shapeTurned_15 : decode cX3_shapeTurned 15 = .ok (.invokestatic 96, 3) := by decide +kernel
theorem dX3_shapeTurned_18 : decode cX3_shapeTurned 18 = .ok (.goto 4, 3) := by decide +kernel
theorem dX3_shapeTurned_21 : decode cX3_shapeTurned 21 = .ok (.iload_n 0, 1) := by decide +kernel
theorem dX3_shapeTurned_22 : decode cX3_shapeTurned 22 = .ok (.ireturn, 1) := by decide +kernel
theorem dX3_shapeReduced_0 : decode cX3_shapeReduced 0 = .ok (.iload_n 0, 1) := by decide +kernel
theorem dX3_shapeReduced_1 : decode cX3_shapeReduced 1 = .ok (.invokestatic 86, 3) := by decide +kernel
theorem dX3_shapeReduced_4 : decode cX3_shapeReduced 4 = .ok (.ifCond .eq 10, 3) := by decide +kernel
theorem dX3_shapeReduced_7 : decode cX3_shapeReduced 7 = .ok (.iload_n 0, 1) := by decide +kernel
theorem dX3_shapeReduced_8 : decode cX3_shapeReduced 8 = .ok (.invokestatic 93, 3) := by decide +kernel
theorem dX3_shapeReduced_11 : decode cX3_shapeReduced 11 = .ok (.goto 4, 3) := by decide +kernel
theorem dX3_shapeReduced_14 : decode cX3_shapeReduced 14 = .ok (.iconst 0, 1) := by decide +kernel
theorem dX3_shapeReduced_15 : decode cX3_shapeReduced 15 = .ok (.ireturn, 1) := by decide +kernel
theorem dX3_shapeOfEach_0 : decode cX3_shapeOfEach 0 = .ok (.iload_n 0, 1) := by decide +kernel
theorem dX3_shapeOfEach_1 : decode cX3_shapeOfEach 1 = .ok (.iload_n 1, 1) := by decide +kernel
theorem dX3_shapeOfEach_2 : decode cX3_shapeOfEach 2 = .ok (.if_icmp .eq 21, 3) := by decide +kernel
theorem dX3_shapeOfEach_5 : decode cX3_shapeOfEach 5 = .ok (.iload_n 0, 1) := by decide +kernel
theorem dX3_shapeOfEach_6 : decode cX3_shapeOfEach 6 = .ok (.ifCond .eq 17, 3) := by decide +kernel
theorem dX3_shapeOfEach_9 : decode cX3_shapeOfEach 9 = .ok (.iload_n 1, 1) := by decide +kernel
theorem dX3_shapeOfEach_10 : decode cX3_shapeOfEach 10 = .ok (.ifCond .eq 13, 3) := by decide +kernel
theorem dX3_shapeOfEach_13 : decode cX3_shapeOfEach 13 = .ok (.new 99, 3) := by decide +kernel
theorem dX3_shapeOfEach_16 : decode cX3_shapeOfEach 16 = .ok (.dup, 1) := by decide +kernel
theorem dX3_shapeOfEach_17 : decode cX3_shapeOfEach 17 = .ok (.ldc 101, 2) := by decide +kernel
theorem dX3_shapeOfEach_19 : decode cX3_shapeOfEach 19 = .ok (.invokespecial 103, 3) := by decide +kernel
theorem dX3_shapeOfEach_22 : decode cX3_shapeOfEach 22 = .ok (.athrow, 1) := by decide +kernel
theorem dX3_shapeOfEach_23 : decode cX3_shapeOfEach 23 = .ok (.iload_n 0, 1) := by decide +kernel
theorem dX3_shapeOfEach_24 : decode cX3_shapeOfEach 24 = .ok (.ifCond .ne 7, 3) := by decide +kernel
theorem dX3_shapeOfEach_27 : decode cX3_shapeOfEach 27 = .ok (.iload_n 1, 1) := by decide +kernel
theorem dX3_shapeOfEach_28 : decode cX3_shapeOfEach 28 = .ok (.goto 4, 3) := by decide +kernel
theorem dX3_shapeOfEach_31 : decode cX3_shapeOfEach 31 = .ok (.iload_n 0, 1) := by decide +kernel
theorem dX3_shapeOfEach_32 : decode cX3_shapeOfEach 32 = .ok (.ireturn, 1) := by decide +kernel
theorem dX3_shapeJoined_0 : decode cX3_shapeJoined 0 = .ok (.iload_n 0, 1) := by decide +kernel
theorem dX3_shapeJoined_1 : decode cX3_shapeJoined 1 = .ok (.invokestatic 86, 3) := by decide +kernel
theorem dX3_shapeJoined_4 : decode cX3_shapeJoined 4 = .ok (.ifCond .ne 10, 3) := by decide +kernel
theorem dX3_shapeJoined_7 : decode cX3_shapeJoined 7 = .ok (.iload_n 1, 1) := by decide +kernel
theorem dX3_shapeJoined_8 : decode cX3_shapeJoined 8 = .ok (.invokestatic 86, 3) := by decide +kernel
theorem dX3_shapeJoined_11 : decode cX3_shapeJoined 11 = .ok (.ifCond .eq 13, 3) := by decide +kernel
theorem dX3_shapeJoined_14 : decode cX3_shapeJoined 14 = .ok (.new 99, 3) := by decide +kernel
theorem dX3_shapeJoined_17 : decode cX3_shapeJoined 17 = .ok (.dup, 1) := by decide +kernel
theorem dX3_shapeJoined_18 : decode cX3_shapeJoined 18 = .ok (.ldc 104, 2) := by decide +kernel
theorem dX3_shapeJoined_20 : decode cX3_shapeJoined 20 = .ok (.invokespecial 103, 3) := by decide +kernel
theorem dX3_shapeJoined_23 : decode cX3_shapeJoined 23 = .ok (.athrow, 1) := by decide +kernel
theorem dX3_shapeJoined_24 : decode cX3_shapeJoined 24 = .ok (.iload_n 0, 1) := by decide +kernel
theorem dX3_shapeJoined_25 : decode cX3_shapeJoined 25 = .ok (.invokestatic 106, 3) := by decide +kernel
theorem dX3_shapeJoined_28 : decode cX3_shapeJoined 28 = .ok (.iload_n 1, 1) := by decide +kernel
theorem dX3_shapeJoined_29 : decode cX3_shapeJoined 29 = .ok (.invokestatic 106, 3) := by decide +kernel
theorem dX3_shapeJoined_32 : decode cX3_shapeJoined 32 = .ok (.iadd, 1) := by decide +kernel
theorem dX3_shapeJoined_33 : decode cX3_shapeJoined 33 = .ok (.istore_n 2, 1) := by decide +kernel
theorem dX3_shapeJoined_34 : decode cX3_shapeJoined 34 = .ok (.iconst 1, 1) := by decide +kernel
theorem dX3_shapeJoined_35 : decode cX3_shapeJoined 35 = .ok (.iload_n 2, 1) := by decide +kernel
theorem dX3_shapeJoined_36 : decode cX3_shapeJoined 36 = .ok (.invokestatic 73, 3) := by decide +kernel
theorem dX3_shapeJoined_39 : decode cX3_shapeJoined 39 = .ok (.ifCond .ne 13, 3) := by decide +kernel
theorem dX3_shapeJoined_42 : decode cX3_shapeJoined 42 = .ok (.new 79, 3) := by decide +kernel
theorem dX3_shapeJoined_45 : decode cX3_shapeJoined 45 = .ok (.dup, 1) := by decide +kernel
theorem dX3_shapeJoined_46 : decode cX3_shapeJoined 46 = .ok (.ldc 109, 2) := by decide +kernel
theorem dX3_shapeJoined_48 : decode cX3_shapeJoined 48 = .ok (.invokespecial 83, 3) := by decide +kernel
theorem dX3_shapeJoined_51 : decode cX3_shapeJoined 51 = .ok (.athrow, 1) := by decide +kernel
theorem dX3_shapeJoined_52 : decode cX3_shapeJoined 52 = .ok (.iload_n 2, 1) := by decide +kernel
theorem dX3_shapeJoined_53 : decode cX3_shapeJoined 53 = .ok (.ireturn, 1) := by decide +kernel
theorem dX3_shapeAnew_0 : decode cX3_shapeAnew 0 = .ok (.aload_n 0, 1) := by decide +kernel
theorem dX3_shapeAnew_1 : decode cX3_shapeAnew 1 = .ok (.getfield 36, 3) := by decide +kernel
theorem dX3_shapeAnew_4 : decode cX3_shapeAnew 4 = .ok (.iconst 2, 1) := by decide +kernel
theorem dX3_shapeAnew_5 : decode cX3_shapeAnew 5 = .ok (.if_icmp .ne 14, 3) := by decide +kernel
theorem dX3_shapeAnew_8 : decode cX3_shapeAnew 8 = .ok (.aload_n 0, 1) := by decide +kernel
theorem dX3_shapeAnew_9 : decode cX3_shapeAnew 9 = .ok (.getfield 19, 3) := by decide +kernel
theorem dX3_shapeAnew_12 : decode cX3_shapeAnew 12 = .ok (.invokevirtual 66, 3) := by decide +kernel
theorem dX3_shapeAnew_15 : decode cX3_shapeAnew 15 = .ok (.iconst 2, 1) := by decide +kernel
theorem dX3_shapeAnew_16 : decode cX3_shapeAnew 16 = .ok (.if_icmp .le 13, 3) := by decide +kernel
theorem dX3_shapeAnew_19 : decode cX3_shapeAnew 19 = .ok (.new 99, 3) := by decide +kernel
theorem dX3_shapeAnew_22 : decode cX3_shapeAnew 22 = .ok (.dup, 1) := by decide +kernel
theorem dX3_shapeAnew_23 : decode cX3_shapeAnew 23 = .ok (.ldc 111, 2) := by decide +kernel
theorem dX3_shapeAnew_25 : decode cX3_shapeAnew 25 = .ok (.invokespecial 103, 3) := by decide +kernel
theorem dX3_shapeAnew_28 : decode cX3_shapeAnew 28 = .ok (.athrow, 1) := by decide +kernel
theorem dX3_shapeAnew_29 : decode cX3_shapeAnew 29 = .ok (.aload_n 0, 1) := by decide +kernel
theorem dX3_shapeAnew_30 : decode cX3_shapeAnew 30 = .ok (.getfield 19, 3) := by decide +kernel
theorem dX3_shapeAnew_33 : decode cX3_shapeAnew 33 = .ok (.getfield 31, 3) := by decide +kernel
theorem dX3_shapeAnew_36 : decode cX3_shapeAnew 36 = .ok (.ifCond .ne 7, 3) := by decide +kernel
theorem dX3_shapeAnew_39 : decode cX3_shapeAnew 39 = .ok (.iconst 1, 1) := by decide +kernel
theorem dX3_shapeAnew_40 : decode cX3_shapeAnew 40 = .ok (.goto 4, 3) := by decide +kernel
theorem dX3_shapeAnew_43 : decode cX3_shapeAnew 43 = .ok (.iconst 0, 1) := by decide +kernel
theorem dX3_shapeAnew_44 : decode cX3_shapeAnew 44 = .ok (.istore_n 2, 1) := by decide +kernel
theorem dX3_shapeAnew_45 : decode cX3_shapeAnew 45 = .ok (.iload_n 2, 1) := by decide +kernel
theorem dX3_shapeAnew_46 : decode cX3_shapeAnew 46 = .ok (.ifCond .eq 7, 3) := by decide +kernel
theorem dX3_shapeAnew_49 : decode cX3_shapeAnew 49 = .ok (.iconst 1, 1) := by decide +kernel
theorem dX3_shapeAnew_50 : decode cX3_shapeAnew 50 = .ok (.goto 13, 3) := by decide +kernel
theorem dX3_shapeAnew_53 : decode cX3_shapeAnew 53 = .ok (.aload_n 0, 1) := by decide +kernel
theorem dX3_shapeAnew_54 : decode cX3_shapeAnew 54 = .ok (.getfield 19, 3) := by decide +kernel
theorem dX3_shapeAnew_57 : decode cX3_shapeAnew 57 = .ok (.getfield 113, 3) := by decide +kernel
theorem dX3_shapeAnew_60 : decode cX3_shapeAnew 60 = .ok (.iconst 0, 1) := by decide +kernel
theorem dX3_shapeAnew_61 : decode cX3_shapeAnew 61 = .ok (.daload, 1) := by decide +kernel
theorem dX3_shapeAnew_62 : decode cX3_shapeAnew 62 = .ok (.d2i, 1) := by decide +kernel
theorem dX3_shapeAnew_63 : decode cX3_shapeAnew 63 = .ok (.istore_n 3, 1) := by decide +kernel
theorem dX3_shapeAnew_64 : decode cX3_shapeAnew 64 = .ok (.aload_n 0, 1) := by decide +kernel
theorem dX3_shapeAnew_65 : decode cX3_shapeAnew 65 = .ok (.getfield 19, 3) := by decide +kernel
theorem dX3_shapeAnew_68 : decode cX3_shapeAnew 68 = .ok (.getfield 113, 3) := by decide +kernel
theorem dX3_shapeAnew_71 : decode cX3_shapeAnew 71 = .ok (.iload_n 2, 1) := by decide +kernel
theorem dX3_shapeAnew_72 : decode cX3_shapeAnew 72 = .ok (.ifCond .eq 7, 3) := by decide +kernel
theorem dX3_shapeAnew_75 : decode cX3_shapeAnew 75 = .ok (.iconst 0, 1) := by decide +kernel
theorem dX3_shapeAnew_76 : decode cX3_shapeAnew 76 = .ok (.goto 4, 3) := by decide +kernel
theorem dX3_shapeAnew_79 : decode cX3_shapeAnew 79 = .ok (.iconst 1, 1) := by decide +kernel
theorem dX3_shapeAnew_80 : decode cX3_shapeAnew 80 = .ok (.daload, 1) := by decide +kernel
theorem dX3_shapeAnew_81 : decode cX3_shapeAnew 81 = .ok (.d2i, 1) := by decide +kernel
theorem dX3_shapeAnew_82 : decode cX3_shapeAnew 82 = .ok (.istore 4, 2) := by decide +kernel
theorem dX3_shapeAnew_84 : decode cX3_shapeAnew 84 = .ok (.iload_n 3, 1) := by decide +kernel
theorem dX3_shapeAnew_85 : decode cX3_shapeAnew 85 = .ok (.iload 4, 2) := by decide +kernel
theorem dX3_shapeAnew_87 : decode cX3_shapeAnew 87 = .ok (.invokestatic 73, 3) := by decide +kernel
theorem dX3_shapeAnew_90 : decode cX3_shapeAnew 90 = .ok (.ifCond .ne 13, 3) := by decide +kernel
theorem dX3_shapeAnew_93 : decode cX3_shapeAnew 93 = .ok (.new 79, 3) := by decide +kernel
theorem dX3_shapeAnew_96 : decode cX3_shapeAnew 96 = .ok (.dup, 1) := by decide +kernel
theorem dX3_shapeAnew_97 : decode cX3_shapeAnew 97 = .ok (.ldc 116, 2) := by decide +kernel
theorem dX3_shapeAnew_99 : decode cX3_shapeAnew 99 = .ok (.invokespecial 83, 3) := by decide +kernel
theorem dX3_shapeAnew_102 : decode cX3_shapeAnew 102 = .ok (.athrow, 1) := by decide +kernel
theorem dX3_shapeAnew_103 : decode cX3_shapeAnew 103 = .ok (.iload_n 3, 1) := by decide +kernel
theorem dX3_shapeAnew_104 : decode cX3_shapeAnew 104 = .ok (.iload 4, 2) := by decide +kernel
theorem dX3_shapeAnew_106 : decode cX3_shapeAnew 106 = .ok (.imul, 1) := by decide +kernel
theorem dX3_shapeAnew_107 : decode cX3_shapeAnew 107 = .ok (.iload_n 1, 1) := by decide +kernel
theorem dX3_shapeAnew_108 : decode cX3_shapeAnew 108 = .ok (.if_icmp .ge 13, 3) := by decide +kernel
theorem dX3_shapeAnew_111 : decode cX3_shapeAnew 111 = .ok (.new 99, 3) := by decide +kernel
theorem dX3_shapeAnew_114 : decode cX3_shapeAnew 114 = .ok (.dup, 1) := by decide +kernel
theorem dX3_shapeAnew_115 : decode cX3_shapeAnew 115 = .ok (.ldc 118, 2) := by decide +kernel
theorem dX3_shapeAnew_117 : decode cX3_shapeAnew 117 = .ok (.invokespecial 103, 3) := by decide +kernel
theorem dX3_shapeAnew_120 : decode cX3_shapeAnew 120 = .ok (.athrow, 1) := by decide +kernel
theorem dX3_shapeAnew_121 : decode cX3_shapeAnew 121 = .ok (.iload_n 2, 1) := by decide +kernel
theorem dX3_shapeAnew_122 : decode cX3_shapeAnew 122 = .ok (.ifCond .eq 8, 3) := by decide +kernel
theorem dX3_shapeAnew_125 : decode cX3_shapeAnew 125 = .ok (.iload 4, 2) := by decide +kernel
theorem dX3_shapeAnew_127 : decode cX3_shapeAnew 127 = .ok (.goto 9, 3) := by decide +kernel
theorem dX3_shapeAnew_130 : decode cX3_shapeAnew 130 = .ok (.iload_n 3, 1) := by decide +kernel
theorem dX3_shapeAnew_131 : decode cX3_shapeAnew 131 = .ok (.iload 4, 2) := by decide +kernel
theorem dX3_shapeAnew_133 : decode cX3_shapeAnew 133 = .ok (.invokestatic 96, 3) := by decide +kernel
theorem dX3_shapeAnew_136 : decode cX3_shapeAnew 136 = .ok (.ireturn, 1) := by decide +kernel
theorem dX4_exists_0 : decode cX4_exists 0 = .ok (.iload_n 0, 1) := by decide +kernel
theorem dX4_exists_1 : decode cX4_exists 1 = .ok (.ifCond .lt 14, 3) := by decide +kernel
theorem dX4_exists_4 : decode cX4_exists 4 = .ok (.iload_n 0, 1) := by decide +kernel
theorem dX4_exists_5 : decode cX4_exists 5 = .ok (.bipush 24, 2) := by decide +kernel
theorem dX4_exists_7 : decode cX4_exists 7 = .ok (.bipush 24, 2) := by decide +kernel
theorem dX4_exists_9 : decode cX4_exists 9 = .ok (.invokestatic 9, 3) := by decide +kernel
theorem dX4_exists_12 : decode cX4_exists 12 = .ok (.if_icmp .le 5, 3) := by decide +kernel
theorem dX4_exists_15 : decode cX4_exists 15 = .ok (.iconst 0, 1) := by decide +kernel
theorem dX4_exists_16 : decode cX4_exists 16 = .ok (.ireturn, 1) := by decide +kernel
theorem dX4_exists_17 : decode cX4_exists 17 = .ok (.iload_n 0, 1) := by decide +kernel
theorem dX4_exists_18 : decode cX4_exists 18 = .ok (.ifCond .eq 17, 3) := by decide +kernel
theorem dX4_exists_21 : decode cX4_exists 21 = .ok (.iload_n 0, 1) := by decide +kernel
theorem dX4_exists_22 : decode cX4_exists 22 = .ok (.invokestatic 15, 3) := by decide +kernel
theorem dX4_exists_25 : decode cX4_exists 25 = .ok (.iload_n 0, 1) := by decide +kernel
theorem dX4_exists_26 : decode cX4_exists 26 = .ok (.invokestatic 19, 3) := by decide +kernel
theorem dX4_exists_29 : decode cX4_exists 29 = .ok (.invokestatic 22, 3) := by decide +kernel
theorem dX4_exists_32 : decode cX4_exists 32 = .ok (.ifCond .eq 7, 3) := by decide +kernel
theorem dX4_exists_35 : decode cX4_exists 35 = .ok (.iconst 1, 1) := by decide +kernel
theorem dX4_exists_36 : decode cX4_exists 36 = .ok (.goto 4, 3) := by decide +kernel
theorem dX4_exists_39 : decode cX4_exists 39 = .ok (.iconst 0, 1) := by decide +kernel
theorem dX4_exists_40 : decode cX4_exists 40 = .ok (.ireturn, 1) := by decide +kernel
theorem dX4_fits_0 : decode cX4_fits 0 = .ok (.iload_n 0, 1) := by decide +kernel
theorem dX4_fits_1 : decode cX4_fits 1 = .ok (.iconst 1, 1) := by decide +kernel
theorem dX4_fits_2 : decode cX4_fits 2 = .ok (.if_icmp .lt 32, 3) := by decide +kernel
theorem dX4_fits_5 : decode cX4_fits 5 = .ok (.iload_n 0, 1) := by decide +kernel
theorem dX4_fits_6 : decode cX4_fits 6 = .ok (.bipush 24, 2) := by decide +kernel
theorem dX4_fits_8 : decode cX4_fits 8 = .ok (.if_icmp .gt 26, 3) := by decide +kernel
theorem dX4_fits_11 : decode cX4_fits 11 = .ok (.iload_n 1, 1) := by decide +kernel
theorem dX4_fits_12 : decode cX4_fits 12 = .ok (.iconst 1, 1) := by decide +kernel
theorem dX4_fits_13 : decode cX4_fits 13 = .ok (.if_icmp .lt 21, 3) := by decide +kernel
theorem dX4_fits_16 : decode cX4_fits 16 = .ok (.iload_n 1, 1) := by decide +kernel
theorem dX4_fits_17 : decode cX4_fits 17 = .ok (.bipush 24, 2) := by decide +kernel
theorem dX4_fits_19 : decode cX4_fits 19 = .ok (.if_icmp .gt 15, 3) := by decide +kernel
theorem dX4_fits_22 : decode cX4_fits 22 = .ok (.iload_n 0, 1) := by decide +kernel
theorem dX4_fits_23 : decode cX4_fits 23 = .ok (.iload_n 1, 1) := by decide +kernel
theorem dX4_fits_24 : decode cX4_fits 24 = .ok (.imul, 1) := by decide +kernel
theorem dX4_fits_25 : decode cX4_fits 25 = .ok (.bipush 24, 2) := by decide +kernel
theorem dX4_fits_27 : decode cX4_fits 27 = .ok (.if_icmp .gt 7, 3) := by decide +kernel
theorem dX4_fits_30 : decode cX4_fits 30 = .ok (.iconst 1, 1) := by decide +kernel
theorem dX4_fits_31 : decode cX4_fits 31 = .ok (.goto 4, 3) := by decide +kernel
theorem dX4_fits_34 : decode cX4_fits 34 = .ok (.iconst 0, 1) := by decide +kernel
theorem dX4_fits_35 : decode cX4_fits 35 = .ok (.ireturn, 1) := by decide +kernel
theorem dX4_tableOf_0 : decode cX4_tableOf 0 = .ok (.iload_n 0, 1) := by decide +kernel
theorem dX4_tableOf_1 : decode cX4_tableOf 1 = .ok (.iconst 5, 1) := by decide +kernel
theorem dX4_tableOf_2 : decode cX4_tableOf 2 = .ok (.ishl, 1) := by decide +kernel
theorem dX4_tableOf_3 : decode cX4_tableOf 3 = .ok (.iload_n 1, 1) := by decide +kernel
theorem dX4_tableOf_4 : decode cX4_tableOf 4 = .ok (.iadd, 1) := by decide +kernel
theorem dX4_tableOf_5 : decode cX4_tableOf 5 = .ok (.ireturn, 1) := by decide +kernel
theorem dX4_isTable_0 : decode cX4_isTable 0 = .ok (.iload_n 0, 1) := by decide +kernel
theorem dX4_isTable_1 : decode cX4_isTable 1 = .ok (.bipush 31, 2) := by decide +kernel
theorem dX4_isTable_3 : decode cX4_isTable 3 = .ok (.if_icmp .le 7, 3) := by decide +kernel
theorem dX4_isTable_6 : decode cX4_isTable 6 = .ok (.iconst 1, 1) := by decide +kernel
theorem dX4_isTable_7 : decode cX4_isTable 7 = .ok (.goto 4, 3) := by decide +kernel
theorem dX4_isTable_10 : decode cX4_isTable 10 = .ok (.iconst 0, 1) := by decide +kernel
theorem dX4_isTable_11 : decode cX4_isTable 11 = .ok (.ireturn, 1) := by decide +kernel
theorem dX4_lines_0 : decode cX4_lines 0 = .ok (.iload_n 0, 1) := by decide +kernel
theorem dX4_lines_1 : decode cX4_lines 1 = .ok (.bipush 31, 2) := by decide +kernel
theorem dX4_lines_3 : decode cX4_lines 3 = .ok (.if_icmp .le 9, 3) := by decide +kernel
theorem dX4_lines_6 : decode cX4_lines 6 = .ok (.iload_n 0, 1) := by decide +kernel
theorem dX4_lines_7 : decode cX4_lines 7 = .ok (.iconst 5, 1) := by decide +kernel
theorem dX4_lines_8 : decode cX4_lines 8 = .ok (.ishr, 1) := by decide +kernel
theorem dX4_lines_9 : decode cX4_lines 9 = .ok (.goto 4, 3) := by decide +kernel
theorem dX4_lines_12 : decode cX4_lines 12 = .ok (.iconst 1, 1) := by decide +kernel
theorem dX4_lines_13 : decode cX4_lines 13 = .ok (.ireturn, 1) := by decide +kernel
theorem dX4_length_0 : decode cX4_length 0 = .ok (.iload_n 0, 1) := by decide +kernel
theorem dX4_length_1 : decode cX4_length 1 = .ok (.ifCond .ne 7, 3) := by decide +kernel
theorem dX4_length_4 : decode cX4_length 4 = .ok (.iconst 1, 1) := by decide +kernel
theorem dX4_length_5 : decode cX4_length 5 = .ok (.goto 7, 3) := by decide +kernel
theorem dX4_length_8 : decode cX4_length 8 = .ok (.iload_n 0, 1) := by decide +kernel
theorem dX4_length_9 : decode cX4_length 9 = .ok (.bipush 31, 2) := by decide +kernel
theorem dX4_length_11 : decode cX4_length 11 = .ok (.iand, 1) := by decide +kernel
theorem dX4_length_12 : decode cX4_length 12 = .ok (.ireturn, 1) := by decide +kernel
theorem dX4_elements_0 : decode cX4_elements 0 = .ok (.iload_n 0, 1) := by decide +kernel
theorem dX4_elements_1 : decode cX4_elements 1 = .ok (.invokestatic 15, 3) := by decide +kernel
theorem dX4_elements_4 : decode cX4_elements 4 = .ok (.iload_n 0, 1) := by decide +kernel
theorem dX4_elements_5 : decode cX4_elements 5 = .ok (.invokestatic 19, 3) := by decide +kernel
theorem dX4_elements_8 : decode cX4_elements 8 = .ok (.imul, 1) := by decide +kernel
theorem dX4_elements_9 : decode cX4_elements 9 = .ok (.ireturn, 1) := by decide +kernel
theorem dX5_init_0 : decode cX5_init 0 = .ok (.aload_n 0, 1) := by decide +kernel
theorem dX5_init_1 : decode cX5_init 1 = .ok (.invokespecial 3, 3) := by decide +kernel
theorem dX5_init_4 : decode cX5_init 4 = .ok (.aload_n 0, 1) := by decide +kernel
theorem dX5_init_5 : decode cX5_init 5 = .ok (.bipush 40, 2) := by decide +kernel
theorem dX5_init_7 : decode cX5_init 7 = .ok (.newarray .char, 2) := by decide +kernel
theorem dX5_init_9 : decode cX5_init 9 = .ok (.putfield 9, 3) := by decide +kernel
theorem dX5_init_12 : decode cX5_init 12 = .ok (.return_, 1) := by decide +kernel
theorem dX5_append_0 : decode cX5_append 0 = .ok (.lload_n 1, 1) := by decide +kernel
theorem dX5_append_1 : decode cX5_append 1 = .ok (.invokestatic 15, 3) := by decide +kernel
theorem dX5_append_4 : decode cX5_append 4 = .ok (.istore_n 3, 1) := by decide +kernel
theorem dX5_append_5 : decode cX5_append 5 = .ok (.iload_n 3, 1) := by decide +kernel
theorem dX5_append_6 : decode cX5_append 6 = .ok (.ifCond .lt 14, 3) := by decide +kernel
theorem dX5_append_9 : decode cX5_append 9 = .ok (.aload_n 0, 1) := by decide +kernel
theorem dX5_append_10 : decode cX5_append 10 = .ok (.getfield 19, 3) := by decide +kernel
theorem dX5_append_13 : decode cX5_append 13 = .ok (.iload_n 3, 1) := by decide +kernel
theorem dX5_append_14 : decode cX5_append 14 = .ok (.iadd, 1) := by decide +kernel
theorem dX5_append_15 : decode cX5_append 15 = .ok (.bipush 40, 2) := by decide +kernel
theorem dX5_append_17 : decode cX5_append 17 = .ok (.if_icmp .le 5, 3) := by decide +kernel
theorem dX5_append_20 : decode cX5_append 20 = .ok (.iconst (-1), 1) := by decide +kernel
theorem dX5_append_21 : decode cX5_append 21 = .ok (.ireturn, 1) := by decide +kernel
theorem dX5_append_22 : decode cX5_append 22 = .ok (.iconst 0, 1) := by decide +kernel
theorem dX5_append_23 : decode cX5_append 23 = .ok (.istore 4, 2) := by decide +kernel
theorem dX5_append_25 : decode cX5_append 25 = .ok (.iload 4, 2) := by decide +kernel
theorem dX5_append_27 : decode cX5_append 27 = .ok (.iload_n 3, 1) := by decide +kernel
theorem dX5_append_28 : decode cX5_append 28 = .ok (.if_icmp .ge 28, 3) := by decide +kernel
theorem dX5_append_31 : decode cX5_append 31 = .ok (.aload_n 0, 1) := by decide +kernel
theorem dX5_append_32 : decode cX5_append 32 = .ok (.getfield 9, 3) := by decide +kernel
theorem dX5_append_35 : decode cX5_append 35 = .ok (.aload_n 0, 1) := by decide +kernel
theorem dX5_append_36 : decode cX5_append 36 = .ok (.getfield 19, 3) := by decide +kernel
theorem dX5_append_39 : decode cX5_append 39 = .ok (.iload 4, 2) := by decide +kernel
theorem dX5_append_41 : decode cX5_append 41 = .ok (.iadd, 1) := by decide +kernel
theorem dX5_append_42 : decode cX5_append 42 = .ok (.lload_n 1, 1) := by decide +kernel
theorem dX5_append_43 : decode cX5_append 43 = .ok (.iload 4, 2) := by decide +kernel
theorem dX5_append_45 : decode cX5_append 45 = .ok (.invokestatic 23, 3) := by decide +kernel
theorem dX5_append_48 : decode cX5_append 48 = .ok (.i2c, 1) := by decide +kernel
theorem dX5_append_49 : decode cX5_append 49 = .ok (.castore, 1) := by decide +kernel
theorem dX5_append_50 : decode cX5_append 50 = .ok (.iinc 4 1, 3) := by decide +kernel
theorem dX5_append_53 : decode cX5_append 53 = .ok (.goto (-28), 3) := by decide +kernel
theorem dX5_append_56 : decode cX5_append 56 = .ok (.aload_n 0, 1) := by decide +kernel
theorem dX5_append_57 : decode cX5_append 57 = .ok (.dup, 1) := by decide +kernel
theorem dX5_append_58 : decode cX5_append 58 = .ok (.getfield 19, 3) := by decide +kernel
theorem dX5_append_61 : decode cX5_append 61 = .ok (.iload_n 3, 1) := by decide +kernel
theorem dX5_append_62 : decode cX5_append 62 = .ok (.iadd, 1) := by decide +kernel
theorem dX5_append_63 : decode cX5_append 63 = .ok (.putfield 19, 3) := by decide +kernel
theorem dX5_append_66 : decode cX5_append 66 = .ok (.iload_n 3, 1) := by decide +kernel
theorem dX5_append_67 : decode cX5_append 67 = .ok (.ireturn, 1) := by decide +kernel
theorem dX5_clear_0 : decode cX5_clear 0 = .ok (.aload_n 0, 1) := by decide +kernel
theorem dX5_clear_1 : decode cX5_clear 1 = .ok (.getfield 19, 3) := by decide +kernel
theorem dX5_clear_4 : decode cX5_clear 4 = .ok (.istore_n 1, 1) := by decide +kernel
theorem dX5_clear_5 : decode cX5_clear 5 = .ok (.aload_n 0, 1) := by decide +kernel
theorem dX5_clear_6 : decode cX5_clear 6 = .ok (.iconst 0, 1) := by decide +kernel
theorem dX5_clear_7 : decode cX5_clear 7 = .ok (.putfield 19, 3) := by decide +kernel
theorem dX5_clear_10 : decode cX5_clear 10 = .ok (.iload_n 1, 1) := by decide +kernel
theorem dX5_clear_11 : decode cX5_clear 11 = .ok (.ireturn, 1) := by decide +kernel
theorem dX5_startReading_0 : decode cX5_startReading 0 = .ok (.aload_n 0, 1) := by decide +kernel
theorem dX5_startReading_1 : decode cX5_startReading 1 = .ok (.iconst 0, 1) := by decide +kernel
theorem dX5_startReading_2 : decode cX5_startReading 2 = .ok (.putfield 27, 3) := by decide +kernel
theorem dX5_startReading_5 : decode cX5_startReading 5 = .ok (.return_, 1) := by decide +kernel
theorem dX5_next_0 : decode cX5_next 0 = .ok (.aload_n 0, 1) := by decide +kernel
theorem dX5_next_1 : decode cX5_next 1 = .ok (.getfield 27, 3) := by decide +kernel
theorem dX5_next_4 : decode cX5_next 4 = .ok (.aload_n 0, 1) := by decide +kernel
theorem dX5_next_5 : decode cX5_next 5 = .ok (.getfield 19, 3) := by decide +kernel
theorem dX5_next_8 : decode cX5_next 8 = .ok (.if_icmp .ge 15, 3) := by decide +kernel
theorem dX5_next_11 : decode cX5_next 11 = .ok (.aload_n 0, 1) := by decide +kernel
theorem dX5_next_12 : decode cX5_next 12 = .ok (.getfield 9, 3) := by decide +kernel
theorem dX5_next_15 : decode cX5_next 15 = .ok (.aload_n 0, 1) := by decide +kernel
theorem dX5_next_16 : decode cX5_next 16 = .ok (.getfield 27, 3) := by decide +kernel
theorem dX5_next_19 : decode cX5_next 19 = .ok (.caload, 1) := by decide +kernel
theorem dX5_next_20 : decode cX5_next 20 = .ok (.goto 4, 3) := by decide +kernel
theorem dX5_next_23 : decode cX5_next 23 = .ok (.iconst 0, 1) := by decide +kernel
theorem dX5_next_24 : decode cX5_next 24 = .ok (.ireturn, 1) := by decide +kernel
theorem dX5_pass_0 : decode cX5_pass 0 = .ok (.aload_n 0, 1) := by decide +kernel
theorem dX5_pass_1 : decode cX5_pass 1 = .ok (.getfield 27, 3) := by decide +kernel
theorem dX5_pass_4 : decode cX5_pass 4 = .ok (.aload_n 0, 1) := by decide +kernel
theorem dX5_pass_5 : decode cX5_pass 5 = .ok (.getfield 19, 3) := by decide +kernel
theorem dX5_pass_8 : decode cX5_pass 8 = .ok (.if_icmp .ge 13, 3) := by decide +kernel
theorem dX5_pass_11 : decode cX5_pass 11 = .ok (.aload_n 0, 1) := by decide +kernel
theorem dX5_pass_12 : decode cX5_pass 12 = .ok (.dup, 1) := by decide +kernel
theorem dX5_pass_13 : decode cX5_pass 13 = .ok (.getfield 27, 3) := by decide +kernel
theorem dX5_pass_16 : decode cX5_pass 16 = .ok (.iconst 1, 1) := by decide +kernel
theorem dX5_pass_17 : decode cX5_pass 17 = .ok (.iadd, 1) := by decide +kernel
theorem dX5_pass_18 : decode cX5_pass 18 = .ok (.putfield 27, 3) := by decide +kernel
theorem dX5_pass_21 : decode cX5_pass 21 = .ok (.return_, 1) := by decide +kernel
theorem dX5_passIfNext_0 : decode cX5_passIfNext 0 = .ok (.aload_n 0, 1) := by decide +kernel
theorem dX5_passIfNext_1 : decode cX5_passIfNext 1 = .ok (.invokevirtual 30, 3) := by decide +kernel
theorem dX5_passIfNext_4 : decode cX5_passIfNext 4 = .ok (.iload_n 1, 1) := by decide +kernel
theorem dX5_passIfNext_5 : decode cX5_passIfNext 5 = .ok (.if_icmp .eq 5, 3) := by decide +kernel
theorem dX5_passIfNext_8 : decode cX5_passIfNext 8 = .ok (.iconst 0, 1) := by decide +kernel
theorem dX5_passIfNext_9 : decode cX5_passIfNext 9 = .ok (.ireturn, 1) := by decide +kernel
theorem dX5_passIfNext_10 : decode cX5_passIfNext 10 = .ok (.aload_n 0, 1) := by decide +kernel
theorem dX5_passIfNext_11 : decode cX5_passIfNext 11 = .ok (.invokevirtual 34, 3) := by decide +kernel
theorem dX5_passIfNext_14 : decode cX5_passIfNext 14 = .ok (.iconst 1, 1) := by decide +kernel
theorem dX5_passIfNext_15 : decode cX5_passIfNext 15 = .ok (.ireturn, 1) := by decide +kernel
theorem dX5_signsIn_0 : decode cX5_signsIn 0 = .ok (.iconst 0, 1) := by decide +kernel
theorem dX5_signsIn_1 : decode cX5_signsIn 1 = .ok (.istore_n 2, 1) := by decide +kernel
theorem dX5_signsIn_2 : decode cX5_signsIn 2 = .ok (.iload_n 2, 1) := by decide +kernel
theorem dX5_signsIn_3 : decode cX5_signsIn 3 = .ok (.bipush 8, 2) := by decide +kernel
theorem dX5_signsIn_5 : decode cX5_signsIn 5 = .ok (.if_icmp .ge 29, 3) := by decide +kernel
theorem dX5_signsIn_8 : decode cX5_signsIn 8 = .ok (.lload_n 0, 1) := by decide +kernel
theorem dX5_signsIn_9 : decode cX5_signsIn 9 = .ok (.iload_n 2, 1) := by decide +kernel
theorem dX5_signsIn_10 : decode cX5_signsIn 10 = .ok (.invokestatic 23, 3) := by decide +kernel
theorem dX5_signsIn_13 : decode cX5_signsIn 13 = .ok (.istore_n 3, 1) := by decide +kernel
theorem dX5_signsIn_14 : decode cX5_signsIn 14 = .ok (.iload_n 3, 1) := by decide +kernel
theorem dX5_signsIn_15 : decode cX5_signsIn 15 = .ok (.ifCond .ne 5, 3) := by decide +kernel
theorem dX5_signsIn_18 : decode cX5_signsIn 18 = .ok (.iload_n 2, 1) := by decide +kernel
theorem dX5_signsIn_19 : decode cX5_signsIn 19 = .ok (.ireturn, 1) := by decide +kernel
theorem dX5_signsIn_20 : decode cX5_signsIn 20 = .ok (.iload_n 3, 1) := by decide +kernel
theorem dX5_signsIn_21 : decode cX5_signsIn 21 = .ok (.bipush 127, 2) := by decide +kernel
theorem dX5_signsIn_23 : decode cX5_signsIn 23 = .ok (.if_icmp .le 5, 3) := by decide +kernel
theorem dX5_signsIn_26 : decode cX5_signsIn 26 = .ok (.iconst (-1), 1) := by decide +kernel
theorem dX5_signsIn_27 : decode cX5_signsIn 27 = .ok (.ireturn, 1) := by decide +kernel
theorem dX5_signsIn_28 : decode cX5_signsIn 28 = .ok (.iinc 2 1, 3) := by decide +kernel
theorem dX5_signsIn_31 : decode cX5_signsIn 31 = .ok (.goto (-29), 3) := by decide +kernel
theorem dX5_signsIn_34 : decode cX5_signsIn 34 = .ok (.bipush 8, 2) := by decide +kernel
theorem dX5_signsIn_36 : decode cX5_signsIn 36 = .ok (.ireturn, 1) := by decide +kernel
theorem dX5_signOf_0 : decode cX5_signOf 0 = .ok (.lload_n 0, 1) := by decide +kernel
theorem dX5_signOf_1 : decode cX5_signOf 1 = .ok (.bipush 8, 2) := by decide +kernel
theorem dX5_signOf_3 : decode cX5_signOf 3 = .ok (.iload_n 2, 1) := by decide +kernel
theorem dX5_signOf_4 : decode cX5_signOf 4 = .ok (.imul, 1) := by decide +kernel
theorem dX5_signOf_5 : decode cX5_signOf 5 = .ok (.lushr, 1) := by decide +kernel
theorem dX5_signOf_6 : decode cX5_signOf 6 = .ok (.l2i, 1) := by decide +kernel
theorem dX5_signOf_7 : decode cX5_signOf 7 = .ok (.sipush 255, 3) := by decide +kernel
theorem dX5_signOf_10 : decode cX5_signOf 10 = .ok (.iand, 1) := by decide +kernel
theorem dX5_signOf_11 : decode cX5_signOf 11 = .ok (.ireturn, 1) := by decide +kernel
theorem dX6_init_0 : decode cX6_init 0 = .ok (.aload_n 0, 1) := by decide +kernel
theorem dX6_init_1 : decode cX6_init 1 = .ok (.invokespecial 3, 3) := by decide +kernel
theorem dX6_init_4 : decode cX6_init 4 = .ok (.aload_n 0, 1) := by decide +kernel
theorem dX6_init_5 : decode cX6_init 5 = .ok (.bipush 41, 2) := by decide +kernel
theorem dX6_init_7 : decode cX6_init 7 = .ok (.anewarray 9, 3) := by decide +kernel
theorem dX6_init_10 : decode cX6_init 10 = .ok (.putfield 11, 3) := by decide +kernel
theorem dX6_init_13 : decode cX6_init 13 = .ok (.iconst 0, 1) := by decide +kernel
theorem dX6_init_14 : decode cX6_init 14 = .ok (.istore_n 1, 1) := by decide +kernel
theorem dX6_init_15 : decode cX6_init 15 = .ok (.iload_n 1, 1) := by decide +kernel
theorem dX6_init_16 : decode cX6_init 16 = .ok (.bipush 41, 2) := by decide +kernel
theorem dX6_init_18 : decode cX6_init 18 = .ok (.if_icmp .ge 22, 3) := by decide +kernel
theorem dX6_init_21 : decode cX6_init 21 = .ok (.aload_n 0, 1) := by decide +kernel
theorem dX6_init_22 : decode cX6_init 22 = .ok (.getfield 11, 3) := by decide +kernel
theorem dX6_init_25 : decode cX6_init 25 = .ok (.iload_n 1, 1) := by decide +kernel
theorem dX6_init_26 : decode cX6_init 26 = .ok (.new 9, 3) := by decide +kernel
theorem dX6_init_29 : decode cX6_init 29 = .ok (.dup, 1) := by decide +kernel
theorem dX6_init_30 : decode cX6_init 30 = .ok (.invokespecial 17, 3) := by decide +kernel
theorem dX6_init_33 : decode cX6_init 33 = .ok (.aastore, 1) := by decide +kernel
theorem dX6_init_34 : decode cX6_init 34 = .ok (.iinc 1 1, 3) := by decide +kernel
theorem dX6_init_37 : decode cX6_init 37 = .ok (.goto (-22), 3) := by decide +kernel
theorem dX6_init_40 : decode cX6_init 40 = .ok (.return_, 1) := by decide +kernel
theorem dX6_clear_0 : decode cX6_clear 0 = .ok (.aload_n 0, 1) := by decide +kernel
theorem dX6_clear_1 : decode cX6_clear 1 = .ok (.iconst 0, 1) := by decide +kernel
theorem dX6_clear_2 : decode cX6_clear 2 = .ok (.putfield 18, 3) := by decide +kernel
theorem dX6_clear_5 : decode cX6_clear 5 = .ok (.return_, 1) := by decide +kernel
theorem dX6_add_0 : decode cX6_add 0 = .ok (.aload_n 0, 1) := by decide +kernel
theorem dX6_add_1 : decode cX6_add 1 = .ok (.getfield 18, 3) := by decide +kernel
theorem dX6_add_4 : decode cX6_add 4 = .ok (.bipush 41, 2) := by decide +kernel
theorem dX6_add_6 : decode cX6_add 6 = .ok (.if_icmp .lt 13, 3) := by decide +kernel
theorem dX6_add_9 : decode cX6_add 9 = .ok (.new 22, 3) := by decide +kernel
theorem dX6_add_12 : decode cX6_add 12 = .ok (.dup, 1) := by decide +kernel
theorem dX6_add_13 : decode cX6_add 13 = .ok (.ldc 24, 2) := by decide +kernel
theorem dX6_add_15 : decode cX6_add 15 = .ok (.invokespecial 26, 3) := by decide +kernel
theorem dX6_add_18 : decode cX6_add 18 = .ok (.athrow, 1) := by decide +kernel
theorem dX6_add_19 : decode cX6_add 19 = .ok (.aload_n 0, 1) := by decide +kernel
theorem dX6_add_20 : decode cX6_add 20 = .ok (.getfield 11, 3) := by decide +kernel
theorem dX6_add_23 : decode cX6_add 23 = .ok (.aload_n 0, 1) := by decide +kernel
theorem dX6_add_24 : decode cX6_add 24 = .ok (.getfield 18, 3) := by decide +kernel
theorem dX6_add_27 : decode cX6_add 27 = .ok (.aaload, 1) := by decide +kernel
theorem dX6_add_28 : decode cX6_add 28 = .ok (.astore_n 1, 1) := by decide +kernel
theorem dX6_add_29 : decode cX6_add 29 = .ok (.aload_n 0, 1) := by decide +kernel
theorem dX6_add_30 : decode cX6_add 30 = .ok (.dup, 1) := by decide +kernel
theorem dX6_add_31 : decode cX6_add 31 = .ok (.getfield 18, 3) := by decide +kernel
theorem dX6_add_34 : decode cX6_add 34 = .ok (.iconst 1, 1) := by decide +kernel
theorem dX6_add_35 : decode cX6_add 35 = .ok (.iadd, 1) := by decide +kernel
theorem dX6_add_36 : decode cX6_add 36 = .ok (.putfield 18, 3) := by decide +kernel
theorem dX6_add_39 : decode cX6_add 39 = .ok (.aload_n 1, 1) := by decide +kernel
theorem dX6_add_40 : decode cX6_add 40 = .ok (.invokevirtual 29, 3) := by decide +kernel
theorem dX6_add_43 : decode cX6_add 43 = .ok (.aload_n 1, 1) := by decide +kernel
theorem dX6_add_44 : decode cX6_add 44 = .ok (.areturn, 1) := by decide +kernel
theorem dX6_arraysMade_0 : decode cX6_arraysMade 0 = .ok (.aload_n 1, 1) := by decide +kernel
theorem dX6_arraysMade_1 : decode cX6_arraysMade 1 = .ok (.invokevirtual 32, 3) := by decide +kernel
theorem dX6_arraysMade_4 : decode cX6_arraysMade 4 = .ok (.ifCond .eq 7, 3) := by decide +kernel
theorem dX6_arraysMade_7 : decode cX6_arraysMade 7 = .ok (.iconst 0, 1) := by decide +kernel
theorem dX6_arraysMade_8 : decode cX6_arraysMade 8 = .ok (.goto 4, 3) := by decide +kernel
theorem dX6_arraysMade_11 : decode cX6_arraysMade 11 = .ok (.iconst 1, 1) := by decide +kernel
theorem dX6_arraysMade_12 : decode cX6_arraysMade 12 = .ok (.istore_n 2, 1) := by decide +kernel
theorem dX6_arraysMade_13 : decode cX6_arraysMade 13 = .ok (.iconst 0, 1) := by decide +kernel
theorem dX6_arraysMade_14 : decode cX6_arraysMade 14 = .ok (.istore_n 3, 1) := by decide +kernel
theorem dX6_arraysMade_15 : decode cX6_arraysMade 15 = .ok (.iload_n 3, 1) := by decide +kernel
theorem dX6_arraysMade_16 : decode cX6_arraysMade 16 = .ok (.aload_n 0, 1) := by decide +kernel
theorem dX6_arraysMade_17 : decode cX6_arraysMade 17 = .ok (.getfield 18, 3) := by decide +kernel
theorem dX6_arraysMade_20 : decode cX6_arraysMade 20 = .ok (.if_icmp .ge 24, 3) := by decide +kernel
theorem dX6_arraysMade_23 : decode cX6_arraysMade 23 = .ok (.aload_n 0, 1) := by decide +kernel
theorem dX6_arraysMade_24 : decode cX6_arraysMade 24 = .ok (.getfield 11, 3) := by decide +kernel
theorem dX6_arraysMade_27 : decode cX6_arraysMade 27 = .ok (.iload_n 3, 1) := by decide +kernel
theorem dX6_arraysMade_28 : decode cX6_arraysMade 28 = .ok (.aaload, 1) := by decide +kernel
theorem dX6_arraysMade_29 : decode cX6_arraysMade 29 = .ok (.invokevirtual 32, 3) := by decide +kernel
theorem dX6_arraysMade_32 : decode cX6_arraysMade 32 = .ok (.ifCond .eq 6, 3) := by decide +kernel
theorem dX6_arraysMade_35 : decode cX6_arraysMade 35 = .ok (.iinc 2 1, 3) := by decide +kernel
theorem dX6_arraysMade_38 : decode cX6_arraysMade 38 = .ok (.iinc 3 1, 3) := by decide +kernel
theorem dX6_arraysMade_41 : decode cX6_arraysMade 41 = .ok (.goto (-26), 3) := by decide +kernel
theorem dX6_arraysMade_44 : decode cX6_arraysMade 44 = .ok (.iload_n 2, 1) := by decide +kernel
theorem dX6_arraysMade_45 : decode cX6_arraysMade 45 = .ok (.ireturn, 1) := by decide +kernel
theorem dX7_workOutAll_0 : decode cX7_workOutAll 0 = .ok (.aload_n 0, 1) := by decide +kernel
theorem dX7_workOutAll_1 : decode cX7_workOutAll 1 = .ok (.getfield 9, 3) := by decide +kernel
theorem dX7_workOutAll_4 : decode cX7_workOutAll 4 = .ok (.iconst 1, 1) := by decide +kernel
theorem dX7_workOutAll_5 : decode cX7_workOutAll 5 = .ok (.isub, 1) := by decide +kernel
theorem dX7_workOutAll_6 : decode cX7_workOutAll 6 = .ok (.istore_n 2, 1) := by decide +kernel
theorem dX7_workOutAll_7 : decode cX7_workOutAll 7 = .ok (.iload_n 2, 1) := by decide +kernel
theorem dX7_workOutAll_8 : decode cX7_workOutAll 8 = .ok (.ifCond .lt 19, 3) := by decide +kernel
theorem dX7_workOutAll_11 : decode cX7_workOutAll 11 = .ok (.aload_n 0, 1) := by decide +kernel
theorem dX7_workOutAll_12 : decode cX7_workOutAll 12 = .ok (.getfield 15, 3) := by decide +kernel
theorem dX7_workOutAll_15 : decode cX7_workOutAll 15 = .ok (.iload_n 2, 1) := by decide +kernel
theorem dX7_workOutAll_16 : decode cX7_workOutAll 16 = .ok (.aaload, 1) := by decide +kernel
theorem dX7_workOutAll_17 : decode cX7_workOutAll 17 = .ok (.aload_n 1, 1) := by decide +kernel
theorem dX7_workOutAll_18 : decode cX7_workOutAll 18 = .ok (.invokestatic 19, 3) := by decide +kernel
theorem dX7_workOutAll_21 : decode cX7_workOutAll 21 = .ok (.iinc 2 (-1), 3) := by decide +kernel
theorem dX7_workOutAll_24 : decode cX7_workOutAll 24 = .ok (.goto (-17), 3) := by decide +kernel
theorem dX7_workOutAll_27 : decode cX7_workOutAll 27 = .ok (.return_, 1) := by decide +kernel
theorem dX7_workOut_0 : decode cX7_workOut 0 = .ok (.aload_n 0, 1) := by decide +kernel
theorem dX7_workOut_1 : decode cX7_workOut 1 = .ok (.getfield 25, 3) := by decide +kernel
theorem dX7_workOut_4 : decode cX7_workOut 4 = .ok (.tableswitch 227 1 10 #[56, 227, 72, 82, 99, 116, 137, 158, 186, 210], 56) := by decide +kernel
theorem dX7_workOut_60 : decode cX7_workOut 60 = .ok (.aload_n 0, 1) := by decide +kernel
theorem dX7_workOut_61 : decode cX7_workOut 61 = .ok (.getfield 30, 3) := by decide +kernel
theorem dX7_workOut_64 : decode cX7_workOut 64 = .ok (.aload_n 1, 1) := by decide +kernel
theorem dX7_workOut_65 : decode cX7_workOut 65 = .ok (.aload_n 0, 1) := by decide +kernel
theorem dX7_workOut_66 : decode cX7_workOut 66 = .ok (.getfield 34, 3) := by decide +kernel
theorem dX7_workOut_69 : decode cX7_workOut 69 = .ok (.aaload, 1) := by decide +kernel
theorem dX7_workOut_70 : decode cX7_workOut 70 = .ok (.invokevirtual 37, 3) := by decide +kernel
theorem dX7_workOut_73 : decode cX7_workOut 73 = .ok (.goto 158, 3) := by decide +kernel
theorem dX7_workOut_76 : decode cX7_workOut 76 = .ok (.aload_n 0, 1) := by decide +kernel
theorem dX7_workOut_77 : decode cX7_workOut 77 = .ok (.getfield 30, 3) := by decide +kernel
theorem dX7_workOut_80 : decode cX7_workOut 80 = .ok (.invokestatic 43, 3) := by decide +kernel
theorem dX7_workOut_83 : decode cX7_workOut 83 = .ok (.goto 148, 3) := by decide +kernel
theorem dX7_workOut_86 : decode cX7_workOut 86 = .ok (.aload_n 0, 1) := by decide +kernel
theorem dX7_workOut_87 : decode cX7_workOut 87 = .ok (.getfield 46, 3) := by decide +kernel
theorem dX7_workOut_90 : decode cX7_workOut 90 = .ok (.getfield 30, 3) := by decide +kernel
theorem dX7_workOut_93 : decode cX7_workOut 93 = .ok (.aload_n 0, 1) := by decide +kernel
theorem dX7_workOut_94 : decode cX7_workOut 94 = .ok (.getfield 30, 3) := by decide +kernel
theorem dX7_workOut_97 : decode cX7_workOut 97 = .ok (.invokestatic 50, 3) := by decide +kernel
theorem dX7_workOut_100 : decode cX7_workOut 100 = .ok (.goto 131, 3) := by decide +kernel
theorem dX7_workOut_103 : decode cX7_workOut 103 = .ok (.aload_n 0, 1) := by decide +kernel
theorem dX7_workOut_104 : decode cX7_workOut 104 = .ok (.getfield 46, 3) := by decide +kernel
theorem dX7_workOut_107 : decode cX7_workOut 107 = .ok (.getfield 30, 3) := by decide +kernel
theorem dX7_workOut_110 : decode cX7_workOut 110 = .ok (.aload_n 0, 1) := by decide +kernel
theorem dX7_workOut_111 : decode cX7_workOut 111 = .ok (.getfield 30, 3) := by decide +kernel
theorem dX7_workOut_114 : decode cX7_workOut 114 = .ok (.invokestatic 54, 3) := by decide +kernel
theorem dX7_workOut_117 : decode cX7_workOut 117 = .ok (.goto 114, 3) := by decide +kernel
theorem dX7_workOut_120 : decode cX7_workOut 120 = .ok (.aload_n 0, 1) := by decide +kernel
theorem dX7_workOut_121 : decode cX7_workOut 121 = .ok (.getfield 57, 3) := by decide +kernel
theorem dX7_workOut_124 : decode cX7_workOut 124 = .ok (.aload_n 0, 1) := by decide +kernel
theorem dX7_workOut_125 : decode cX7_workOut 125 = .ok (.getfield 46, 3) := by decide +kernel
theorem dX7_workOut_128 : decode cX7_workOut 128 = .ok (.getfield 30, 3) := by decide +kernel
theorem dX7_workOut_131 : decode cX7_workOut 131 = .ok (.aload_n 0, 1) := by decide +kernel
theorem dX7_workOut_132 : decode cX7_workOut 132 = .ok (.getfield 30, 3) := by decide +kernel
theorem dX7_workOut_135 : decode cX7_workOut 135 = .ok (.invokestatic 61, 3) := by decide +kernel
theorem dX7_workOut_138 : decode cX7_workOut 138 = .ok (.goto 93, 3) := by decide +kernel
theorem dX7_workOut_141 : decode cX7_workOut 141 = .ok (.aload_n 0, 1) := by decide +kernel
theorem dX7_workOut_142 : decode cX7_workOut 142 = .ok (.getfield 57, 3) := by decide +kernel
theorem dX7_workOut_145 : decode cX7_workOut 145 = .ok (.aload_n 0, 1) := by decide +kernel
theorem dX7_workOut_146 : decode cX7_workOut 146 = .ok (.getfield 46, 3) := by decide +kernel
theorem dX7_workOut_149 : decode cX7_workOut 149 = .ok (.getfield 30, 3) := by decide +kernel
theorem dX7_workOut_152 : decode cX7_workOut 152 = .ok (.aload_n 0, 1) := by decide +kernel
theorem dX7_workOut_153 : decode cX7_workOut 153 = .ok (.getfield 30, 3) := by decide +kernel
theorem dX7_workOut_156 : decode cX7_workOut 156 = .ok (.invokestatic 65, 3) := by decide +kernel
theorem dX7_workOut_159 : decode cX7_workOut 159 = .ok (.goto 72, 3) := by decide +kernel
theorem dX7_workOut_162 : decode cX7_workOut 162 = .ok (.aload_n 0, 1) := by decide +kernel
theorem dX7_workOut_163 : decode cX7_workOut 163 = .ok (.getfield 57, 3) := by decide +kernel
theorem dX7_workOut_166 : decode cX7_workOut 166 = .ok (.aload_n 0, 1) := by decide +kernel
theorem dX7_workOut_167 : decode cX7_workOut 167 = .ok (.getfield 68, 3) := by decide +kernel
theorem dX7_workOut_170 : decode cX7_workOut 170 = .ok (.getfield 30, 3) := by decide +kernel
theorem dX7_workOut_173 : decode cX7_workOut 173 = .ok (.aload_n 0, 1) := by decide +kernel
theorem dX7_workOut_174 : decode cX7_workOut 174 = .ok (.getfield 46, 3) := by decide +kernel
theorem dX7_workOut_177 : decode cX7_workOut 177 = .ok (.getfield 30, 3) := by decide +kernel
theorem dX7_workOut_180 : decode cX7_workOut 180 = .ok (.aload_n 0, 1) := by decide +kernel
theorem dX7_workOut_181 : decode cX7_workOut 181 = .ok (.getfield 30, 3) := by decide +kernel
theorem dX7_workOut_184 : decode cX7_workOut 184 = .ok (.invokestatic 71, 3) := by decide +kernel
theorem dX7_workOut_187 : decode cX7_workOut 187 = .ok (.goto 44, 3) := by decide +kernel
theorem dX7_workOut_190 : decode cX7_workOut 190 = .ok (.aload_n 0, 1) := by decide +kernel
theorem dX7_workOut_191 : decode cX7_workOut 191 = .ok (.getfield 68, 3) := by decide +kernel
theorem dX7_workOut_194 : decode cX7_workOut 194 = .ok (.getfield 30, 3) := by decide +kernel
theorem dX7_workOut_197 : decode cX7_workOut 197 = .ok (.aload_n 0, 1) := by decide +kernel
theorem dX7_workOut_198 : decode cX7_workOut 198 = .ok (.getfield 46, 3) := by decide +kernel
theorem dX7_workOut_201 : decode cX7_workOut 201 = .ok (.getfield 30, 3) := by decide +kernel
theorem dX7_workOut_204 : decode cX7_workOut 204 = .ok (.aload_n 0, 1) := by decide +kernel
theorem dX7_workOut_205 : decode cX7_workOut 205 = .ok (.getfield 30, 3) := by decide +kernel
theorem dX7_workOut_208 : decode cX7_workOut 208 = .ok (.invokestatic 75, 3) := by decide +kernel
theorem dX7_workOut_211 : decode cX7_workOut 211 = .ok (.goto 20, 3) := by decide +kernel
theorem dX7_workOut_214 : decode cX7_workOut 214 = .ok (.aload_n 0, 1) := by decide +kernel
theorem dX7_workOut_215 : decode cX7_workOut 215 = .ok (.getfield 46, 3) := by decide +kernel
theorem dX7_workOut_218 : decode cX7_workOut 218 = .ok (.getfield 30, 3) := by decide +kernel
theorem dX7_workOut_221 : decode cX7_workOut 221 = .ok (.aload_n 0, 1) := by decide +kernel
theorem dX7_workOut_222 : decode cX7_workOut 222 = .ok (.getfield 30, 3) := by decide +kernel
theorem dX7_workOut_225 : decode cX7_workOut 225 = .ok (.invokestatic 79, 3) := by decide +kernel
theorem dX7_workOut_228 : decode cX7_workOut 228 = .ok (.goto 3, 3) := by decide +kernel
theorem dX7_workOut_231 : decode cX7_workOut 231 = .ok (.return_, 1) := by decide +kernel
theorem dX7_countUp_0 : decode cX7_countUp 0 = .ok (.aload_n 0, 1) := by decide +kernel
theorem dX7_countUp_1 : decode cX7_countUp 1 = .ok (.invokevirtual 82, 3) := by decide +kernel
theorem dX7_countUp_4 : decode cX7_countUp 4 = .ok (.istore_n 1, 1) := by decide +kernel
theorem dX7_countUp_5 : decode cX7_countUp 5 = .ok (.iconst 0, 1) := by decide +kernel
theorem dX7_countUp_6 : decode cX7_countUp 6 = .ok (.istore_n 2, 1) := by decide +kernel
theorem dX7_countUp_7 : decode cX7_countUp 7 = .ok (.iload_n 2, 1) := by decide +kernel
theorem dX7_countUp_8 : decode cX7_countUp 8 = .ok (.iload_n 1, 1) := by decide +kernel
theorem dX7_countUp_9 : decode cX7_countUp 9 = .ok (.if_icmp .ge 17, 3) := by decide +kernel
theorem dX7_countUp_12 : decode cX7_countUp 12 = .ok (.aload_n 0, 1) := by decide +kernel
theorem dX7_countUp_13 : decode cX7_countUp 13 = .ok (.getfield 85, 3) := by decide +kernel
theorem dX7_countUp_16 : decode cX7_countUp 16 = .ok (.iload_n 2, 1) := by decide +kernel
theorem dX7_countUp_17 : decode cX7_countUp 17 = .ok (.iload_n 2, 1) := by decide +kernel
theorem dX7_countUp_18 : decode cX7_countUp 18 = .ok (.i2d, 1) := by decide +kernel
theorem dX7_countUp_19 : decode cX7_countUp 19 = .ok (.dastore, 1) := by decide +kernel
theorem dX7_countUp_20 : decode cX7_countUp 20 = .ok (.iinc 2 1, 3) := by decide +kernel
theorem dX7_countUp_23 : decode cX7_countUp 23 = .ok (.goto (-16), 3) := by decide +kernel
theorem dX7_countUp_26 : decode cX7_countUp 26 = .ok (.return_, 1) := by decide +kernel
theorem dX7_negate_0 : decode cX7_negate 0 = .ok (.aload_n 1, 1) := by decide +kernel
theorem dX7_negate_1 : decode cX7_negate 1 = .ok (.invokevirtual 82, 3) := by decide +kernel
theorem dX7_negate_4 : decode cX7_negate 4 = .ok (.istore_n 2, 1) := by decide +kernel
theorem dX7_negate_5 : decode cX7_negate 5 = .ok (.iconst 0, 1) := by decide +kernel
theorem dX7_negate_6 : decode cX7_negate 6 = .ok (.istore_n 3, 1) := by decide +kernel
theorem dX7_negate_7 : decode cX7_negate 7 = .ok (.iload_n 3, 1) := by decide +kernel
theorem dX7_negate_8 : decode cX7_negate 8 = .ok (.iload_n 2, 1) := by decide +kernel
theorem dX7_negate_9 : decode cX7_negate 9 = .ok (.if_icmp .ge 22, 3) := by decide +kernel
theorem dX7_negate_12 : decode cX7_negate 12 = .ok (.aload_n 1, 1) := by decide +kernel
theorem dX7_negate_13 : decode cX7_negate 13 = .ok (.getfield 85, 3) := by decide +kernel
theorem dX7_negate_16 : decode cX7_negate 16 = .ok (.iload_n 3, 1) := by decide +kernel
theorem dX7_negate_17 : decode cX7_negate 17 = .ok (.aload_n 0, 1) := by decide +kernel
theorem dX7_negate_18 : decode cX7_negate 18 = .ok (.getfield 85, 3) := by decide +kernel
theorem dX7_negate_21 : decode cX7_negate 21 = .ok (.iload_n 3, 1) := by decide +kernel
theorem dX7_negate_22 : decode cX7_negate 22 = .ok (.daload, 1) := by decide +kernel
theorem dX7_negate_23 : decode cX7_negate 23 = .ok (.dneg, 1) := by decide +kernel
theorem dX7_negate_24 : decode cX7_negate 24 = .ok (.dastore, 1) := by decide +kernel
theorem dX7_negate_25 : decode cX7_negate 25 = .ok (.iinc 3 1, 3) := by decide +kernel
theorem dX7_negate_28 : decode cX7_negate 28 = .ok (.goto (-21), 3) := by decide +kernel
theorem dX7_negate_31 : decode cX7_negate 31 = .ok (.return_, 1) := by decide +kernel
theorem dX7_turn_0 : decode cX7_turn 0 = .ok (.aload_n 0, 1) := by decide +kernel
theorem dX7_turn_1 : decode cX7_turn 1 = .ok (.getfield 89, 3) := by decide +kernel
theorem dX7_turn_4 : decode cX7_turn 4 = .ok (.invokestatic 92, 3) := by decide +kernel
theorem dX7_turn_7 : decode cX7_turn 7 = .ok (.ifCond .ne 9, 3) := by decide +kernel
theorem dX7_turn_10 : decode cX7_turn 10 = .ok (.aload_n 1, 1) := by decide +kernel
theorem dX7_turn_11 : decode cX7_turn 11 = .ok (.aload_n 0, 1) := by decide +kernel
theorem dX7_turn_12 : decode cX7_turn 12 = .ok (.invokevirtual 37, 3) := by decide +kernel
theorem dX7_turn_15 : decode cX7_turn 15 = .ok (.return_, 1) := by decide +kernel
theorem dX7_turn_16 : decode cX7_turn 16 = .ok (.aload_n 0, 1) := by decide +kernel
theorem dX7_turn_17 : decode cX7_turn 17 = .ok (.getfield 89, 3) := by decide +kernel
theorem dX7_turn_20 : decode cX7_turn 20 = .ok (.invokestatic 98, 3) := by decide +kernel
theorem dX7_turn_23 : decode cX7_turn 23 = .ok (.istore_n 2, 1) := by decide +kernel
theorem dX7_turn_24 : decode cX7_turn 24 = .ok (.aload_n 0, 1) := by decide +kernel
theorem dX7_turn_25 : decode cX7_turn 25 = .ok (.getfield 89, 3) := by decide +kernel
theorem dX7_turn_28 : decode cX7_turn 28 = .ok (.invokestatic 102, 3) := by decide +kernel
theorem dX7_turn_31 : decode cX7_turn 31 = .ok (.istore_n 3, 1) := by decide +kernel
theorem dX7_turn_32 : decode cX7_turn 32 = .ok (.iconst 0, 1) := by decide +kernel
theorem dX7_turn_33 : decode cX7_turn 33 = .ok (.istore 4, 2) := by decide +kernel
theorem dX7_turn_35 : decode cX7_turn 35 = .ok (.iload 4, 2) := by decide +kernel
theorem dX7_turn_37 : decode cX7_turn 37 = .ok (.iload_n 2, 1) := by decide +kernel
theorem dX7_turn_38 : decode cX7_turn 38 = .ok (.if_icmp .ge 48, 3) := by decide +kernel
theorem dX7_turn_41 : decode cX7_turn 41 = .ok (.iconst 0, 1) := by decide +kernel
theorem dX7_turn_42 : decode cX7_turn 42 = .ok (.istore 5, 2) := by decide +kernel
theorem dX7_turn_44 : decode cX7_turn 44 = .ok (.iload 5, 2) := by decide +kernel
theorem dX7_turn_46 : decode cX7_turn 46 = .ok (.iload_n 3, 1) := by decide +kernel
theorem dX7_turn_47 : decode cX7_turn 47 = .ok (.if_icmp .ge 33, 3) := by decide +kernel
theorem dX7_turn_50 : decode cX7_turn 50 = .ok (.aload_n 1, 1) := by decide +kernel
theorem dX7_turn_51 : decode cX7_turn 51 = .ok (.getfield 85, 3) := by decide +kernel
theorem dX7_turn_54 : decode cX7_turn 54 = .ok (.iload 5, 2) := by decide +kernel
theorem dX7_turn_56 : decode cX7_turn 56 = .ok (.iload_n 2, 1) := by decide +kernel
theorem dX7_turn_57 : decode cX7_turn 57 = .ok (.imul, 1) := by decide +kernel
theorem dX7_turn_58 : decode cX7_turn 58 = .ok (.iload 4, 2) := by decide +kernel
theorem dX7_turn_60 : decode cX7_turn 60 = .ok (.iadd, 1) := by decide +kernel
theorem dX7_turn_61 : decode cX7_turn 61 = .ok (.aload_n 0, 1) := by decide +kernel
theorem dX7_turn_62 : decode cX7_turn 62 = .ok (.getfield 85, 3) := by decide +kernel
theorem dX7_turn_65 : decode cX7_turn 65 = .ok (.iload 4, 2) := by decide +kernel
theorem dX7_turn_67 : decode cX7_turn 67 = .ok (.iload_n 3, 1) := by decide +kernel
theorem dX7_turn_68 : decode cX7_turn 68 = .ok (.imul, 1) := by decide +kernel
theorem dX7_turn_69 : decode cX7_turn 69 = .ok (.iload 5, 2) := by decide +kernel
theorem dX7_turn_71 : decode cX7_turn 71 = .ok (.iadd, 1) := by decide +kernel
theorem dX7_turn_72 : decode cX7_turn 72 = .ok (.daload, 1) := by decide +kernel
theorem dX7_turn_73 : decode cX7_turn 73 = .ok (.dastore, 1) := by decide +kernel
theorem dX7_turn_74 : decode cX7_turn 74 = .ok (.iinc 5 1, 3) := by decide +kernel
theorem dX7_turn_77 : decode cX7_turn 77 = .ok (.goto (-33), 3) := by decide +kernel
theorem dX7_turn_80 : decode cX7_turn 80 = .ok (.iinc 4 1, 3) := by decide +kernel
theorem dX7_turn_83 : decode cX7_turn 83 = .ok (.goto (-48), 3) := by decide +kernel
theorem dX7_turn_86 : decode cX7_turn 86 = .ok (.return_, 1) := by decide +kernel
theorem dX7_reduce_0 : decode cX7_reduce 0 = .ok (.aload_n 1, 1) := by decide +kernel
theorem dX7_reduce_1 : decode cX7_reduce 1 = .ok (.getfield 89, 3) := by decide +kernel
theorem dX7_reduce_4 : decode cX7_reduce 4 = .ok (.invokestatic 98, 3) := by decide +kernel
theorem dX7_reduce_7 : decode cX7_reduce 7 = .ok (.istore_n 3, 1) := by decide +kernel
theorem dX7_reduce_8 : decode cX7_reduce 8 = .ok (.aload_n 1, 1) := by decide +kernel
theorem dX7_reduce_9 : decode cX7_reduce 9 = .ok (.getfield 89, 3) := by decide +kernel
theorem dX7_reduce_12 : decode cX7_reduce 12 = .ok (.invokestatic 102, 3) := by decide +kernel
theorem dX7_reduce_15 : decode cX7_reduce 15 = .ok (.istore 4, 2) := by decide +kernel
theorem dX7_reduce_17 : decode cX7_reduce 17 = .ok (.iconst 0, 1) := by decide +kernel
theorem dX7_reduce_18 : decode cX7_reduce 18 = .ok (.istore 5, 2) := by decide +kernel
theorem dX7_reduce_20 : decode cX7_reduce 20 = .ok (.iload 5, 2) := by decide +kernel
theorem dX7_reduce_22 : decode cX7_reduce 22 = .ok (.iload_n 3, 1) := by decide +kernel
theorem dX7_reduce_23 : decode cX7_reduce 23 = .ok (.if_icmp .ge 67, 3) := by decide +kernel
theorem dX7_reduce_26 : decode cX7_reduce 26 = .ok (.aload_n 1, 1) := by decide +kernel
theorem dX7_reduce_27 : decode cX7_reduce 27 = .ok (.getfield 85, 3) := by decide +kernel
theorem dX7_reduce_30 : decode cX7_reduce 30 = .ok (.iload 5, 2) := by decide +kernel
theorem dX7_reduce_32 : decode cX7_reduce 32 = .ok (.iload 4, 2) := by decide +kernel
theorem dX7_reduce_34 : decode cX7_reduce 34 = .ok (.imul, 1) := by decide +kernel
theorem dX7_reduce_35 : decode cX7_reduce 35 = .ok (.daload, 1) := by decide +kernel
theorem dX7_reduce_36 : decode cX7_reduce 36 = .ok (.dstore 6, 2) := by decide +kernel
theorem dX7_reduce_38 : decode cX7_reduce 38 = .ok (.iconst 1, 1) := by decide +kernel
theorem dX7_reduce_39 : decode cX7_reduce 39 = .ok (.istore 8, 2) := by decide +kernel
theorem dX7_reduce_41 : decode cX7_reduce 41 = .ok (.iload 8, 2) := by decide +kernel
theorem dX7_reduce_43 : decode cX7_reduce 43 = .ok (.iload 4, 2) := by decide +kernel
theorem dX7_reduce_45 : decode cX7_reduce 45 = .ok (.if_icmp .ge 30, 3) := by decide +kernel
theorem dX7_reduce_48 : decode cX7_reduce 48 = .ok (.iload_n 0, 1) := by decide +kernel
theorem dX7_reduce_49 : decode cX7_reduce 49 = .ok (.dload 6, 2) := by decide +kernel
theorem dX7_reduce_51 : decode cX7_reduce 51 = .ok (.aload_n 1, 1) := by decide +kernel
theorem dX7_reduce_52 : decode cX7_reduce 52 = .ok (.getfield 85, 3) := by decide +kernel
theorem dX7_reduce_55 : decode cX7_reduce 55 = .ok (.iload 5, 2) := by decide +kernel
theorem dX7_reduce_57 : decode cX7_reduce 57 = .ok (.iload 4, 2) := by decide +kernel
theorem dX7_reduce_59 : decode cX7_reduce 59 = .ok (.imul, 1) := by decide +kernel
theorem dX7_reduce_60 : decode cX7_reduce 60 = .ok (.iload 8, 2) := by decide +kernel
theorem dX7_reduce_62 : decode cX7_reduce 62 = .ok (.iadd, 1) := by decide +kernel
theorem dX7_reduce_63 : decode cX7_reduce 63 = .ok (.daload, 1) := by decide +kernel
theorem dX7_reduce_64 : decode cX7_reduce 64 = .ok (.invokestatic 105, 3) := by decide +kernel
theorem dX7_reduce_67 : decode cX7_reduce 67 = .ok (.dstore 6, 2) := by decide +kernel
theorem dX7_reduce_69 : decode cX7_reduce 69 = .ok (.iinc 8 1, 3) := by decide +kernel
theorem dX7_reduce_72 : decode cX7_reduce 72 = .ok (.goto (-31), 3) := by decide +kernel
theorem dX7_reduce_75 : decode cX7_reduce 75 = .ok (.aload_n 2, 1) := by decide +kernel
theorem dX7_reduce_76 : decode cX7_reduce 76 = .ok (.getfield 85, 3) := by decide +kernel
theorem dX7_reduce_79 : decode cX7_reduce 79 = .ok (.iload 5, 2) := by decide +kernel
theorem dX7_reduce_81 : decode cX7_reduce 81 = .ok (.dload 6, 2) := by decide +kernel
theorem dX7_reduce_83 : decode cX7_reduce 83 = .ok (.dastore, 1) := by decide +kernel
theorem dX7_reduce_84 : decode cX7_reduce 84 = .ok (.iinc 5 1, 3) := by decide +kernel
theorem dX7_reduce_87 : decode cX7_reduce 87 = .ok (.goto (-67), 3) := by decide +kernel
theorem dX7_reduce_90 : decode cX7_reduce 90 = .ok (.return_, 1) := by decide +kernel
theorem dX7_runAlong_0 : decode cX7_runAlong 0 = .ok (.aload_n 1, 1) := by decide +kernel
theorem dX7_runAlong_1 : decode cX7_runAlong 1 = .ok (.getfield 89, 3) := by decide +kernel
theorem dX7_runAlong_4 : decode cX7_runAlong 4 = .ok (.invokestatic 98, 3) := by decide +kernel
theorem dX7_runAlong_7 : decode cX7_runAlong 7 = .ok (.istore_n 3, 1) := by decide +kernel
theorem dX7_runAlong_8 : decode cX7_runAlong 8 = .ok (.aload_n 1, 1) := by decide +kernel
theorem dX7_runAlong_9 : decode cX7_runAlong 9 = .ok (.getfield 89, 3) := by decide +kernel
theorem dX7_runAlong_12 : decode cX7_runAlong 12 = .ok (.invokestatic 102, 3) := by decide +kernel
theorem dX7_runAlong_15 : decode cX7_runAlong 15 = .ok (.istore 4, 2) := by decide +kernel
theorem dX7_runAlong_17 : decode cX7_runAlong 17 = .ok (.iconst 0, 1) := by decide +kernel
theorem dX7_runAlong_18 : decode cX7_runAlong 18 = .ok (.istore 5, 2) := by decide +kernel
theorem dX7_runAlong_20 : decode cX7_runAlong 20 = .ok (.iload 5, 2) := by decide +kernel
theorem dX7_runAlong_22 : decode cX7_runAlong 22 = .ok (.iload_n 3, 1) := by decide +kernel
theorem dX7_runAlong_23 : decode cX7_runAlong 23 = .ok (.if_icmp .ge 85, 3) := by decide +kernel
theorem dX7_runAlong_26 : decode cX7_runAlong 26 = .ok (.aload_n 1, 1) := by decide +kernel
theorem dX7_runAlong_27 : decode cX7_runAlong 27 = .ok (.getfield 85, 3) := by decide +kernel
theorem dX7_runAlong_30 : decode cX7_runAlong 30 = .ok (.iload 5, 2) := by decide +kernel
theorem dX7_runAlong_32 : decode cX7_runAlong 32 = .ok (.iload 4, 2) := by decide +kernel
theorem dX7_runAlong_34 : decode cX7_runAlong 34 = .ok (.imul, 1) := by decide +kernel
theorem dX7_runAlong_35 : decode cX7_runAlong 35 = .ok (.daload, 1) := by decide +kernel
theorem dX7_runAlong_36 : decode cX7_runAlong 36 = .ok (.dstore 6, 2) := by decide +kernel
theorem dX7_runAlong_38 : decode cX7_runAlong 38 = .ok (.aload_n 2, 1) := by decide +kernel
theorem dX7_runAlong_39 : decode cX7_runAlong 39 = .ok (.getfield 85, 3) := by decide +kernel
theorem dX7_runAlong_42 : decode cX7_runAlong 42 = .ok (.iload 5, 2) := by decide +kernel
theorem dX7_runAlong_44 : decode cX7_runAlong 44 = .ok (.iload 4, 2) := by decide +kernel
theorem dX7_runAlong_46 : decode cX7_runAlong 46 = .ok (.imul, 1) := by decide +kernel
theorem dX7_runAlong_47 : decode cX7_runAlong 47 = .ok (.dload 6, 2) := by decide +kernel
theorem dX7_runAlong_49 : decode cX7_runAlong 49 = .ok (.dastore, 1) := by decide +kernel
theorem dX7_runAlong_50 : decode cX7_runAlong 50 = .ok (.iconst 1, 1) := by decide +kernel
theorem dX7_runAlong_51 : decode cX7_runAlong 51 = .ok (.istore 8, 2) := by decide +kernel
theorem dX7_runAlong_53 : decode cX7_runAlong 53 = .ok (.iload 8, 2) := by decide +kernel
theorem dX7_runAlong_55 : decode cX7_runAlong 55 = .ok (.iload 4, 2) := by decide +kernel
theorem dX7_runAlong_57 : decode cX7_runAlong 57 = .ok (.if_icmp .ge 45, 3) := by decide +kernel
theorem dX7_runAlong_60 : decode cX7_runAlong 60 = .ok (.iload_n 0, 1) := by decide +kernel
theorem dX7_runAlong_61 : decode cX7_runAlong 61 = .ok (.dload 6, 2) := by decide +kernel
theorem dX7_runAlong_63 : decode cX7_runAlong 63 = .ok (.aload_n 1, 1) := by decide +kernel
theorem dX7_runAlong_64 : decode cX7_runAlong 64 = .ok (.getfield 85, 3) := by decide +kernel
theorem dX7_runAlong_67 : decode cX7_runAlong 67 = .ok (.iload 5, 2) := by decide +kernel
theorem dX7_runAlong_69 : decode cX7_runAlong 69 = .ok (.iload 4, 2) := by decide +kernel
theorem dX7_runAlong_71 : decode cX7_runAlong 71 = .ok (.imul, 1) := by decide +kernel
theorem dX7_runAlong_72 : decode cX7_runAlong 72 = .ok (.iload 8, 2) := by decide +kernel
theorem dX7_runAlong_74 : decode cX7_runAlong 74 = .ok (.iadd, 1) := by decide +kernel
theorem dX7_runAlong_75 : decode cX7_runAlong 75 = .ok (.daload, 1) := by decide +kernel
theorem dX7_runAlong_76 : decode cX7_runAlong 76 = .ok (.invokestatic 105, 3) := by decide +kernel
theorem dX7_runAlong_79 : decode cX7_runAlong 79 = .ok (.dstore 6, 2) := by decide +kernel
theorem dX7_runAlong_81 : decode cX7_runAlong 81 = .ok (.aload_n 2, 1) := by decide +kernel
theorem dX7_runAlong_82 : decode cX7_runAlong 82 = .ok (.getfield 85, 3) := by decide +kernel
theorem dX7_runAlong_85 : decode cX7_runAlong 85 = .ok (.iload 5, 2) := by decide +kernel
theorem dX7_runAlong_87 : decode cX7_runAlong 87 = .ok (.iload 4, 2) := by decide +kernel
theorem dX7_runAlong_89 : decode cX7_runAlong 89 = .ok (.imul, 1) := by decide +kernel
theorem dX7_runAlong_90 : decode cX7_runAlong 90 = .ok (.iload 8, 2) := by decide +kernel
theorem dX7_runAlong_92 : decode cX7_runAlong 92 = .ok (.iadd, 1) := by decide +kernel
theorem dX7_runAlong_93 : decode cX7_runAlong 93 = .ok (.dload 6, 2) := by decide +kernel
theorem dX7_runAlong_95 : decode cX7_runAlong 95 = .ok (.dastore, 1) := by decide +kernel
theorem dX7_runAlong_96 : decode cX7_runAlong 96 = .ok (.iinc 8 1, 3) := by decide +kernel
theorem dX7_runAlong_99 : decode cX7_runAlong 99 = .ok (.goto (-46), 3) := by decide +kernel
theorem dX7_runAlong_102 : decode cX7_runAlong 102 = .ok (.iinc 5 1, 3) := by decide +kernel
theorem dX7_runAlong_105 : decode cX7_runAlong 105 = .ok (.goto (-85), 3) := by decide +kernel
theorem dX7_runAlong_108 : decode cX7_runAlong 108 = .ok (.return_, 1) := by decide +kernel
theorem dX7_combineEach_0 : decode cX7_combineEach 0 = .ok (.aload_n 3, 1) := by decide +kernel
theorem dX7_combineEach_1 : decode cX7_combineEach 1 = .ok (.invokevirtual 82, 3) := by decide +kernel
theorem dX7_combineEach_4 : decode cX7_combineEach 4 = .ok (.istore 4, 2) := by decide +kernel
theorem dX7_combineEach_6 : decode cX7_combineEach 6 = .ok (.iconst 0, 1) := by decide +kernel
theorem dX7_combineEach_7 : decode cX7_combineEach 7 = .ok (.istore 5, 2) := by decide +kernel
theorem dX7_combineEach_9 : decode cX7_combineEach 9 = .ok (.iload 5, 2) := by decide +kernel
theorem dX7_combineEach_11 : decode cX7_combineEach 11 = .ok (.iload 4, 2) := by decide +kernel
theorem dX7_combineEach_13 : decode cX7_combineEach 13 = .ok (.if_icmp .ge 32, 3) := by decide +kernel
theorem dX7_combineEach_16 : decode cX7_combineEach 16 = .ok (.aload_n 3, 1) := by decide +kernel
theorem dX7_combineEach_17 : decode cX7_combineEach 17 = .ok (.getfield 85, 3) := by decide +kernel
theorem dX7_combineEach_20 : decode cX7_combineEach 20 = .ok (.iload 5, 2) := by decide +kernel
theorem dX7_combineEach_22 : decode cX7_combineEach 22 = .ok (.iload_n 0, 1) := by decide +kernel
theorem dX7_combineEach_23 : decode cX7_combineEach 23 = .ok (.aload_n 1, 1) := by decide +kernel
theorem dX7_combineEach_24 : decode cX7_combineEach 24 = .ok (.iload 5, 2) := by decide +kernel
theorem dX7_combineEach_26 : decode cX7_combineEach 26 = .ok (.invokestatic 109, 3) := by decide +kernel
theorem dX7_combineEach_29 : decode cX7_combineEach 29 = .ok (.aload_n 2, 1) := by decide +kernel
theorem dX7_combineEach_30 : decode cX7_combineEach 30 = .ok (.iload 5, 2) := by decide +kernel
theorem dX7_combineEach_32 : decode cX7_combineEach 32 = .ok (.invokestatic 109, 3) := by decide +kernel
theorem dX7_combineEach_35 : decode cX7_combineEach 35 = .ok (.invokestatic 105, 3) := by decide +kernel
theorem dX7_combineEach_38 : decode cX7_combineEach 38 = .ok (.dastore, 1) := by decide +kernel
theorem dX7_combineEach_39 : decode cX7_combineEach 39 = .ok (.iinc 5 1, 3) := by decide +kernel
theorem dX7_combineEach_42 : decode cX7_combineEach 42 = .ok (.goto (-33), 3) := by decide +kernel
theorem dX7_combineEach_45 : decode cX7_combineEach 45 = .ok (.return_, 1) := by decide +kernel
theorem dX7_elementFor_0 : decode cX7_elementFor 0 = .ok (.aload_n 0, 1) := by decide +kernel
theorem dX7_elementFor_1 : decode cX7_elementFor 1 = .ok (.getfield 85, 3) := by decide +kernel
theorem dX7_elementFor_4 : decode cX7_elementFor 4 = .ok (.aload_n 0, 1) := by decide +kernel
theorem dX7_elementFor_5 : decode cX7_elementFor 5 = .ok (.getfield 89, 3) := by decide +kernel
theorem dX7_elementFor_8 : decode cX7_elementFor 8 = .ok (.ifCond .ne 7, 3) := by decide +kernel
theorem dX7_elementFor_11 : decode cX7_elementFor 11 = .ok (.iconst 0, 1) := by decide +kernel
theorem dX7_elementFor_12 : decode cX7_elementFor 12 = .ok (.goto 4, 3) := by decide +kernel
theorem dX7_elementFor_15 : decode cX7_elementFor 15 = .ok (.iload_n 1, 1) := by decide +kernel
theorem dX7_elementFor_16 : decode cX7_elementFor 16 = .ok (.daload, 1) := by decide +kernel
theorem dX7_elementFor_17 : decode cX7_elementFor 17 = .ok (.dreturn, 1) := by decide +kernel
theorem dX7_join_0 : decode cX7_join 0 = .ok (.aload_n 0, 1) := by decide +kernel
theorem dX7_join_1 : decode cX7_join 1 = .ok (.invokevirtual 82, 3) := by decide +kernel
theorem dX7_join_4 : decode cX7_join 4 = .ok (.istore_n 3, 1) := by decide +kernel
theorem dX7_join_5 : decode cX7_join 5 = .ok (.aload_n 2, 1) := by decide +kernel
theorem dX7_join_6 : decode cX7_join 6 = .ok (.invokevirtual 82, 3) := by decide +kernel
theorem dX7_join_9 : decode cX7_join 9 = .ok (.istore 4, 2) := by decide +kernel
theorem dX7_join_11 : decode cX7_join 11 = .ok (.iconst 0, 1) := by decide +kernel
theorem dX7_join_12 : decode cX7_join 12 = .ok (.istore 5, 2) := by decide +kernel
theorem dX7_join_14 : decode cX7_join 14 = .ok (.iload 5, 2) := by decide +kernel
theorem dX7_join_16 : decode cX7_join 16 = .ok (.iload 4, 2) := by decide +kernel
theorem dX7_join_18 : decode cX7_join 18 = .ok (.if_icmp .ge 41, 3) := by decide +kernel
theorem dX7_join_21 : decode cX7_join 21 = .ok (.aload_n 2, 1) := by decide +kernel
theorem dX7_join_22 : decode cX7_join 22 = .ok (.getfield 85, 3) := by decide +kernel
theorem dX7_join_25 : decode cX7_join 25 = .ok (.iload 5, 2) := by decide +kernel
theorem dX7_join_27 : decode cX7_join 27 = .ok (.iload 5, 2) := by decide +kernel
theorem dX7_join_29 : decode cX7_join 29 = .ok (.iload_n 3, 1) := by decide +kernel
theorem dX7_join_30 : decode cX7_join 30 = .ok (.if_icmp .ge 13, 3) := by decide +kernel
theorem dX7_join_33 : decode cX7_join 33 = .ok (.aload_n 0, 1) := by decide +kernel
theorem dX7_join_34 : decode cX7_join 34 = .ok (.getfield 85, 3) := by decide +kernel
theorem dX7_join_37 : decode cX7_join 37 = .ok (.iload 5, 2) := by decide +kernel
theorem dX7_join_39 : decode cX7_join 39 = .ok (.daload, 1) := by decide +kernel
theorem dX7_join_40 : decode cX7_join 40 = .ok (.goto 12, 3) := by decide +kernel
theorem dX7_join_43 : decode cX7_join 43 = .ok (.aload_n 1, 1) := by decide +kernel
theorem dX7_join_44 : decode cX7_join 44 = .ok (.getfield 85, 3) := by decide +kernel
theorem dX7_join_47 : decode cX7_join 47 = .ok (.iload 5, 2) := by decide +kernel
theorem dX7_join_49 : decode cX7_join 49 = .ok (.iload_n 3, 1) := by decide +kernel
theorem dX7_join_50 : decode cX7_join 50 = .ok (.isub, 1) := by decide +kernel
theorem dX7_join_51 : decode cX7_join 51 = .ok (.daload, 1) := by decide +kernel
theorem dX7_join_52 : decode cX7_join 52 = .ok (.dastore, 1) := by decide +kernel
theorem dX7_join_53 : decode cX7_join 53 = .ok (.iinc 5 1, 3) := by decide +kernel
theorem dX7_join_56 : decode cX7_join 56 = .ok (.goto (-42), 3) := by decide +kernel
theorem dX7_join_59 : decode cX7_join 59 = .ok (.return_, 1) := by decide +kernel
theorem dX7_fillAnew_0 : decode cX7_fillAnew 0 = .ok (.aload_n 1, 1) := by decide +kernel
theorem dX7_fillAnew_1 : decode cX7_fillAnew 1 = .ok (.invokevirtual 82, 3) := by decide +kernel
theorem dX7_fillAnew_4 : decode cX7_fillAnew 4 = .ok (.istore_n 2, 1) := by decide +kernel
theorem dX7_fillAnew_5 : decode cX7_fillAnew 5 = .ok (.aload_n 0, 1) := by decide +kernel
theorem dX7_fillAnew_6 : decode cX7_fillAnew 6 = .ok (.invokevirtual 82, 3) := by decide +kernel
theorem dX7_fillAnew_9 : decode cX7_fillAnew 9 = .ok (.iconst 1, 1) := by decide +kernel
theorem dX7_fillAnew_10 : decode cX7_fillAnew 10 = .ok (.isub, 1) := by decide +kernel
theorem dX7_fillAnew_11 : decode cX7_fillAnew 11 = .ok (.istore_n 3, 1) := by decide +kernel
theorem dX7_fillAnew_12 : decode cX7_fillAnew 12 = .ok (.iconst 0, 1) := by decide +kernel
theorem dX7_fillAnew_13 : decode cX7_fillAnew 13 = .ok (.istore 4, 2) := by decide +kernel
theorem dX7_fillAnew_15 : decode cX7_fillAnew 15 = .ok (.iconst 0, 1) := by decide +kernel
theorem dX7_fillAnew_16 : decode cX7_fillAnew 16 = .ok (.istore 5, 2) := by decide +kernel
theorem dX7_fillAnew_18 : decode cX7_fillAnew 18 = .ok (.iload 5, 2) := by decide +kernel
theorem dX7_fillAnew_20 : decode cX7_fillAnew 20 = .ok (.iload_n 2, 1) := by decide +kernel
theorem dX7_fillAnew_21 : decode cX7_fillAnew 21 = .ok (.if_icmp .ge 39, 3) := by decide +kernel
theorem dX7_fillAnew_24 : decode cX7_fillAnew 24 = .ok (.aload_n 1, 1) := by decide +kernel
theorem dX7_fillAnew_25 : decode cX7_fillAnew 25 = .ok (.getfield 85, 3) := by decide +kernel
theorem dX7_fillAnew_28 : decode cX7_fillAnew 28 = .ok (.iload 5, 2) := by decide +kernel
theorem dX7_fillAnew_30 : decode cX7_fillAnew 30 = .ok (.aload_n 0, 1) := by decide +kernel
theorem dX7_fillAnew_31 : decode cX7_fillAnew 31 = .ok (.getfield 85, 3) := by decide +kernel
theorem dX7_fillAnew_34 : decode cX7_fillAnew 34 = .ok (.iload 4, 2) := by decide +kernel
theorem dX7_fillAnew_36 : decode cX7_fillAnew 36 = .ok (.daload, 1) := by decide +kernel
theorem dX7_fillAnew_37 : decode cX7_fillAnew 37 = .ok (.dastore, 1) := by decide +kernel
theorem dX7_fillAnew_38 : decode cX7_fillAnew 38 = .ok (.iload 4, 2) := by decide +kernel
theorem dX7_fillAnew_40 : decode cX7_fillAnew 40 = .ok (.iload_n 3, 1) := by decide +kernel
theorem dX7_fillAnew_41 : decode cX7_fillAnew 41 = .ok (.if_icmp .ge 10, 3) := by decide +kernel
theorem dX7_fillAnew_44 : decode cX7_fillAnew 44 = .ok (.iload 4, 2) := by decide +kernel
theorem dX7_fillAnew_46 : decode cX7_fillAnew 46 = .ok (.iconst 1, 1) := by decide +kernel
theorem dX7_fillAnew_47 : decode cX7_fillAnew 47 = .ok (.iadd, 1) := by decide +kernel
theorem dX7_fillAnew_48 : decode cX7_fillAnew 48 = .ok (.goto 4, 3) := by decide +kernel
theorem dX7_fillAnew_51 : decode cX7_fillAnew 51 = .ok (.iconst 0, 1) := by decide +kernel
theorem dX7_fillAnew_52 : decode cX7_fillAnew 52 = .ok (.istore 4, 2) := by decide +kernel
theorem dX7_fillAnew_54 : decode cX7_fillAnew 54 = .ok (.iinc 5 1, 3) := by decide +kernel
theorem dX7_fillAnew_57 : decode cX7_fillAnew 57 = .ok (.goto (-39), 3) := by decide +kernel
theorem dX7_fillAnew_60 : decode cX7_fillAnew 60 = .ok (.return_, 1) := by decide +kernel
theorem dX7_combined_0 : decode cX7_combined 0 = .ok (.iload_n 0, 1) := by decide +kernel
theorem dX7_combined_1 : decode cX7_combined 1 = .ok (.dload_n 1, 1) := by decide +kernel
theorem dX7_combined_2 : decode cX7_combined 2 = .ok (.dload_n 3, 1) := by decide +kernel
theorem dX7_combined_3 : decode cX7_combined 3 = .ok (.invokestatic 113, 3) := by decide +kernel
theorem dX7_combined_6 : decode cX7_combined 6 = .ok (.dstore 5, 2) := by decide +kernel
theorem dX7_combined_8 : decode cX7_combined 8 = .ok (.dload 5, 2) := by decide +kernel
theorem dX7_combined_10 : decode cX7_combined 10 = .ok (.invokestatic 116, 3) := by decide +kernel
theorem dX7_combined_13 : decode cX7_combined 13 = .ok (.ifCond .ne 13, 3) := by decide +kernel
theorem dX7_combined_16 : decode cX7_combined 16 = .ok (.new 120, 3) := by decide +kernel
theorem dX7_combined_19 : decode cX7_combined 19 = .ok (.dup, 1) := by decide +kernel
theorem dX7_combined_20 : decode cX7_combined 20 = .ok (.ldc 122, 2) := by decide +kernel
theorem dX7_combined_22 : decode cX7_combined 22 = .ok (.invokespecial 124, 3) := by decide +kernel
theorem dX7_combined_25 : decode cX7_combined 25 = .ok (.athrow, 1) := by decide +kernel
theorem dX7_combined_26 : decode cX7_combined 26 = .ok (.dload 5, 2) := by decide +kernel
theorem dX7_combined_28 : decode cX7_combined 28 = .ok (.dreturn, 1) := by decide +kernel
theorem dX7_combinedFreely_0 : decode cX7_combinedFreely 0 = .ok (.iload_n 0, 1) := by decide +kernel
theorem dX7_combinedFreely_1 : decode cX7_combinedFreely 1 = .ok (.tableswitch 175 38 62 #[163, 175, 175, 175, 123, 115, 175, 119, 175, 175, 175, 175, 175, 175, 175, 175, 175, 175, 175, 175, 175, 175, 127, 151, 139], 115) := by decide +kernel
theorem dX7_combinedFreely_116 : decode cX7_combinedFreely 116 = .ok (.dload_n 1, 1) := by decide +kernel
theorem dX7_combinedFreely_117 : decode cX7_combinedFreely 117 = .ok (.dload_n 3, 1) := by decide +kernel
theorem dX7_combinedFreely_118 : decode cX7_combinedFreely 118 = .ok (.dadd, 1) := by decide +kernel
theorem dX7_combinedFreely_119 : decode cX7_combinedFreely 119 = .ok (.dreturn, 1) := by decide +kernel
theorem dX7_combinedFreely_120 : decode cX7_combinedFreely 120 = .ok (.dload_n 1, 1) := by decide +kernel
theorem dX7_combinedFreely_121 : decode cX7_combinedFreely 121 = .ok (.dload_n 3, 1) := by decide +kernel
theorem dX7_combinedFreely_122 : decode cX7_combinedFreely 122 = .ok (.dsub, 1) := by decide +kernel
theorem dX7_combinedFreely_123 : decode cX7_combinedFreely 123 = .ok (.dreturn, 1) := by decide +kernel
theorem dX7_combinedFreely_124 : decode cX7_combinedFreely 124 = .ok (.dload_n 1, 1) := by decide +kernel
theorem dX7_combinedFreely_125 : decode cX7_combinedFreely 125 = .ok (.dload_n 3, 1) := by decide +kernel
theorem dX7_combinedFreely_126 : decode cX7_combinedFreely 126 = .ok (.dmul, 1) := by decide +kernel
theorem dX7_combinedFreely_127 : decode cX7_combinedFreely 127 = .ok (.dreturn, 1) := by decide +kernel
theorem dX7_combinedFreely_128 : decode cX7_combinedFreely 128 = .ok (.dload_n 1, 1) := by decide +kernel
theorem dX7_combinedFreely_129 : decode cX7_combinedFreely 129 = .ok (.dload_n 3, 1) := by decide +kernel
theorem dX7_combinedFreely_130 : decode cX7_combinedFreely 130 = .ok (.dcmp .g, 1) := by decide +kernel
theorem dX7_combinedFreely_131 : decode cX7_combinedFreely 131 = .ok (.ifCond .ge 7, 3) := by decide +kernel
theorem dX7_combinedFreely_134 : decode cX7_combinedFreely 134 = .ok (.dconst 1, 1) := by decide +kernel
theorem dX7_combinedFreely_135 : decode cX7_combinedFreely 135 = .ok (.goto 4, 3) := by decide +kernel
theorem dX7_combinedFreely_138 : decode cX7_combinedFreely 138 = .ok (.dconst 0, 1) := by decide +kernel
theorem dX7_combinedFreely_139 : decode cX7_combinedFreely 139 = .ok (.dreturn, 1) := by decide +kernel
theorem dX7_combinedFreely_140 : decode cX7_combinedFreely 140 = .ok (.dload_n 1, 1) := by decide +kernel
theorem dX7_combinedFreely_141 : decode cX7_combinedFreely 141 = .ok (.dload_n 3, 1) := by decide +kernel
theorem dX7_combinedFreely_142 : decode cX7_combinedFreely 142 = .ok (.dcmp .l, 1) := by decide +kernel
theorem dX7_combinedFreely_143 : decode cX7_combinedFreely 143 = .ok (.ifCond .le 7, 3) := by decide +kernel
theorem dX7_combinedFreely_146 : decode cX7_combinedFreely 146 = .ok (.dconst 1, 1) := by decide +kernel
theorem dX7_combinedFreely_147 : decode cX7_combinedFreely 147 = .ok (.goto 4, 3) := by decide +kernel
theorem dX7_combinedFreely_150 : decode cX7_combinedFreely 150 = .ok (.dconst 0, 1) := by decide +kernel
theorem dX7_combinedFreely_151 : decode cX7_combinedFreely 151 = .ok (.dreturn, 1) := by decide +kernel
theorem dX7_combinedFreely_152 : decode cX7_combinedFreely 152 = .ok (.dload_n 1, 1) := by decide +kernel
theorem dX7_combinedFreely_153 : decode cX7_combinedFreely 153 = .ok (.dload_n 3, 1) := by decide +kernel
theorem dX7_combinedFreely_154 : decode cX7_combinedFreely 154 = .ok (.dcmp .l, 1) := by decide +kernel
theorem dX7_combinedFreely_155 : decode cX7_combinedFreely 155 = .ok (.ifCond .ne 7, 3) := by decide +kernel
theorem dX7_combinedFreely_158 : decode cX7_combinedFreely 158 = .ok (.dconst 1, 1) := by decide +kernel
theorem dX7_combinedFreely_159 : decode cX7_combinedFreely 159 = .ok (.goto 4, 3) := by decide +kernel
theorem dX7_combinedFreely_162 : decode cX7_combinedFreely 162 = .ok (.dconst 0, 1) := by decide +kernel
theorem dX7_combinedFreely_163 : decode cX7_combinedFreely 163 = .ok (.dreturn, 1) := by decide +kernel
theorem dX7_combinedFreely_164 : decode cX7_combinedFreely 164 = .ok (.dload_n 1, 1) := by decide +kernel
theorem dX7_combinedFreely_165 : decode cX7_combinedFreely 165 = .ok (.dload_n 3, 1) := by decide +kernel
theorem dX7_combinedFreely_166 : decode cX7_combinedFreely 166 = .ok (.dcmp .g, 1) := by decide +kernel
theorem dX7_combinedFreely_167 : decode cX7_combinedFreely 167 = .ok (.ifCond .ge 7, 3) := by decide +kernel
theorem dX7_combinedFreely_170 : decode cX7_combinedFreely 170 = .ok (.dload_n 1, 1) := by decide +kernel
theorem dX7_combinedFreely_171 : decode cX7_combinedFreely 171 = .ok (.goto 4, 3) := by decide +kernel
theorem dX7_combinedFreely_174 : decode cX7_combinedFreely 174 = .ok (.dload_n 3, 1) := by decide +kernel
theorem dX7_combinedFreely_175 : decode cX7_combinedFreely 175 = .ok (.dreturn, 1) := by decide +kernel
theorem dX7_combinedFreely_176 : decode cX7_combinedFreely 176 = .ok (.dload_n 1, 1) := by decide +kernel
theorem dX7_combinedFreely_177 : decode cX7_combinedFreely 177 = .ok (.dload_n 3, 1) := by decide +kernel
theorem dX7_combinedFreely_178 : decode cX7_combinedFreely 178 = .ok (.dcmp .l, 1) := by decide +kernel
theorem dX7_combinedFreely_179 : decode cX7_combinedFreely 179 = .ok (.ifCond .le 7, 3) := by decide +kernel
theorem dX7_combinedFreely_182 : decode cX7_combinedFreely 182 = .ok (.dload_n 1, 1) := by decide +kernel
theorem dX7_combinedFreely_183 : decode cX7_combinedFreely 183 = .ok (.goto 4, 3) := by decide +kernel
theorem dX7_combinedFreely_186 : decode cX7_combinedFreely 186 = .ok (.dload_n 3, 1) := by decide +kernel
theorem dX7_combinedFreely_187 : decode cX7_combinedFreely 187 = .ok (.dreturn, 1) := by decide +kernel
theorem dX8_init_0 : decode cX8_init 0 = .ok (.aload_n 0, 1) := by decide +kernel
theorem dX8_init_1 : decode cX8_init 1 = .ok (.invokespecial 3, 3) := by decide +kernel
theorem dX8_init_4 : decode cX8_init 4 = .ok (.aload_n 0, 1) := by decide +kernel
theorem dX8_init_5 : decode cX8_init 5 = .ok (.bipush 8, 2) := by decide +kernel
theorem dX8_init_7 : decode cX8_init 7 = .ok (.anewarray 9, 3) := by decide +kernel
theorem dX8_init_10 : decode cX8_init 10 = .ok (.putfield 11, 3) := by decide +kernel
theorem dX8_init_13 : decode cX8_init 13 = .ok (.iconst 0, 1) := by decide +kernel
theorem dX8_init_14 : decode cX8_init 14 = .ok (.istore_n 1, 1) := by decide +kernel
theorem dX8_init_15 : decode cX8_init 15 = .ok (.iload_n 1, 1) := by decide +kernel
theorem dX8_init_16 : decode cX8_init 16 = .ok (.bipush 8, 2) := by decide +kernel
theorem dX8_init_18 : decode cX8_init 18 = .ok (.if_icmp .ge 22, 3) := by decide +kernel
theorem dX8_init_21 : decode cX8_init 21 = .ok (.aload_n 0, 1) := by decide +kernel
theorem dX8_init_22 : decode cX8_init 22 = .ok (.getfield 11, 3) := by decide +kernel
theorem dX8_init_25 : decode cX8_init 25 = .ok (.iload_n 1, 1) := by decide +kernel
theorem dX8_init_26 : decode cX8_init 26 = .ok (.new 9, 3) := by decide +kernel
theorem dX8_init_29 : decode cX8_init 29 = .ok (.dup, 1) := by decide +kernel
theorem dX8_init_30 : decode cX8_init 30 = .ok (.invokespecial 15, 3) := by decide +kernel
theorem dX8_init_33 : decode cX8_init 33 = .ok (.aastore, 1) := by decide +kernel
theorem dX8_init_34 : decode cX8_init 34 = .ok (.iinc 1 1, 3) := by decide +kernel
theorem dX8_init_37 : decode cX8_init 37 = .ok (.goto (-22), 3) := by decide +kernel
theorem dX8_init_40 : decode cX8_init 40 = .ok (.aload_n 0, 1) := by decide +kernel
theorem dX8_init_41 : decode cX8_init 41 = .ok (.new 16, 3) := by decide +kernel
theorem dX8_init_44 : decode cX8_init 44 = .ok (.dup, 1) := by decide +kernel
theorem dX8_init_45 : decode cX8_init 45 = .ok (.invokespecial 18, 3) := by decide +kernel
theorem dX8_init_48 : decode cX8_init 48 = .ok (.putfield 19, 3) := by decide +kernel
theorem dX8_init_51 : decode cX8_init 51 = .ok (.aload_n 0, 1) := by decide +kernel
theorem dX8_init_52 : decode cX8_init 52 = .ok (.new 23, 3) := by decide +kernel
theorem dX8_init_55 : decode cX8_init 55 = .ok (.dup, 1) := by decide +kernel
theorem dX8_init_56 : decode cX8_init 56 = .ok (.invokespecial 25, 3) := by decide +kernel
theorem dX8_init_59 : decode cX8_init 59 = .ok (.putfield 26, 3) := by decide +kernel
theorem dX8_init_62 : decode cX8_init 62 = .ok (.return_, 1) := by decide +kernel
theorem dX8_write_0 : decode cX8_write 0 = .ok (.aload_n 0, 1) := by decide +kernel
theorem dX8_write_1 : decode cX8_write 1 = .ok (.getfield 19, 3) := by decide +kernel
theorem dX8_write_4 : decode cX8_write 4 = .ok (.lload_n 1, 1) := by decide +kernel
theorem dX8_write_5 : decode cX8_write 5 = .ok (.invokevirtual 30, 3) := by decide +kernel
theorem dX8_write_8 : decode cX8_write 8 = .ok (.ireturn, 1) := by decide +kernel
theorem dX8_erase_0 : decode cX8_erase 0 = .ok (.aload_n 0, 1) := by decide +kernel
theorem dX8_erase_1 : decode cX8_erase 1 = .ok (.getfield 19, 3) := by decide +kernel
theorem dX8_erase_4 : decode cX8_erase 4 = .ok (.invokevirtual 34, 3) := by decide +kernel
theorem dX8_erase_7 : decode cX8_erase 7 = .ok (.ireturn, 1) := by decide +kernel
theorem dX8_put_0 : decode cX8_put 0 = .ok (.iload_n 1, 1) := by decide +kernel
theorem dX8_put_1 : decode cX8_put 1 = .ok (.invokestatic 38, 3) := by decide +kernel
theorem dX8_put_4 : decode cX8_put 4 = .ok (.ifCond .eq 10, 3) := by decide +kernel
theorem dX8_put_7 : decode cX8_put 7 = .ok (.dload_n 2, 1) := by decide +kernel
theorem dX8_put_8 : decode cX8_put 8 = .ok (.invokestatic 42, 3) := by decide +kernel
theorem dX8_put_11 : decode cX8_put 11 = .ok (.ifCond .ne 5, 3) := by decide +kernel
theorem dX8_put_14 : decode cX8_put 14 = .ok (.iconst 0, 1) := by decide +kernel
theorem dX8_put_15 : decode cX8_put 15 = .ok (.ireturn, 1) := by decide +kernel
theorem dX8_put_16 : decode cX8_put 16 = .ok (.aload_n 0, 1) := by decide +kernel
theorem dX8_put_17 : decode cX8_put 17 = .ok (.getfield 11, 3) := by decide +kernel
theorem dX8_put_20 : decode cX8_put 20 = .ok (.iload_n 1, 1) := by decide +kernel
theorem dX8_put_21 : decode cX8_put 21 = .ok (.aaload, 1) := by decide +kernel
theorem dX8_put_22 : decode cX8_put 22 = .ok (.iconst 0, 1) := by decide +kernel
theorem dX8_put_23 : decode cX8_put 23 = .ok (.putfield 46, 3) := by decide +kernel
theorem dX8_put_26 : decode cX8_put 26 = .ok (.aload_n 0, 1) := by decide +kernel
theorem dX8_put_27 : decode cX8_put 27 = .ok (.getfield 11, 3) := by decide +kernel
theorem dX8_put_30 : decode cX8_put 30 = .ok (.iload_n 1, 1) := by decide +kernel
theorem dX8_put_31 : decode cX8_put 31 = .ok (.aaload, 1) := by decide +kernel
theorem dX8_put_32 : decode cX8_put 32 = .ok (.getfield 50, 3) := by decide +kernel
theorem dX8_put_35 : decode cX8_put 35 = .ok (.iconst 0, 1) := by decide +kernel
theorem dX8_put_36 : decode cX8_put 36 = .ok (.dload_n 2, 1) := by decide +kernel
theorem dX8_put_37 : decode cX8_put 37 = .ok (.dastore, 1) := by decide +kernel
theorem dX8_put_38 : decode cX8_put 38 = .ok (.iconst 1, 1) := by decide +kernel
theorem dX8_put_39 : decode cX8_put 39 = .ok (.ireturn, 1) := by decide +kernel
theorem dX8_shape_0 : decode cX8_shape 0 = .ok (.iload_n 1, 1) := by decide +kernel
theorem dX8_shape_1 : decode cX8_shape 1 = .ok (.invokestatic 38, 3) := by decide +kernel
theorem dX8_shape_4 : decode cX8_shape 4 = .ok (.ifCond .eq 10, 3) := by decide +kernel
theorem dX8_shape_7 : decode cX8_shape 7 = .ok (.iload_n 2, 1) := by decide +kernel
theorem dX8_shape_8 : decode cX8_shape 8 = .ok (.invokestatic 54, 3) := by decide +kernel
theorem dX8_shape_11 : decode cX8_shape 11 = .ok (.ifCond .ne 5, 3) := by decide +kernel
theorem dX8_shape_14 : decode cX8_shape 14 = .ok (.iconst 0, 1) := by decide +kernel
theorem dX8_shape_15 : decode cX8_shape 15 = .ok (.ireturn, 1) := by decide +kernel
theorem dX8_shape_16 : decode cX8_shape 16 = .ok (.aload_n 0, 1) := by decide +kernel
theorem dX8_shape_17 : decode cX8_shape 17 = .ok (.getfield 11, 3) := by decide +kernel
theorem dX8_shape_20 : decode cX8_shape 20 = .ok (.iload_n 1, 1) := by decide +kernel
theorem dX8_shape_21 : decode cX8_shape 21 = .ok (.aaload, 1) := by decide +kernel
theorem dX8_shape_22 : decode cX8_shape 22 = .ok (.iload_n 2, 1) := by decide +kernel
theorem dX8_shape_23 : decode cX8_shape 23 = .ok (.invokevirtual 59, 3) := by decide +kernel
theorem dX8_shape_26 : decode cX8_shape 26 = .ok (.iconst 1, 1) := by decide +kernel
theorem dX8_shape_27 : decode cX8_shape 27 = .ok (.ireturn, 1) := by decide +kernel
theorem dX8_set_0 : decode cX8_set 0 = .ok (.iload_n 1, 1) := by decide +kernel
theorem dX8_set_1 : decode cX8_set 1 = .ok (.invokestatic 38, 3) := by decide +kernel
theorem dX8_set_4 : decode cX8_set 4 = .ok (.ifCond .eq 23, 3) := by decide +kernel
theorem dX8_set_7 : decode cX8_set 7 = .ok (.aload_n 0, 1) := by decide +kernel
theorem dX8_set_8 : decode cX8_set 8 = .ok (.getfield 11, 3) := by decide +kernel
theorem dX8_set_11 : decode cX8_set 11 = .ok (.iload_n 1, 1) := by decide +kernel
theorem dX8_set_12 : decode cX8_set 12 = .ok (.aaload, 1) := by decide +kernel
theorem dX8_set_13 : decode cX8_set 13 = .ok (.iload_n 2, 1) := by decide +kernel
theorem dX8_set_14 : decode cX8_set 14 = .ok (.invokevirtual 63, 3) := by decide +kernel
theorem dX8_set_17 : decode cX8_set 17 = .ok (.ifCond .eq 10, 3) := by decide +kernel
theorem dX8_set_20 : decode cX8_set 20 = .ok (.dload_n 3, 1) := by decide +kernel
theorem dX8_set_21 : decode cX8_set 21 = .ok (.invokestatic 42, 3) := by decide +kernel
theorem dX8_set_24 : decode cX8_set 24 = .ok (.ifCond .ne 5, 3) := by decide +kernel
theorem dX8_set_27 : decode cX8_set 27 = .ok (.iconst 0, 1) := by decide +kernel
theorem dX8_set_28 : decode cX8_set 28 = .ok (.ireturn, 1) := by decide +kernel
theorem dX8_set_29 : decode cX8_set 29 = .ok (.aload_n 0, 1) := by decide +kernel
theorem dX8_set_30 : decode cX8_set 30 = .ok (.getfield 11, 3) := by decide +kernel
theorem dX8_set_33 : decode cX8_set 33 = .ok (.iload_n 1, 1) := by decide +kernel
theorem dX8_set_34 : decode cX8_set 34 = .ok (.aaload, 1) := by decide +kernel
theorem dX8_set_35 : decode cX8_set 35 = .ok (.getfield 50, 3) := by decide +kernel
theorem dX8_set_38 : decode cX8_set 38 = .ok (.iload_n 2, 1) := by decide +kernel
theorem dX8_set_39 : decode cX8_set 39 = .ok (.dload_n 3, 1) := by decide +kernel
theorem dX8_set_40 : decode cX8_set 40 = .ok (.dastore, 1) := by decide +kernel
theorem dX8_set_41 : decode cX8_set 41 = .ok (.iconst 1, 1) := by decide +kernel
theorem dX8_set_42 : decode cX8_set 42 = .ok (.ireturn, 1) := by decide +kernel
theorem dX8_shapeOf_0 : decode cX8_shapeOf 0 = .ok (.iload_n 1, 1) := by decide +kernel
theorem dX8_shapeOf_1 : decode cX8_shapeOf 1 = .ok (.invokestatic 38, 3) := by decide +kernel
theorem dX8_shapeOf_4 : decode cX8_shapeOf 4 = .ok (.ifCond .eq 15, 3) := by decide +kernel
theorem dX8_shapeOf_7 : decode cX8_shapeOf 7 = .ok (.aload_n 0, 1) := by decide +kernel
theorem dX8_shapeOf_8 : decode cX8_shapeOf 8 = .ok (.getfield 11, 3) := by decide +kernel
theorem dX8_shapeOf_11 : decode cX8_shapeOf 11 = .ok (.iload_n 1, 1) := by decide +kernel
theorem dX8_shapeOf_12 : decode cX8_shapeOf 12 = .ok (.aaload, 1) := by decide +kernel
theorem dX8_shapeOf_13 : decode cX8_shapeOf 13 = .ok (.getfield 46, 3) := by decide +kernel
theorem dX8_shapeOf_16 : decode cX8_shapeOf 16 = .ok (.goto 4, 3) := by decide +kernel
theorem dX8_shapeOf_19 : decode cX8_shapeOf 19 = .ok (.iconst (-1), 1) := by decide +kernel
theorem dX8_shapeOf_20 : decode cX8_shapeOf 20 = .ok (.ireturn, 1) := by decide +kernel
theorem dX8_size_0 : decode cX8_size 0 = .ok (.iload_n 1, 1) := by decide +kernel
theorem dX8_size_1 : decode cX8_size 1 = .ok (.invokestatic 38, 3) := by decide +kernel
theorem dX8_size_4 : decode cX8_size 4 = .ok (.ifCond .eq 15, 3) := by decide +kernel
theorem dX8_size_7 : decode cX8_size 7 = .ok (.aload_n 0, 1) := by decide +kernel
theorem dX8_size_8 : decode cX8_size 8 = .ok (.getfield 11, 3) := by decide +kernel
theorem dX8_size_11 : decode cX8_size 11 = .ok (.iload_n 1, 1) := by decide +kernel
theorem dX8_size_12 : decode cX8_size 12 = .ok (.aaload, 1) := by decide +kernel
theorem dX8_size_13 : decode cX8_size 13 = .ok (.invokevirtual 66, 3) := by decide +kernel
theorem dX8_size_16 : decode cX8_size 16 = .ok (.goto 4, 3) := by decide +kernel
theorem dX8_size_19 : decode cX8_size 19 = .ok (.iconst (-1), 1) := by decide +kernel
theorem dX8_size_20 : decode cX8_size 20 = .ok (.ireturn, 1) := by decide +kernel
theorem dX8_at_0 : decode cX8_at 0 = .ok (.iload_n 1, 1) := by decide +kernel
theorem dX8_at_1 : decode cX8_at 1 = .ok (.invokestatic 38, 3) := by decide +kernel
theorem dX8_at_4 : decode cX8_at 4 = .ok (.ifCond .eq 30, 3) := by decide +kernel
theorem dX8_at_7 : decode cX8_at 7 = .ok (.aload_n 0, 1) := by decide +kernel
theorem dX8_at_8 : decode cX8_at 8 = .ok (.getfield 11, 3) := by decide +kernel
theorem dX8_at_11 : decode cX8_at 11 = .ok (.iload_n 1, 1) := by decide +kernel
theorem dX8_at_12 : decode cX8_at 12 = .ok (.aaload, 1) := by decide +kernel
theorem dX8_at_13 : decode cX8_at 13 = .ok (.iload_n 2, 1) := by decide +kernel
theorem dX8_at_14 : decode cX8_at 14 = .ok (.invokevirtual 63, 3) := by decide +kernel
theorem dX8_at_17 : decode cX8_at 17 = .ok (.ifCond .eq 17, 3) := by decide +kernel
theorem dX8_at_20 : decode cX8_at 20 = .ok (.aload_n 0, 1) := by decide +kernel
theorem dX8_at_21 : decode cX8_at 21 = .ok (.getfield 11, 3) := by decide +kernel
theorem dX8_at_24 : decode cX8_at 24 = .ok (.iload_n 1, 1) := by decide +kernel
theorem dX8_at_25 : decode cX8_at 25 = .ok (.aaload, 1) := by decide +kernel
theorem dX8_at_26 : decode cX8_at 26 = .ok (.getfield 50, 3) := by decide +kernel
theorem dX8_at_29 : decode cX8_at 29 = .ok (.iload_n 2, 1) := by decide +kernel
theorem dX8_at_30 : decode cX8_at 30 = .ok (.daload, 1) := by decide +kernel
theorem dX8_at_31 : decode cX8_at 31 = .ok (.goto 4, 3) := by decide +kernel
theorem dX8_at_34 : decode cX8_at 34 = .ok (.dconst 0, 1) := by decide +kernel
theorem dX8_at_35 : decode cX8_at 35 = .ok (.dreturn, 1) := by decide +kernel
theorem dX8_run_0 : decode cX8_run 0 = .ok (.iload_n 1, 1) := by decide +kernel
theorem dX8_run_1 : decode cX8_run 1 = .ok (.invokestatic 38, 3) := by decide +kernel
theorem dX8_run_4 : decode cX8_run 4 = .ok (.ifCond .ne 13, 3) := by decide +kernel
theorem dX8_run_7 : decode cX8_run 7 = .ok (.new 69, 3) := by decide +kernel
theorem dX8_run_10 : decode cX8_run 10 = .ok (.dup, 1) := by decide +kernel
theorem dX8_run_11 : decode cX8_run 11 = .ok (.ldc 71, 2) := by decide +kernel
theorem dX8_run_13 : decode cX8_run 13 = .ok (.invokespecial 73, 3) := by decide +kernel
theorem dX8_run_16 : decode cX8_run 16 = .ok (.athrow, 1) := by decide +kernel
theorem dX8_run_17 : decode cX8_run 17 = .ok (.aload_n 0, 1) := by decide +kernel
theorem dX8_run_18 : decode cX8_run 18 = .ok (.getfield 19, 3) := by decide +kernel
theorem dX8_run_21 : decode cX8_run 21 = .ok (.aload_n 0, 1) := by decide +kernel
theorem dX8_run_22 : decode cX8_run 22 = .ok (.getfield 26, 3) := by decide +kernel
theorem dX8_run_25 : decode cX8_run 25 = .ok (.invokestatic 76, 3) := by decide +kernel
theorem dX8_run_28 : decode cX8_run 28 = .ok (.astore_n 2, 1) := by decide +kernel
theorem dX8_run_29 : decode cX8_run 29 = .ok (.aload_n 0, 1) := by decide +kernel
theorem dX8_run_30 : decode cX8_run 30 = .ok (.getfield 26, 3) := by decide +kernel
theorem dX8_run_33 : decode cX8_run 33 = .ok (.aload_n 0, 1) := by decide +kernel
theorem dX8_run_34 : decode cX8_run 34 = .ok (.getfield 11, 3) := by decide +kernel
theorem dX8_run_37 : decode cX8_run 37 = .ok (.invokestatic 82, 3) := by decide +kernel
theorem dX8_run_40 : decode cX8_run 40 = .ok (.aload_n 0, 1) := by decide +kernel
theorem dX8_run_41 : decode cX8_run 41 = .ok (.getfield 26, 3) := by decide +kernel
theorem dX8_run_44 : decode cX8_run 44 = .ok (.aload_n 0, 1) := by decide +kernel
theorem dX8_run_45 : decode cX8_run 45 = .ok (.getfield 11, 3) := by decide +kernel
theorem dX8_run_48 : decode cX8_run 48 = .ok (.invokestatic 88, 3) := by decide +kernel
theorem dX8_run_51 : decode cX8_run 51 = .ok (.aload_n 0, 1) := by decide +kernel
theorem dX8_run_52 : decode cX8_run 52 = .ok (.getfield 11, 3) := by decide +kernel
theorem dX8_run_55 : decode cX8_run 55 = .ok (.iload_n 1, 1) := by decide +kernel
theorem dX8_run_56 : decode cX8_run 56 = .ok (.aaload, 1) := by decide +kernel
theorem dX8_run_57 : decode cX8_run 57 = .ok (.aload_n 2, 1) := by decide +kernel
theorem dX8_run_58 : decode cX8_run 58 = .ok (.getfield 93, 3) := by decide +kernel
theorem dX8_run_61 : decode cX8_run 61 = .ok (.invokevirtual 99, 3) := by decide +kernel
theorem dX8_run_64 : decode cX8_run 64 = .ok (.aload_n 0, 1) := by decide +kernel
theorem dX8_run_65 : decode cX8_run 65 = .ok (.aload_n 0, 1) := by decide +kernel
theorem dX8_run_66 : decode cX8_run 66 = .ok (.getfield 26, 3) := by decide +kernel
theorem dX8_run_69 : decode cX8_run 69 = .ok (.aload_n 2, 1) := by decide +kernel
theorem dX8_run_70 : decode cX8_run 70 = .ok (.invokevirtual 103, 3) := by decide +kernel
theorem dX8_run_73 : decode cX8_run 73 = .ok (.putfield 107, 3) := by decide +kernel
theorem dX8_run_76 : decode cX8_run 76 = .ok (.aload_n 0, 1) := by decide +kernel
theorem dX8_run_77 : decode cX8_run 77 = .ok (.dup, 1) := by decide +kernel
theorem dX8_run_78 : decode cX8_run 78 = .ok (.getfield 110, 3) := by decide +kernel
theorem dX8_run_81 : decode cX8_run 81 = .ok (.iconst 1, 1) := by decide +kernel
theorem dX8_run_82 : decode cX8_run 82 = .ok (.iadd, 1) := by decide +kernel
theorem dX8_run_83 : decode cX8_run 83 = .ok (.putfield 110, 3) := by decide +kernel
theorem dX8_run_86 : decode cX8_run 86 = .ok (.aload_n 0, 1) := by decide +kernel
theorem dX8_run_87 : decode cX8_run 87 = .ok (.getfield 11, 3) := by decide +kernel
theorem dX8_run_90 : decode cX8_run 90 = .ok (.iload_n 1, 1) := by decide +kernel
theorem dX8_run_91 : decode cX8_run 91 = .ok (.aaload, 1) := by decide +kernel
theorem dX8_run_92 : decode cX8_run 92 = .ok (.invokevirtual 66, 3) := by decide +kernel
theorem dX8_run_95 : decode cX8_run 95 = .ok (.ireturn, 1) := by decide +kernel
theorem dX8_look_0 : decode cX8_look 0 = .ok (.aload_n 0, 1) := by decide +kernel
theorem dX8_look_1 : decode cX8_look 1 = .ok (.getfield 19, 3) := by decide +kernel
theorem dX8_look_4 : decode cX8_look 4 = .ok (.aload_n 0, 1) := by decide +kernel
theorem dX8_look_5 : decode cX8_look 5 = .ok (.getfield 26, 3) := by decide +kernel
theorem dX8_look_8 : decode cX8_look 8 = .ok (.invokestatic 76, 3) := by decide +kernel
theorem dX8_look_11 : decode cX8_look 11 = .ok (.astore_n 1, 1) := by decide +kernel
theorem dX8_look_12 : decode cX8_look 12 = .ok (.aload_n 0, 1) := by decide +kernel
theorem dX8_look_13 : decode cX8_look 13 = .ok (.getfield 26, 3) := by decide +kernel
theorem dX8_look_16 : decode cX8_look 16 = .ok (.aload_n 0, 1) := by decide +kernel
theorem dX8_look_17 : decode cX8_look 17 = .ok (.getfield 11, 3) := by decide +kernel
theorem dX8_look_20 : decode cX8_look 20 = .ok (.invokestatic 82, 3) := by decide +kernel
theorem dX8_look_23 : decode cX8_look 23 = .ok (.aload_n 1, 1) := by decide +kernel
theorem dX8_look_24 : decode cX8_look 24 = .ok (.getfield 93, 3) := by decide +kernel
theorem dX8_look_27 : decode cX8_look 27 = .ok (.getfield 46, 3) := by decide +kernel
theorem dX8_look_30 : decode cX8_look 30 = .ok (.ireturn, 1) := by decide +kernel
theorem dX8_made_0 : decode cX8_made 0 = .ok (.aload_n 0, 1) := by decide +kernel
theorem dX8_made_1 : decode cX8_made 1 = .ok (.getfield 107, 3) := by decide +kernel
theorem dX8_made_4 : decode cX8_made 4 = .ok (.ireturn, 1) := by decide +kernel
theorem dX8_runs_0 : decode cX8_runs 0 = .ok (.aload_n 0, 1) := by decide +kernel
theorem dX8_runs_1 : decode cX8_runs 1 = .ok (.getfield 110, 3) := by decide +kernel
theorem dX8_runs_4 : decode cX8_runs 4 = .ok (.ireturn, 1) := by decide +kernel
theorem dX8_isVariable_0 : decode cX8_isVariable 0 = .ok (.iload_n 0, 1) := by decide +kernel
theorem dX8_isVariable_1 : decode cX8_isVariable 1 = .ok (.ifCond .lt 13, 3) := by decide +kernel
theorem dX8_isVariable_4 : decode cX8_isVariable 4 = .ok (.iload_n 0, 1) := by decide +kernel
theorem dX8_isVariable_5 : decode cX8_isVariable 5 = .ok (.bipush 8, 2) := by decide +kernel
theorem dX8_isVariable_7 : decode cX8_isVariable 7 = .ok (.if_icmp .ge 7, 3) := by decide +kernel
theorem dX8_isVariable_10 : decode cX8_isVariable 10 = .ok (.iconst 1, 1) := by decide +kernel
theorem dX8_isVariable_11 : decode cX8_isVariable 11 = .ok (.goto 4, 3) := by decide +kernel
theorem dX8_isVariable_14 : decode cX8_isVariable 14 = .ok (.iconst 0, 1) := by decide +kernel
theorem dX8_isVariable_15 : decode cX8_isVariable 15 = .ok (.ireturn, 1) := by decide +kernel
theorem dX8_isInRange_0 : decode cX8_isInRange 0 = .ok (.dload_n 0, 1) := by decide +kernel
theorem dX8_isInRange_1 : decode cX8_isInRange 1 = .ok (.ldc2_w 113, 3) := by decide +kernel
theorem dX8_isInRange_4 : decode cX8_isInRange 4 = .ok (.dcmp .l, 1) := by decide +kernel
theorem dX8_isInRange_5 : decode cX8_isInRange 5 = .ok (.ifCond .lt 15, 3) := by decide +kernel
theorem dX8_isInRange_8 : decode cX8_isInRange 8 = .ok (.dload_n 0, 1) := by decide +kernel
theorem dX8_isInRange_9 : decode cX8_isInRange 9 = .ok (.ldc2_w 115, 3) := by decide +kernel
theorem dX8_isInRange_12 : decode cX8_isInRange 12 = .ok (.dcmp .g, 1) := by decide +kernel
theorem dX8_isInRange_13 : decode cX8_isInRange 13 = .ok (.ifCond .gt 7, 3) := by decide +kernel
theorem dX8_isInRange_16 : decode cX8_isInRange 16 = .ok (.iconst 1, 1) := by decide +kernel
theorem dX8_isInRange_17 : decode cX8_isInRange 17 = .ok (.goto 4, 3) := by decide +kernel
theorem dX8_isInRange_20 : decode cX8_isInRange 20 = .ok (.iconst 0, 1) := by decide +kernel
theorem dX8_isInRange_21 : decode cX8_isInRange 21 = .ok (.ireturn, 1) := by decide +kernel
theorem dJx00060_init_a7421_0 : decode cJx00060_init_a7421 0 = .ok (.aload_n 0, 1) := by decide +kernel
theorem dJx00060_init_a7421_1 : decode cJx00060_init_a7421 1 = .ok (.aload_n 1, 1) := by decide +kernel
theorem dJx00060_init_a7421_2 : decode cJx00060_init_a7421 2 = .ok (.invokespecial 7, 3) := by decide +kernel
theorem dJx00060_init_a7421_5 : decode cJx00060_init_a7421 5 = .ok (.return_, 1) := by decide +kernel

theorem dX9_init_0 : decode cX9_init 0 = .ok (.aload_n 0, 1) := by decide +kernel
theorem dX9_init_1 : decode cX9_init 1 = .ok (.invokespecial 1, 3) := by decide +kernel
theorem dX9_init_4 : decode cX9_init 4 = .ok (.aload_n 0, 1) := by decide +kernel
theorem dX9_init_5 : decode cX9_init 5 = .ok (.bipush 40, 2) := by decide +kernel
theorem dX9_init_7 : decode cX9_init 7 = .ok (.newarray .int, 2) := by decide +kernel
theorem dX9_init_9 : decode cX9_init 9 = .ok (.putfield 7, 3) := by decide +kernel
theorem dX9_init_12 : decode cX9_init 12 = .ok (.aload_n 0, 1) := by decide +kernel
theorem dX9_init_13 : decode cX9_init 13 = .ok (.bipush 8, 2) := by decide +kernel
theorem dX9_init_15 : decode cX9_init 15 = .ok (.newarray .int, 2) := by decide +kernel
theorem dX9_init_17 : decode cX9_init 17 = .ok (.putfield 13, 3) := by decide +kernel
theorem dX9_init_20 : decode cX9_init 20 = .ok (.aload_n 0, 1) := by decide +kernel
theorem dX9_init_21 : decode cX9_init 21 = .ok (.sipush 192, 3) := by decide +kernel
theorem dX9_init_24 : decode cX9_init 24 = .ok (.newarray .double, 2) := by decide +kernel
theorem dX9_init_26 : decode cX9_init 26 = .ok (.putfield 16, 3) := by decide +kernel
theorem dX9_init_29 : decode cX9_init 29 = .ok (.aload_n 0, 1) := by decide +kernel
theorem dX9_init_30 : decode cX9_init 30 = .ok (.bipush 40, 2) := by decide +kernel
theorem dX9_init_32 : decode cX9_init 32 = .ok (.newarray .int, 2) := by decide +kernel
theorem dX9_init_34 : decode cX9_init 34 = .ok (.putfield 20, 3) := by decide +kernel
theorem dX9_init_37 : decode cX9_init 37 = .ok (.aload_n 0, 1) := by decide +kernel
theorem dX9_init_38 : decode cX9_init 38 = .ok (.bipush 40, 2) := by decide +kernel
theorem dX9_init_40 : decode cX9_init 40 = .ok (.newarray .int, 2) := by decide +kernel
theorem dX9_init_42 : decode cX9_init 42 = .ok (.putfield 23, 3) := by decide +kernel
theorem dX9_init_45 : decode cX9_init 45 = .ok (.aload_n 0, 1) := by decide +kernel
theorem dX9_init_46 : decode cX9_init 46 = .ok (.bipush 40, 2) := by decide +kernel
theorem dX9_init_48 : decode cX9_init 48 = .ok (.newarray .int, 2) := by decide +kernel
theorem dX9_init_50 : decode cX9_init 50 = .ok (.putfield 26, 3) := by decide +kernel
theorem dX9_init_53 : decode cX9_init 53 = .ok (.aload_n 0, 1) := by decide +kernel
theorem dX9_init_54 : decode cX9_init 54 = .ok (.bipush 40, 2) := by decide +kernel
theorem dX9_init_56 : decode cX9_init 56 = .ok (.newarray .int, 2) := by decide +kernel
theorem dX9_init_58 : decode cX9_init 58 = .ok (.putfield 29, 3) := by decide +kernel
theorem dX9_init_61 : decode cX9_init 61 = .ok (.aload_n 0, 1) := by decide +kernel
theorem dX9_init_62 : decode cX9_init 62 = .ok (.bipush 24, 2) := by decide +kernel
theorem dX9_init_64 : decode cX9_init 64 = .ok (.newarray .double, 2) := by decide +kernel
theorem dX9_init_66 : decode cX9_init 66 = .ok (.putfield 32, 3) := by decide +kernel
theorem dX9_init_69 : decode cX9_init 69 = .ok (.aload_n 0, 1) := by decide +kernel
theorem dX9_init_70 : decode cX9_init 70 = .ok (.bipush 24, 2) := by decide +kernel
theorem dX9_init_72 : decode cX9_init 72 = .ok (.newarray .double, 2) := by decide +kernel
theorem dX9_init_74 : decode cX9_init 74 = .ok (.putfield 35, 3) := by decide +kernel
theorem dX9_init_77 : decode cX9_init 77 = .ok (.aload_n 0, 1) := by decide +kernel
theorem dX9_init_78 : decode cX9_init 78 = .ok (.sipush 528, 3) := by decide +kernel
theorem dX9_init_81 : decode cX9_init 81 = .ok (.newarray .double, 2) := by decide +kernel
theorem dX9_init_83 : decode cX9_init 83 = .ok (.putfield 38, 3) := by decide +kernel
theorem dX9_init_86 : decode cX9_init 86 = .ok (.aload_n 0, 1) := by decide +kernel
theorem dX9_init_87 : decode cX9_init 87 = .ok (.bipush 22, 2) := by decide +kernel
theorem dX9_init_89 : decode cX9_init 89 = .ok (.newarray .int, 2) := by decide +kernel
theorem dX9_init_91 : decode cX9_init 91 = .ok (.putfield 41, 3) := by decide +kernel
theorem dX9_init_94 : decode cX9_init 94 = .ok (.aload_n 0, 1) := by decide +kernel
theorem dX9_init_95 : decode cX9_init 95 = .ok (.bipush 22, 2) := by decide +kernel
theorem dX9_init_97 : decode cX9_init 97 = .ok (.newarray .int, 2) := by decide +kernel
theorem dX9_init_99 : decode cX9_init 99 = .ok (.putfield 44, 3) := by decide +kernel
theorem dX9_init_102 : decode cX9_init 102 = .ok (.return_, 1) := by decide +kernel
theorem dX9_thrown_0 : decode cX9_thrown 0 = .ok (.aload_n 0, 1) := by decide +kernel
theorem dX9_thrown_1 : decode cX9_thrown 1 = .ok (.getfield 47, 3) := by decide +kernel
theorem dX9_thrown_4 : decode cX9_thrown 4 = .ok (.ireturn, 1) := by decide +kernel
theorem dX9_within_0 : decode cX9_within 0 = .ok (.iload_n 0, 1) := by decide +kernel
theorem dX9_within_1 : decode cX9_within 1 = .ok (.iload_n 1, 1) := by decide +kernel
theorem dX9_within_2 : decode cX9_within 2 = .ok (.if_icmp .lt 12, 3) := by decide +kernel
theorem dX9_within_5 : decode cX9_within 5 = .ok (.iload_n 0, 1) := by decide +kernel
theorem dX9_within_6 : decode cX9_within 6 = .ok (.iload_n 2, 1) := by decide +kernel
theorem dX9_within_7 : decode cX9_within 7 = .ok (.if_icmp .gt 7, 3) := by decide +kernel
theorem dX9_within_10 : decode cX9_within 10 = .ok (.iconst 1, 1) := by decide +kernel
theorem dX9_within_11 : decode cX9_within 11 = .ok (.goto 4, 3) := by decide +kernel
theorem dX9_within_14 : decode cX9_within 14 = .ok (.iconst 0, 1) := by decide +kernel
theorem dX9_within_15 : decode cX9_within 15 = .ok (.ireturn, 1) := by decide +kernel
theorem dX9_write_0 : decode cX9_write 0 = .ok (.aload_n 0, 1) := by decide +kernel
theorem dX9_write_1 : decode cX9_write 1 = .ok (.iconst 0, 1) := by decide +kernel
theorem dX9_write_2 : decode cX9_write 2 = .ok (.putfield 47, 3) := by decide +kernel
theorem dX9_write_5 : decode cX9_write 5 = .ok (.iconst 0, 1) := by decide +kernel
theorem dX9_write_6 : decode cX9_write 6 = .ok (.istore_n 3, 1) := by decide +kernel
theorem dX9_write_7 : decode cX9_write 7 = .ok (.iconst 0, 1) := by decide +kernel
theorem dX9_write_8 : decode cX9_write 8 = .ok (.istore 4, 2) := by decide +kernel
theorem dX9_write_10 : decode cX9_write 10 = .ok (.iload 4, 2) := by decide +kernel
theorem dX9_write_12 : decode cX9_write 12 = .ok (.bipush 8, 2) := by decide +kernel
theorem dX9_write_14 : decode cX9_write 14 = .ok (.if_icmp .ge 43, 3) := by decide +kernel
theorem dX9_write_17 : decode cX9_write 17 = .ok (.lload_n 1, 1) := by decide +kernel
theorem dX9_write_18 : decode cX9_write 18 = .ok (.bipush 8, 2) := by decide +kernel
theorem dX9_write_20 : decode cX9_write 20 = .ok (.iload 4, 2) := by decide +kernel
theorem dX9_write_22 : decode cX9_write 22 = .ok (.imul, 1) := by decide +kernel
theorem dX9_write_23 : decode cX9_write 23 = .ok (.lshr, 1) := by decide +kernel
theorem dX9_write_24 : decode cX9_write 24 = .ok (.l2i, 1) := by decide +kernel
theorem dX9_write_25 : decode cX9_write 25 = .ok (.sipush 255, 3) := by decide +kernel
theorem dX9_write_28 : decode cX9_write 28 = .ok (.iand, 1) := by decide +kernel
theorem dX9_write_29 : decode cX9_write 29 = .ok (.istore 5, 2) := by decide +kernel
theorem dX9_write_31 : decode cX9_write 31 = .ok (.iload 5, 2) := by decide +kernel
theorem dX9_write_33 : decode cX9_write 33 = .ok (.ifCond .ne 6, 3) := by decide +kernel
theorem dX9_write_36 : decode cX9_write 36 = .ok (.goto 21, 3) := by decide +kernel
theorem dX9_write_39 : decode cX9_write 39 = .ok (.iload 5, 2) := by decide +kernel
theorem dX9_write_41 : decode cX9_write 41 = .ok (.bipush 127, 2) := by decide +kernel
theorem dX9_write_43 : decode cX9_write 43 = .ok (.if_icmp .le 5, 3) := by decide +kernel
theorem dX9_write_46 : decode cX9_write 46 = .ok (.iconst (-1), 1) := by decide +kernel
theorem dX9_write_47 : decode cX9_write 47 = .ok (.ireturn, 1) := by decide +kernel
theorem dX9_write_48 : decode cX9_write 48 = .ok (.iinc 3 1, 3) := by decide +kernel
theorem dX9_write_51 : decode cX9_write 51 = .ok (.iinc 4 1, 3) := by decide +kernel
theorem dX9_write_54 : decode cX9_write 54 = .ok (.goto (-44), 3) := by decide +kernel
theorem dX9_write_57 : decode cX9_write 57 = .ok (.aload_n 0, 1) := by decide +kernel
theorem dX9_write_58 : decode cX9_write 58 = .ok (.getfield 51, 3) := by decide +kernel
theorem dX9_write_61 : decode cX9_write 61 = .ok (.iload_n 3, 1) := by decide +kernel
theorem dX9_write_62 : decode cX9_write 62 = .ok (.iadd, 1) := by decide +kernel
theorem dX9_write_63 : decode cX9_write 63 = .ok (.bipush 40, 2) := by decide +kernel
theorem dX9_write_65 : decode cX9_write 65 = .ok (.if_icmp .le 5, 3) := by decide +kernel
theorem dX9_write_68 : decode cX9_write 68 = .ok (.iconst (-1), 1) := by decide +kernel
theorem dX9_write_69 : decode cX9_write 69 = .ok (.ireturn, 1) := by decide +kernel
theorem dX9_write_70 : decode cX9_write 70 = .ok (.iconst 0, 1) := by decide +kernel
theorem dX9_write_71 : decode cX9_write 71 = .ok (.istore 4, 2) := by decide +kernel
theorem dX9_write_73 : decode cX9_write 73 = .ok (.iload 4, 2) := by decide +kernel
theorem dX9_write_75 : decode cX9_write 75 = .ok (.iload_n 3, 1) := by decide +kernel
theorem dX9_write_76 : decode cX9_write 76 = .ok (.if_icmp .ge 32, 3) := by decide +kernel
theorem dX9_write_79 : decode cX9_write 79 = .ok (.aload_n 0, 1) := by decide +kernel
theorem dX9_write_80 : decode cX9_write 80 = .ok (.getfield 7, 3) := by decide +kernel
theorem dX9_write_83 : decode cX9_write 83 = .ok (.aload_n 0, 1) := by decide +kernel
theorem dX9_write_84 : decode cX9_write 84 = .ok (.getfield 51, 3) := by decide +kernel
theorem dX9_write_87 : decode cX9_write 87 = .ok (.iload 4, 2) := by decide +kernel
theorem dX9_write_89 : decode cX9_write 89 = .ok (.iadd, 1) := by decide +kernel
theorem dX9_write_90 : decode cX9_write 90 = .ok (.lload_n 1, 1) := by decide +kernel
theorem dX9_write_91 : decode cX9_write 91 = .ok (.bipush 8, 2) := by decide +kernel
theorem dX9_write_93 : decode cX9_write 93 = .ok (.iload 4, 2) := by decide +kernel
theorem dX9_write_95 : decode cX9_write 95 = .ok (.imul, 1) := by decide +kernel
theorem dX9_write_96 : decode cX9_write 96 = .ok (.lshr, 1) := by decide +kernel
theorem dX9_write_97 : decode cX9_write 97 = .ok (.l2i, 1) := by decide +kernel
theorem dX9_write_98 : decode cX9_write 98 = .ok (.bipush 127, 2) := by decide +kernel
theorem dX9_write_100 : decode cX9_write 100 = .ok (.iand, 1) := by decide +kernel
theorem dX9_write_101 : decode cX9_write 101 = .ok (.iastore, 1) := by decide +kernel
theorem dX9_write_102 : decode cX9_write 102 = .ok (.iinc 4 1, 3) := by decide +kernel
theorem dX9_write_105 : decode cX9_write 105 = .ok (.goto (-32), 3) := by decide +kernel
theorem dX9_write_108 : decode cX9_write 108 = .ok (.aload_n 0, 1) := by decide +kernel
theorem dX9_write_109 : decode cX9_write 109 = .ok (.dup, 1) := by decide +kernel
theorem dX9_write_110 : decode cX9_write 110 = .ok (.getfield 51, 3) := by decide +kernel
theorem dX9_write_113 : decode cX9_write 113 = .ok (.iload_n 3, 1) := by decide +kernel
theorem dX9_write_114 : decode cX9_write 114 = .ok (.iadd, 1) := by decide +kernel
theorem dX9_write_115 : decode cX9_write 115 = .ok (.putfield 51, 3) := by decide +kernel
theorem dX9_write_118 : decode cX9_write 118 = .ok (.iload_n 3, 1) := by decide +kernel
theorem dX9_write_119 : decode cX9_write 119 = .ok (.ireturn, 1) := by decide +kernel
theorem dX9_erase_0 : decode cX9_erase 0 = .ok (.aload_n 0, 1) := by decide +kernel
theorem dX9_erase_1 : decode cX9_erase 1 = .ok (.iconst 0, 1) := by decide +kernel
theorem dX9_erase_2 : decode cX9_erase 2 = .ok (.putfield 47, 3) := by decide +kernel
theorem dX9_erase_5 : decode cX9_erase 5 = .ok (.aload_n 0, 1) := by decide +kernel
theorem dX9_erase_6 : decode cX9_erase 6 = .ok (.getfield 51, 3) := by decide +kernel
theorem dX9_erase_9 : decode cX9_erase 9 = .ok (.istore_n 1, 1) := by decide +kernel
theorem dX9_erase_10 : decode cX9_erase 10 = .ok (.aload_n 0, 1) := by decide +kernel
theorem dX9_erase_11 : decode cX9_erase 11 = .ok (.iconst 0, 1) := by decide +kernel
theorem dX9_erase_12 : decode cX9_erase 12 = .ok (.putfield 51, 3) := by decide +kernel
theorem dX9_erase_15 : decode cX9_erase 15 = .ok (.iload_n 1, 1) := by decide +kernel
theorem dX9_erase_16 : decode cX9_erase 16 = .ok (.ireturn, 1) := by decide +kernel
theorem dX9_fits_0 : decode cX9_fits 0 = .ok (.dload_n 0, 1) := by decide +kernel
theorem dX9_fits_1 : decode cX9_fits 1 = .ok (.ldc2_w 54, 3) := by decide +kernel
theorem dX9_fits_4 : decode cX9_fits 4 = .ok (.dcmp .l, 1) := by decide +kernel
theorem dX9_fits_5 : decode cX9_fits 5 = .ok (.ifCond .lt 15, 3) := by decide +kernel
theorem dX9_fits_8 : decode cX9_fits 8 = .ok (.dload_n 0, 1) := by decide +kernel
theorem dX9_fits_9 : decode cX9_fits 9 = .ok (.ldc2_w 56, 3) := by decide +kernel
theorem dX9_fits_12 : decode cX9_fits 12 = .ok (.dcmp .g, 1) := by decide +kernel
theorem dX9_fits_13 : decode cX9_fits 13 = .ok (.ifCond .gt 7, 3) := by decide +kernel
theorem dX9_fits_16 : decode cX9_fits 16 = .ok (.iconst 1, 1) := by decide +kernel
theorem dX9_fits_17 : decode cX9_fits 17 = .ok (.goto 4, 3) := by decide +kernel
theorem dX9_fits_20 : decode cX9_fits 20 = .ok (.iconst 0, 1) := by decide +kernel
theorem dX9_fits_21 : decode cX9_fits 21 = .ok (.ireturn, 1) := by decide +kernel
theorem dX9_put_0 : decode cX9_put 0 = .ok (.aload_n 0, 1) := by decide +kernel
theorem dX9_put_1 : decode cX9_put 1 = .ok (.iconst 0, 1) := by decide +kernel
theorem dX9_put_2 : decode cX9_put 2 = .ok (.putfield 47, 3) := by decide +kernel
theorem dX9_put_5 : decode cX9_put 5 = .ok (.iload_n 1, 1) := by decide +kernel
theorem dX9_put_6 : decode cX9_put 6 = .ok (.iconst 0, 1) := by decide +kernel
theorem dX9_put_7 : decode cX9_put 7 = .ok (.bipush 7, 2) := by decide +kernel
theorem dX9_put_9 : decode cX9_put 9 = .ok (.invokestatic 58, 3) := by decide +kernel
theorem dX9_put_12 : decode cX9_put 12 = .ok (.ifCond .eq 10, 3) := by decide +kernel
theorem dX9_put_15 : decode cX9_put 15 = .ok (.dload_n 2, 1) := by decide +kernel
theorem dX9_put_16 : decode cX9_put 16 = .ok (.invokestatic 62, 3) := by decide +kernel
theorem dX9_put_19 : decode cX9_put 19 = .ok (.ifCond .ne 5, 3) := by decide +kernel
theorem dX9_put_22 : decode cX9_put 22 = .ok (.iconst 0, 1) := by decide +kernel
theorem dX9_put_23 : decode cX9_put 23 = .ok (.ireturn, 1) := by decide +kernel
theorem dX9_put_24 : decode cX9_put 24 = .ok (.aload_n 0, 1) := by decide +kernel
theorem dX9_put_25 : decode cX9_put 25 = .ok (.getfield 13, 3) := by decide +kernel
theorem dX9_put_28 : decode cX9_put 28 = .ok (.iload_n 1, 1) := by decide +kernel
theorem dX9_put_29 : decode cX9_put 29 = .ok (.iconst 0, 1) := by decide +kernel
theorem dX9_put_30 : decode cX9_put 30 = .ok (.iastore, 1) := by decide +kernel
theorem dX9_put_31 : decode cX9_put 31 = .ok (.aload_n 0, 1) := by decide +kernel
theorem dX9_put_32 : decode cX9_put 32 = .ok (.getfield 16, 3) := by decide +kernel
theorem dX9_put_35 : decode cX9_put 35 = .ok (.bipush 24, 2) := by decide +kernel
theorem dX9_put_37 : decode cX9_put 37 = .ok (.iload_n 1, 1) := by decide +kernel
theorem dX9_put_38 : decode cX9_put 38 = .ok (.imul, 1) := by decide +kernel
theorem dX9_put_39 : decode cX9_put 39 = .ok (.dload_n 2, 1) := by decide +kernel
theorem dX9_put_40 : decode cX9_put 40 = .ok (.dastore, 1) := by decide +kernel
theorem dX9_put_41 : decode cX9_put 41 = .ok (.iconst 1, 1) := by decide +kernel
theorem dX9_put_42 : decode cX9_put 42 = .ok (.ireturn, 1) := by decide +kernel
theorem dX9_isShape_0 : decode cX9_isShape 0 = .ok (.iload_n 0, 1) := by decide +kernel
theorem dX9_isShape_1 : decode cX9_isShape 1 = .ok (.iconst 0, 1) := by decide +kernel
theorem dX9_isShape_2 : decode cX9_isShape 2 = .ok (.bipush 24, 2) := by decide +kernel
theorem dX9_isShape_4 : decode cX9_isShape 4 = .ok (.invokestatic 58, 3) := by decide +kernel
theorem dX9_isShape_7 : decode cX9_isShape 7 = .ok (.ifCond .eq 5, 3) := by decide +kernel
theorem dX9_isShape_10 : decode cX9_isShape 10 = .ok (.iconst 1, 1) := by decide +kernel
theorem dX9_isShape_11 : decode cX9_isShape 11 = .ok (.ireturn, 1) := by decide +kernel
theorem dX9_isShape_12 : decode cX9_isShape 12 = .ok (.iload_n 0, 1) := by decide +kernel
theorem dX9_isShape_13 : decode cX9_isShape 13 = .ok (.bipush 32, 2) := by decide +kernel
theorem dX9_isShape_15 : decode cX9_isShape 15 = .ok (.idiv, 1) := by decide +kernel
theorem dX9_isShape_16 : decode cX9_isShape 16 = .ok (.istore_n 1, 1) := by decide +kernel
theorem dX9_isShape_17 : decode cX9_isShape 17 = .ok (.iload_n 0, 1) := by decide +kernel
theorem dX9_isShape_18 : decode cX9_isShape 18 = .ok (.bipush 32, 2) := by decide +kernel
theorem dX9_isShape_20 : decode cX9_isShape 20 = .ok (.irem, 1) := by decide +kernel
theorem dX9_isShape_21 : decode cX9_isShape 21 = .ok (.istore_n 2, 1) := by decide +kernel
theorem dX9_isShape_22 : decode cX9_isShape 22 = .ok (.iload_n 0, 1) := by decide +kernel
theorem dX9_isShape_23 : decode cX9_isShape 23 = .ok (.ifCond .le 35, 3) := by decide +kernel
theorem dX9_isShape_26 : decode cX9_isShape 26 = .ok (.iload_n 1, 1) := by decide +kernel
theorem dX9_isShape_27 : decode cX9_isShape 27 = .ok (.iconst 1, 1) := by decide +kernel
theorem dX9_isShape_28 : decode cX9_isShape 28 = .ok (.bipush 24, 2) := by decide +kernel
theorem dX9_isShape_30 : decode cX9_isShape 30 = .ok (.invokestatic 58, 3) := by decide +kernel
theorem dX9_isShape_33 : decode cX9_isShape 33 = .ok (.ifCond .eq 25, 3) := by decide +kernel
theorem dX9_isShape_36 : decode cX9_isShape 36 = .ok (.iload_n 2, 1) := by decide +kernel
theorem dX9_isShape_37 : decode cX9_isShape 37 = .ok (.iconst 1, 1) := by decide +kernel
theorem dX9_isShape_38 : decode cX9_isShape 38 = .ok (.bipush 24, 2) := by decide +kernel
theorem dX9_isShape_40 : decode cX9_isShape 40 = .ok (.invokestatic 58, 3) := by decide +kernel
theorem dX9_isShape_43 : decode cX9_isShape 43 = .ok (.ifCond .eq 15, 3) := by decide +kernel
theorem dX9_isShape_46 : decode cX9_isShape 46 = .ok (.iload_n 1, 1) := by decide +kernel
theorem dX9_isShape_47 : decode cX9_isShape 47 = .ok (.iload_n 2, 1) := by decide +kernel
theorem dX9_isShape_48 : decode cX9_isShape 48 = .ok (.imul, 1) := by decide +kernel
theorem dX9_isShape_49 : decode cX9_isShape 49 = .ok (.bipush 24, 2) := by decide +kernel
theorem dX9_isShape_51 : decode cX9_isShape 51 = .ok (.if_icmp .gt 7, 3) := by decide +kernel
theorem dX9_isShape_54 : decode cX9_isShape 54 = .ok (.iconst 1, 1) := by decide +kernel
theorem dX9_isShape_55 : decode cX9_isShape 55 = .ok (.goto 4, 3) := by decide +kernel
theorem dX9_isShape_58 : decode cX9_isShape 58 = .ok (.iconst 0, 1) := by decide +kernel
theorem dX9_isShape_59 : decode cX9_isShape 59 = .ok (.ireturn, 1) := by decide +kernel
theorem dX9_count_0 : decode cX9_count 0 = .ok (.iload_n 0, 1) := by decide +kernel
theorem dX9_count_1 : decode cX9_count 1 = .ok (.ifCond .ne 7, 3) := by decide +kernel
theorem dX9_count_4 : decode cX9_count 4 = .ok (.iconst 1, 1) := by decide +kernel
theorem dX9_count_5 : decode cX9_count 5 = .ok (.goto 22, 3) := by decide +kernel
theorem dX9_count_8 : decode cX9_count 8 = .ok (.iload_n 0, 1) := by decide +kernel
theorem dX9_count_9 : decode cX9_count 9 = .ok (.bipush 32, 2) := by decide +kernel
theorem dX9_count_11 : decode cX9_count 11 = .ok (.if_icmp .ge 7, 3) := by decide +kernel
theorem dX9_count_14 : decode cX9_count 14 = .ok (.iload_n 0, 1) := by decide +kernel
theorem dX9_count_15 : decode cX9_count 15 = .ok (.goto 12, 3) := by decide +kernel
theorem dX9_count_18 : decode cX9_count 18 = .ok (.iload_n 0, 1) := by decide +kernel
theorem dX9_count_19 : decode cX9_count 19 = .ok (.bipush 32, 2) := by decide +kernel
theorem dX9_count_21 : decode cX9_count 21 = .ok (.idiv, 1) := by decide +kernel
theorem dX9_count_22 : decode cX9_count 22 = .ok (.iload_n 0, 1) := by decide +kernel
theorem dX9_count_23 : decode cX9_count 23 = .ok (.bipush 32, 2) := by decide +kernel
theorem dX9_count_25 : decode cX9_count 25 = .ok (.irem, 1) := by decide +kernel
theorem dX9_count_26 : decode cX9_count 26 = .ok (.imul, 1) := by decide +kernel
theorem dX9_count_27 : decode cX9_count 27 = .ok (.ireturn, 1) := by decide +kernel
theorem dX9_shape_0 : decode cX9_shape 0 = .ok (.aload_n 0, 1) := by decide +kernel
theorem dX9_shape_1 : decode cX9_shape 1 = .ok (.iconst 0, 1) := by decide +kernel
theorem dX9_shape_2 : decode cX9_shape 2 = .ok (.putfield 47, 3) := by decide +kernel
theorem dX9_shape_5 : decode cX9_shape 5 = .ok (.iload_n 1, 1) := by decide +kernel
theorem dX9_shape_6 : decode cX9_shape 6 = .ok (.iconst 0, 1) := by decide +kernel
theorem dX9_shape_7 : decode cX9_shape 7 = .ok (.bipush 7, 2) := by decide +kernel
theorem dX9_shape_9 : decode cX9_shape 9 = .ok (.invokestatic 58, 3) := by decide +kernel
theorem dX9_shape_12 : decode cX9_shape 12 = .ok (.ifCond .eq 10, 3) := by decide +kernel
theorem dX9_shape_15 : decode cX9_shape 15 = .ok (.iload_n 2, 1) := by decide +kernel
theorem dX9_shape_16 : decode cX9_shape 16 = .ok (.invokestatic 66, 3) := by decide +kernel
theorem dX9_shape_19 : decode cX9_shape 19 = .ok (.ifCond .ne 5, 3) := by decide +kernel
theorem dX9_shape_22 : decode cX9_shape 22 = .ok (.iconst 0, 1) := by decide +kernel
theorem dX9_shape_23 : decode cX9_shape 23 = .ok (.ireturn, 1) := by decide +kernel
theorem dX9_shape_24 : decode cX9_shape 24 = .ok (.aload_n 0, 1) := by decide +kernel
theorem dX9_shape_25 : decode cX9_shape 25 = .ok (.getfield 13, 3) := by decide +kernel
theorem dX9_shape_28 : decode cX9_shape 28 = .ok (.iload_n 1, 1) := by decide +kernel
theorem dX9_shape_29 : decode cX9_shape 29 = .ok (.iload_n 2, 1) := by decide +kernel
theorem dX9_shape_30 : decode cX9_shape 30 = .ok (.iastore, 1) := by decide +kernel
theorem dX9_shape_31 : decode cX9_shape 31 = .ok (.iconst 0, 1) := by decide +kernel
theorem dX9_shape_32 : decode cX9_shape 32 = .ok (.istore_n 3, 1) := by decide +kernel
theorem dX9_shape_33 : decode cX9_shape 33 = .ok (.iload_n 3, 1) := by decide +kernel
theorem dX9_shape_34 : decode cX9_shape 34 = .ok (.bipush 24, 2) := by decide +kernel
theorem dX9_shape_36 : decode cX9_shape 36 = .ok (.if_icmp .ge 21, 3) := by decide +kernel
theorem dX9_shape_39 : decode cX9_shape 39 = .ok (.aload_n 0, 1) := by decide +kernel
theorem dX9_shape_40 : decode cX9_shape 40 = .ok (.getfield 16, 3) := by decide +kernel
theorem dX9_shape_43 : decode cX9_shape 43 = .ok (.bipush 24, 2) := by decide +kernel
theorem dX9_shape_45 : decode cX9_shape 45 = .ok (.iload_n 1, 1) := by decide +kernel
theorem dX9_shape_46 : decode cX9_shape 46 = .ok (.imul, 1) := by decide +kernel
theorem dX9_shape_47 : decode cX9_shape 47 = .ok (.iload_n 3, 1) := by decide +kernel
theorem dX9_shape_48 : decode cX9_shape 48 = .ok (.iadd, 1) := by decide +kernel
theorem dX9_shape_49 : decode cX9_shape 49 = .ok (.dconst 0, 1) := by decide +kernel
theorem dX9_shape_50 : decode cX9_shape 50 = .ok (.dastore, 1) := by decide +kernel
theorem dX9_shape_51 : decode cX9_shape 51 = .ok (.iinc 3 1, 3) := by decide +kernel
theorem dX9_shape_54 : decode cX9_shape 54 = .ok (.goto (-21), 3) := by decide +kernel
theorem dX9_shape_57 : decode cX9_shape 57 = .ok (.iconst 1, 1) := by decide +kernel
theorem dX9_shape_58 : decode cX9_shape 58 = .ok (.ireturn, 1) := by decide +kernel
theorem dX9_has_0 : decode cX9_has 0 = .ok (.iload_n 1, 1) := by decide +kernel
theorem dX9_has_1 : decode cX9_has 1 = .ok (.iconst 0, 1) := by decide +kernel
theorem dX9_has_2 : decode cX9_has 2 = .ok (.bipush 7, 2) := by decide +kernel
theorem dX9_has_4 : decode cX9_has 4 = .ok (.invokestatic 58, 3) := by decide +kernel
theorem dX9_has_7 : decode cX9_has 7 = .ok (.ifCond .eq 26, 3) := by decide +kernel
theorem dX9_has_10 : decode cX9_has 10 = .ok (.iload_n 2, 1) := by decide +kernel
theorem dX9_has_11 : decode cX9_has 11 = .ok (.iconst 0, 1) := by decide +kernel
theorem dX9_has_12 : decode cX9_has 12 = .ok (.aload_n 0, 1) := by decide +kernel
theorem dX9_has_13 : decode cX9_has 13 = .ok (.getfield 13, 3) := by decide +kernel
theorem dX9_has_16 : decode cX9_has 16 = .ok (.iload_n 1, 1) := by decide +kernel
theorem dX9_has_17 : decode cX9_has 17 = .ok (.iaload, 1) := by decide +kernel
theorem dX9_has_18 : decode cX9_has 18 = .ok (.invokestatic 70, 3) := by decide +kernel
theorem dX9_has_21 : decode cX9_has 21 = .ok (.iconst 1, 1) := by decide +kernel
theorem dX9_has_22 : decode cX9_has 22 = .ok (.isub, 1) := by decide +kernel
theorem dX9_has_23 : decode cX9_has 23 = .ok (.invokestatic 58, 3) := by decide +kernel
theorem dX9_has_26 : decode cX9_has 26 = .ok (.ifCond .eq 7, 3) := by decide +kernel
theorem dX9_has_29 : decode cX9_has 29 = .ok (.iconst 1, 1) := by decide +kernel
theorem dX9_has_30 : decode cX9_has 30 = .ok (.goto 4, 3) := by decide +kernel
theorem dX9_has_33 : decode cX9_has 33 = .ok (.iconst 0, 1) := by decide +kernel
theorem dX9_has_34 : decode cX9_has 34 = .ok (.ireturn, 1) := by decide +kernel
theorem dX9_set_0 : decode cX9_set 0 = .ok (.aload_n 0, 1) := by decide +kernel
theorem dX9_set_1 : decode cX9_set 1 = .ok (.iconst 0, 1) := by decide +kernel
theorem dX9_set_2 : decode cX9_set 2 = .ok (.putfield 47, 3) := by decide +kernel
theorem dX9_set_5 : decode cX9_set 5 = .ok (.aload_n 0, 1) := by decide +kernel
theorem dX9_set_6 : decode cX9_set 6 = .ok (.iload_n 1, 1) := by decide +kernel
theorem dX9_set_7 : decode cX9_set 7 = .ok (.iload_n 2, 1) := by decide +kernel
theorem dX9_set_8 : decode cX9_set 8 = .ok (.invokevirtual 74, 3) := by decide +kernel
theorem dX9_set_11 : decode cX9_set 11 = .ok (.ifCond .eq 10, 3) := by decide +kernel
theorem dX9_set_14 : decode cX9_set 14 = .ok (.dload_n 3, 1) := by decide +kernel
theorem dX9_set_15 : decode cX9_set 15 = .ok (.invokestatic 62, 3) := by decide +kernel
theorem dX9_set_18 : decode cX9_set 18 = .ok (.ifCond .ne 5, 3) := by decide +kernel
theorem dX9_set_21 : decode cX9_set 21 = .ok (.iconst 0, 1) := by decide +kernel
theorem dX9_set_22 : decode cX9_set 22 = .ok (.ireturn, 1) := by decide +kernel
theorem dX9_set_23 : decode cX9_set 23 = .ok (.aload_n 0, 1) := by decide +kernel
theorem dX9_set_24 : decode cX9_set 24 = .ok (.getfield 16, 3) := by decide +kernel
theorem dX9_set_27 : decode cX9_set 27 = .ok (.bipush 24, 2) := by decide +kernel
theorem dX9_set_29 : decode cX9_set 29 = .ok (.iload_n 1, 1) := by decide +kernel
theorem dX9_set_30 : decode cX9_set 30 = .ok (.imul, 1) := by decide +kernel
theorem dX9_set_31 : decode cX9_set 31 = .ok (.iload_n 2, 1) := by decide +kernel
theorem dX9_set_32 : decode cX9_set 32 = .ok (.iadd, 1) := by decide +kernel
theorem dX9_set_33 : decode cX9_set 33 = .ok (.dload_n 3, 1) := by decide +kernel
theorem dX9_set_34 : decode cX9_set 34 = .ok (.dastore, 1) := by decide +kernel
theorem dX9_set_35 : decode cX9_set 35 = .ok (.iconst 1, 1) := by decide +kernel
theorem dX9_set_36 : decode cX9_set 36 = .ok (.ireturn, 1) := by decide +kernel
theorem dX9_shapeOf_0 : decode cX9_shapeOf 0 = .ok (.aload_n 0, 1) := by decide +kernel
theorem dX9_shapeOf_1 : decode cX9_shapeOf 1 = .ok (.iconst 0, 1) := by decide +kernel
theorem dX9_shapeOf_2 : decode cX9_shapeOf 2 = .ok (.putfield 47, 3) := by decide +kernel
theorem dX9_shapeOf_5 : decode cX9_shapeOf 5 = .ok (.iload_n 1, 1) := by decide +kernel
theorem dX9_shapeOf_6 : decode cX9_shapeOf 6 = .ok (.iconst 0, 1) := by decide +kernel
theorem dX9_shapeOf_7 : decode cX9_shapeOf 7 = .ok (.bipush 7, 2) := by decide +kernel
theorem dX9_shapeOf_9 : decode cX9_shapeOf 9 = .ok (.invokestatic 58, 3) := by decide +kernel
theorem dX9_shapeOf_12 : decode cX9_shapeOf 12 = .ok (.ifCond .eq 12, 3) := by decide +kernel
theorem dX9_shapeOf_15 : decode cX9_shapeOf 15 = .ok (.aload_n 0, 1) := by decide +kernel
theorem dX9_shapeOf_16 : decode cX9_shapeOf 16 = .ok (.getfield 13, 3) := by decide +kernel
theorem dX9_shapeOf_19 : decode cX9_shapeOf 19 = .ok (.iload_n 1, 1) := by decide +kernel
theorem dX9_shapeOf_20 : decode cX9_shapeOf 20 = .ok (.iaload, 1) := by decide +kernel
theorem dX9_shapeOf_21 : decode cX9_shapeOf 21 = .ok (.goto 4, 3) := by decide +kernel
theorem dX9_shapeOf_24 : decode cX9_shapeOf 24 = .ok (.iconst (-1), 1) := by decide +kernel
theorem dX9_shapeOf_25 : decode cX9_shapeOf 25 = .ok (.ireturn, 1) := by decide +kernel
theorem dX9_size_0 : decode cX9_size 0 = .ok (.aload_n 0, 1) := by decide +kernel
theorem dX9_size_1 : decode cX9_size 1 = .ok (.iconst 0, 1) := by decide +kernel
theorem dX9_size_2 : decode cX9_size 2 = .ok (.putfield 47, 3) := by decide +kernel
theorem dX9_size_5 : decode cX9_size 5 = .ok (.iload_n 1, 1) := by decide +kernel
theorem dX9_size_6 : decode cX9_size 6 = .ok (.iconst 0, 1) := by decide +kernel
theorem dX9_size_7 : decode cX9_size 7 = .ok (.bipush 7, 2) := by decide +kernel
theorem dX9_size_9 : decode cX9_size 9 = .ok (.invokestatic 58, 3) := by decide +kernel
theorem dX9_size_12 : decode cX9_size 12 = .ok (.ifCond .eq 15, 3) := by decide +kernel
theorem dX9_size_15 : decode cX9_size 15 = .ok (.aload_n 0, 1) := by decide +kernel
theorem dX9_size_16 : decode cX9_size 16 = .ok (.getfield 13, 3) := by decide +kernel
theorem dX9_size_19 : decode cX9_size 19 = .ok (.iload_n 1, 1) := by decide +kernel
theorem dX9_size_20 : decode cX9_size 20 = .ok (.iaload, 1) := by decide +kernel
theorem dX9_size_21 : decode cX9_size 21 = .ok (.invokestatic 70, 3) := by decide +kernel
theorem dX9_size_24 : decode cX9_size 24 = .ok (.goto 4, 3) := by decide +kernel
theorem dX9_size_27 : decode cX9_size 27 = .ok (.iconst (-1), 1) := by decide +kernel
theorem dX9_size_28 : decode cX9_size 28 = .ok (.ireturn, 1) := by decide +kernel
theorem dX9_at_0 : decode cX9_at 0 = .ok (.aload_n 0, 1) := by decide +kernel
theorem dX9_at_1 : decode cX9_at 1 = .ok (.iconst 0, 1) := by decide +kernel
theorem dX9_at_2 : decode cX9_at 2 = .ok (.putfield 47, 3) := by decide +kernel
theorem dX9_at_5 : decode cX9_at 5 = .ok (.aload_n 0, 1) := by decide +kernel
theorem dX9_at_6 : decode cX9_at 6 = .ok (.iload_n 1, 1) := by decide +kernel
theorem dX9_at_7 : decode cX9_at 7 = .ok (.iload_n 2, 1) := by decide +kernel
theorem dX9_at_8 : decode cX9_at 8 = .ok (.invokevirtual 74, 3) := by decide +kernel
theorem dX9_at_11 : decode cX9_at 11 = .ok (.ifCond .eq 17, 3) := by decide +kernel
theorem dX9_at_14 : decode cX9_at 14 = .ok (.aload_n 0, 1) := by decide +kernel
theorem dX9_at_15 : decode cX9_at 15 = .ok (.getfield 16, 3) := by decide +kernel
theorem dX9_at_18 : decode cX9_at 18 = .ok (.bipush 24, 2) := by decide +kernel
theorem dX9_at_20 : decode cX9_at 20 = .ok (.iload_n 1, 1) := by decide +kernel
theorem dX9_at_21 : decode cX9_at 21 = .ok (.imul, 1) := by decide +kernel
theorem dX9_at_22 : decode cX9_at 22 = .ok (.iload_n 2, 1) := by decide +kernel
theorem dX9_at_23 : decode cX9_at 23 = .ok (.iadd, 1) := by decide +kernel
theorem dX9_at_24 : decode cX9_at 24 = .ok (.daload, 1) := by decide +kernel
theorem dX9_at_25 : decode cX9_at 25 = .ok (.goto 4, 3) := by decide +kernel
theorem dX9_at_28 : decode cX9_at 28 = .ok (.dconst 0, 1) := by decide +kernel
theorem dX9_at_29 : decode cX9_at 29 = .ok (.dreturn, 1) := by decide +kernel
theorem dX9_charAt_0 : decode cX9_charAt 0 = .ok (.iload_n 1, 1) := by decide +kernel
theorem dX9_charAt_1 : decode cX9_charAt 1 = .ok (.aload_n 0, 1) := by decide +kernel
theorem dX9_charAt_2 : decode cX9_charAt 2 = .ok (.getfield 51, 3) := by decide +kernel
theorem dX9_charAt_5 : decode cX9_charAt 5 = .ok (.if_icmp .ge 12, 3) := by decide +kernel
theorem dX9_charAt_8 : decode cX9_charAt 8 = .ok (.aload_n 0, 1) := by decide +kernel
theorem dX9_charAt_9 : decode cX9_charAt 9 = .ok (.getfield 7, 3) := by decide +kernel
theorem dX9_charAt_12 : decode cX9_charAt 12 = .ok (.iload_n 1, 1) := by decide +kernel
theorem dX9_charAt_13 : decode cX9_charAt 13 = .ok (.iaload, 1) := by decide +kernel
theorem dX9_charAt_14 : decode cX9_charAt 14 = .ok (.goto 4, 3) := by decide +kernel
theorem dX9_charAt_17 : decode cX9_charAt 17 = .ok (.iconst 0, 1) := by decide +kernel
theorem dX9_charAt_18 : decode cX9_charAt 18 = .ok (.ireturn, 1) := by decide +kernel
theorem dX9_isDigit_0 : decode cX9_isDigit 0 = .ok (.iload_n 0, 1) := by decide +kernel
theorem dX9_isDigit_1 : decode cX9_isDigit 1 = .ok (.bipush 48, 2) := by decide +kernel
theorem dX9_isDigit_3 : decode cX9_isDigit 3 = .ok (.bipush 57, 2) := by decide +kernel
theorem dX9_isDigit_5 : decode cX9_isDigit 5 = .ok (.invokestatic 58, 3) := by decide +kernel
theorem dX9_isDigit_8 : decode cX9_isDigit 8 = .ok (.ireturn, 1) := by decide +kernel
theorem dX9_isSign_0 : decode cX9_isSign 0 = .ok (.iload_n 0, 1) := by decide +kernel
theorem dX9_isSign_1 : decode cX9_isSign 1 = .ok (.bipush 43, 2) := by decide +kernel
theorem dX9_isSign_3 : decode cX9_isSign 3 = .ok (.if_icmp .eq 57, 3) := by decide +kernel
theorem dX9_isSign_6 : decode cX9_isSign 6 = .ok (.iload_n 0, 1) := by decide +kernel
theorem dX9_isSign_7 : decode cX9_isSign 7 = .ok (.bipush 45, 2) := by decide +kernel
theorem dX9_isSign_9 : decode cX9_isSign 9 = .ok (.if_icmp .eq 51, 3) := by decide +kernel
theorem dX9_isSign_12 : decode cX9_isSign 12 = .ok (.iload_n 0, 1) := by decide +kernel
theorem dX9_isSign_13 : decode cX9_isSign 13 = .ok (.bipush 42, 2) := by decide +kernel
theorem dX9_isSign_15 : decode cX9_isSign 15 = .ok (.if_icmp .eq 45, 3) := by decide +kernel
theorem dX9_isSign_18 : decode cX9_isSign 18 = .ok (.iload_n 0, 1) := by decide +kernel
theorem dX9_isSign_19 : decode cX9_isSign 19 = .ok (.bipush 60, 2) := by decide +kernel
theorem dX9_isSign_21 : decode cX9_isSign 21 = .ok (.if_icmp .eq 39, 3) := by decide +kernel
theorem dX9_isSign_24 : decode cX9_isSign 24 = .ok (.iload_n 0, 1) := by decide +kernel
theorem dX9_isSign_25 : decode cX9_isSign 25 = .ok (.bipush 62, 2) := by decide +kernel
theorem dX9_isSign_27 : decode cX9_isSign 27 = .ok (.if_icmp .eq 33, 3) := by decide +kernel
theorem dX9_isSign_30 : decode cX9_isSign 30 = .ok (.iload_n 0, 1) := by decide +kernel
theorem dX9_isSign_31 : decode cX9_isSign 31 = .ok (.bipush 61, 2) := by decide +kernel
theorem dX9_isSign_33 : decode cX9_isSign 33 = .ok (.if_icmp .eq 27, 3) := by decide +kernel
theorem dX9_isSign_36 : decode cX9_isSign 36 = .ok (.iload_n 0, 1) := by decide +kernel
theorem dX9_isSign_37 : decode cX9_isSign 37 = .ok (.bipush 38, 2) := by decide +kernel
theorem dX9_isSign_39 : decode cX9_isSign 39 = .ok (.if_icmp .eq 21, 3) := by decide +kernel
theorem dX9_isSign_42 : decode cX9_isSign 42 = .ok (.iload_n 0, 1) := by decide +kernel
theorem dX9_isSign_43 : decode cX9_isSign 43 = .ok (.bipush 124, 2) := by decide +kernel
theorem dX9_isSign_45 : decode cX9_isSign 45 = .ok (.if_icmp .eq 15, 3) := by decide +kernel
theorem dX9_isSign_48 : decode cX9_isSign 48 = .ok (.iload_n 0, 1) := by decide +kernel
theorem dX9_isSign_49 : decode cX9_isSign 49 = .ok (.bipush 44, 2) := by decide +kernel
theorem dX9_isSign_51 : decode cX9_isSign 51 = .ok (.if_icmp .eq 9, 3) := by decide +kernel
theorem dX9_isSign_54 : decode cX9_isSign 54 = .ok (.iload_n 0, 1) := by decide +kernel
theorem dX9_isSign_55 : decode cX9_isSign 55 = .ok (.bipush 35, 2) := by decide +kernel
theorem dX9_isSign_57 : decode cX9_isSign 57 = .ok (.if_icmp .ne 7, 3) := by decide +kernel
theorem dX9_isSign_60 : decode cX9_isSign 60 = .ok (.iconst 1, 1) := by decide +kernel
theorem dX9_isSign_61 : decode cX9_isSign 61 = .ok (.goto 4, 3) := by decide +kernel
theorem dX9_isSign_64 : decode cX9_isSign 64 = .ok (.iconst 0, 1) := by decide +kernel
theorem dX9_isSign_65 : decode cX9_isSign 65 = .ok (.ireturn, 1) := by decide +kernel
theorem dX9_reduces_0 : decode cX9_reduces 0 = .ok (.iload_n 0, 1) := by decide +kernel
theorem dX9_reduces_1 : decode cX9_reduces 1 = .ok (.bipush 43, 2) := by decide +kernel
theorem dX9_reduces_3 : decode cX9_reduces 3 = .ok (.if_icmp .eq 21, 3) := by decide +kernel
theorem dX9_reduces_6 : decode cX9_reduces 6 = .ok (.iload_n 0, 1) := by decide +kernel
theorem dX9_reduces_7 : decode cX9_reduces 7 = .ok (.bipush 42, 2) := by decide +kernel
theorem dX9_reduces_9 : decode cX9_reduces 9 = .ok (.if_icmp .eq 15, 3) := by decide +kernel
theorem dX9_reduces_12 : decode cX9_reduces 12 = .ok (.iload_n 0, 1) := by decide +kernel
theorem dX9_reduces_13 : decode cX9_reduces 13 = .ok (.bipush 38, 2) := by decide +kernel
theorem dX9_reduces_15 : decode cX9_reduces 15 = .ok (.if_icmp .eq 9, 3) := by decide +kernel
theorem dX9_reduces_18 : decode cX9_reduces 18 = .ok (.iload_n 0, 1) := by decide +kernel
theorem dX9_reduces_19 : decode cX9_reduces 19 = .ok (.bipush 124, 2) := by decide +kernel
theorem dX9_reduces_21 : decode cX9_reduces 21 = .ok (.if_icmp .ne 7, 3) := by decide +kernel
theorem dX9_reduces_24 : decode cX9_reduces 24 = .ok (.iconst 1, 1) := by decide +kernel
theorem dX9_reduces_25 : decode cX9_reduces 25 = .ok (.goto 4, 3) := by decide +kernel
theorem dX9_reduces_28 : decode cX9_reduces 28 = .ok (.iconst 0, 1) := by decide +kernel
theorem dX9_reduces_29 : decode cX9_reduces 29 = .ok (.ireturn, 1) := by decide +kernel
theorem dX9_keep_0 : decode cX9_keep 0 = .ok (.aload_n 0, 1) := by decide +kernel
theorem dX9_keep_1 : decode cX9_keep 1 = .ok (.getfield 20, 3) := by decide +kernel
theorem dX9_keep_4 : decode cX9_keep 4 = .ok (.aload_n 0, 1) := by decide +kernel
theorem dX9_keep_5 : decode cX9_keep 5 = .ok (.getfield 78, 3) := by decide +kernel
theorem dX9_keep_8 : decode cX9_keep 8 = .ok (.iload_n 1, 1) := by decide +kernel
theorem dX9_keep_9 : decode cX9_keep 9 = .ok (.iastore, 1) := by decide +kernel
theorem dX9_keep_10 : decode cX9_keep 10 = .ok (.aload_n 0, 1) := by decide +kernel
theorem dX9_keep_11 : decode cX9_keep 11 = .ok (.getfield 23, 3) := by decide +kernel
theorem dX9_keep_14 : decode cX9_keep 14 = .ok (.aload_n 0, 1) := by decide +kernel
theorem dX9_keep_15 : decode cX9_keep 15 = .ok (.getfield 78, 3) := by decide +kernel
theorem dX9_keep_18 : decode cX9_keep 18 = .ok (.iload_n 2, 1) := by decide +kernel
theorem dX9_keep_19 : decode cX9_keep 19 = .ok (.iastore, 1) := by decide +kernel
theorem dX9_keep_20 : decode cX9_keep 20 = .ok (.aload_n 0, 1) := by decide +kernel
theorem dX9_keep_21 : decode cX9_keep 21 = .ok (.getfield 26, 3) := by decide +kernel
theorem dX9_keep_24 : decode cX9_keep 24 = .ok (.aload_n 0, 1) := by decide +kernel
theorem dX9_keep_25 : decode cX9_keep 25 = .ok (.getfield 78, 3) := by decide +kernel
theorem dX9_keep_28 : decode cX9_keep 28 = .ok (.iload_n 3, 1) := by decide +kernel
theorem dX9_keep_29 : decode cX9_keep 29 = .ok (.iastore, 1) := by decide +kernel
theorem dX9_keep_30 : decode cX9_keep 30 = .ok (.aload_n 0, 1) := by decide +kernel
theorem dX9_keep_31 : decode cX9_keep 31 = .ok (.dup, 1) := by decide +kernel
theorem dX9_keep_32 : decode cX9_keep 32 = .ok (.getfield 78, 3) := by decide +kernel
theorem dX9_keep_35 : decode cX9_keep 35 = .ok (.iconst 1, 1) := by decide +kernel
theorem dX9_keep_36 : decode cX9_keep 36 = .ok (.iadd, 1) := by decide +kernel
theorem dX9_keep_37 : decode cX9_keep 37 = .ok (.putfield 78, 3) := by decide +kernel
theorem dX9_keep_40 : decode cX9_keep 40 = .ok (.return_, 1) := by decide +kernel
theorem dX9_number_0 : decode cX9_number 0 = .ok (.iload_n 1, 1) := by decide +kernel
theorem dX9_number_1 : decode cX9_number 1 = .ok (.istore_n 2, 1) := by decide +kernel
theorem dX9_number_2 : decode cX9_number 2 = .ok (.iconst 0, 1) := by decide +kernel
theorem dX9_number_3 : decode cX9_number 3 = .ok (.istore_n 3, 1) := by decide +kernel
theorem dX9_number_4 : decode cX9_number 4 = .ok (.aload_n 0, 1) := by decide +kernel
theorem dX9_number_5 : decode cX9_number 5 = .ok (.iload_n 2, 1) := by decide +kernel
theorem dX9_number_6 : decode cX9_number 6 = .ok (.invokevirtual 81, 3) := by decide +kernel
theorem dX9_number_9 : decode cX9_number 9 = .ok (.invokestatic 84, 3) := by decide +kernel
theorem dX9_number_12 : decode cX9_number 12 = .ok (.ifCond .eq 31, 3) := by decide +kernel
theorem dX9_number_15 : decode cX9_number 15 = .ok (.iload_n 2, 1) := by decide +kernel
theorem dX9_number_16 : decode cX9_number 16 = .ok (.iload_n 1, 1) := by decide +kernel
theorem dX9_number_17 : decode cX9_number 17 = .ok (.isub, 1) := by decide +kernel
theorem dX9_number_18 : decode cX9_number 18 = .ok (.iconst 5, 1) := by decide +kernel
theorem dX9_number_19 : decode cX9_number 19 = .ok (.if_icmp .ge 24, 3) := by decide +kernel
theorem dX9_number_22 : decode cX9_number 22 = .ok (.bipush 10, 2) := by decide +kernel
theorem dX9_number_24 : decode cX9_number 24 = .ok (.iload_n 3, 1) := by decide +kernel
theorem dX9_number_25 : decode cX9_number 25 = .ok (.imul, 1) := by decide +kernel
theorem dX9_number_26 : decode cX9_number 26 = .ok (.aload_n 0, 1) := by decide +kernel
theorem dX9_number_27 : decode cX9_number 27 = .ok (.getfield 7, 3) := by decide +kernel
theorem dX9_number_30 : decode cX9_number 30 = .ok (.iload_n 2, 1) := by decide +kernel
theorem dX9_number_31 : decode cX9_number 31 = .ok (.iaload, 1) := by decide +kernel
theorem dX9_number_32 : decode cX9_number 32 = .ok (.iadd, 1) := by decide +kernel
theorem dX9_number_33 : decode cX9_number 33 = .ok (.bipush 48, 2) := by decide +kernel
theorem dX9_number_35 : decode cX9_number 35 = .ok (.isub, 1) := by decide +kernel
theorem dX9_number_36 : decode cX9_number 36 = .ok (.istore_n 3, 1) := by decide +kernel
theorem dX9_number_37 : decode cX9_number 37 = .ok (.iinc 2 1, 3) := by decide +kernel
theorem dX9_number_40 : decode cX9_number 40 = .ok (.goto (-36), 3) := by decide +kernel
theorem dX9_number_43 : decode cX9_number 43 = .ok (.iload_n 2, 1) := by decide +kernel
theorem dX9_number_44 : decode cX9_number 44 = .ok (.iload_n 1, 1) := by decide +kernel
theorem dX9_number_45 : decode cX9_number 45 = .ok (.if_icmp .eq 10, 3) := by decide +kernel
theorem dX9_number_48 : decode cX9_number 48 = .ok (.iload_n 2, 1) := by decide +kernel
theorem dX9_number_49 : decode cX9_number 49 = .ok (.iload_n 1, 1) := by decide +kernel
theorem dX9_number_50 : decode cX9_number 50 = .ok (.isub, 1) := by decide +kernel
theorem dX9_number_51 : decode cX9_number 51 = .ok (.iconst 5, 1) := by decide +kernel
theorem dX9_number_52 : decode cX9_number 52 = .ok (.if_icmp .ne 5, 3) := by decide +kernel
theorem dX9_number_55 : decode cX9_number 55 = .ok (.iconst (-1), 1) := by decide +kernel
theorem dX9_number_56 : decode cX9_number 56 = .ok (.ireturn, 1) := by decide +kernel
theorem dX9_number_57 : decode cX9_number 57 = .ok (.aload_n 0, 1) := by decide +kernel
theorem dX9_number_58 : decode cX9_number 58 = .ok (.getfield 29, 3) := by decide +kernel
theorem dX9_number_61 : decode cX9_number 61 = .ok (.aload_n 0, 1) := by decide +kernel
theorem dX9_number_62 : decode cX9_number 62 = .ok (.getfield 87, 3) := by decide +kernel
theorem dX9_number_65 : decode cX9_number 65 = .ok (.iload_n 3, 1) := by decide +kernel
theorem dX9_number_66 : decode cX9_number 66 = .ok (.iastore, 1) := by decide +kernel
theorem dX9_number_67 : decode cX9_number 67 = .ok (.aload_n 0, 1) := by decide +kernel
theorem dX9_number_68 : decode cX9_number 68 = .ok (.dup, 1) := by decide +kernel
theorem dX9_number_69 : decode cX9_number 69 = .ok (.getfield 87, 3) := by decide +kernel
theorem dX9_number_72 : decode cX9_number 72 = .ok (.iconst 1, 1) := by decide +kernel
theorem dX9_number_73 : decode cX9_number 73 = .ok (.iadd, 1) := by decide +kernel
theorem dX9_number_74 : decode cX9_number 74 = .ok (.putfield 87, 3) := by decide +kernel
theorem dX9_number_77 : decode cX9_number 77 = .ok (.iload_n 2, 1) := by decide +kernel
theorem dX9_number_78 : decode cX9_number 78 = .ok (.ireturn, 1) := by decide +kernel
theorem dX9_constant_0 : decode cX9_constant 0 = .ok (.aload_n 0, 1) := by decide +kernel
theorem dX9_constant_1 : decode cX9_constant 1 = .ok (.getfield 87, 3) := by decide +kernel
theorem dX9_constant_4 : decode cX9_constant 4 = .ok (.istore_n 2, 1) := by decide +kernel
theorem dX9_constant_5 : decode cX9_constant 5 = .ok (.aload_n 0, 1) := by decide +kernel
theorem dX9_constant_6 : decode cX9_constant 6 = .ok (.iload_n 1, 1) := by decide +kernel
theorem dX9_constant_7 : decode cX9_constant 7 = .ok (.invokevirtual 90, 3) := by decide +kernel
theorem dX9_constant_10 : decode cX9_constant 10 = .ok (.istore_n 3, 1) := by decide +kernel
theorem dX9_constant_11 : decode cX9_constant 11 = .ok (.iconst 0, 1) := by decide +kernel
theorem dX9_constant_12 : decode cX9_constant 12 = .ok (.istore 4, 2) := by decide +kernel
theorem dX9_constant_14 : decode cX9_constant 14 = .ok (.iload 4, 2) := by decide +kernel
theorem dX9_constant_16 : decode cX9_constant 16 = .ok (.bipush 24, 2) := by decide +kernel
theorem dX9_constant_18 : decode cX9_constant 18 = .ok (.if_icmp .ge 44, 3) := by decide +kernel
theorem dX9_constant_21 : decode cX9_constant 21 = .ok (.iload_n 3, 1) := by decide +kernel
theorem dX9_constant_22 : decode cX9_constant 22 = .ok (.ifCond .le 40, 3) := by decide +kernel
theorem dX9_constant_25 : decode cX9_constant 25 = .ok (.aload_n 0, 1) := by decide +kernel
theorem dX9_constant_26 : decode cX9_constant 26 = .ok (.iload_n 3, 1) := by decide +kernel
theorem dX9_constant_27 : decode cX9_constant 27 = .ok (.invokevirtual 81, 3) := by decide +kernel
theorem dX9_constant_30 : decode cX9_constant 30 = .ok (.bipush 32, 2) := by decide +kernel
theorem dX9_constant_32 : decode cX9_constant 32 = .ok (.if_icmp .ne 30, 3) := by decide +kernel
theorem dX9_constant_35 : decode cX9_constant 35 = .ok (.aload_n 0, 1) := by decide +kernel
theorem dX9_constant_36 : decode cX9_constant 36 = .ok (.iload_n 3, 1) := by decide +kernel
theorem dX9_constant_37 : decode cX9_constant 37 = .ok (.iconst 1, 1) := by decide +kernel
theorem dX9_constant_38 : decode cX9_constant 38 = .ok (.iadd, 1) := by decide +kernel
theorem dX9_constant_39 : decode cX9_constant 39 = .ok (.invokevirtual 81, 3) := by decide +kernel
theorem dX9_constant_42 : decode cX9_constant 42 = .ok (.invokestatic 84, 3) := by decide +kernel
theorem dX9_constant_45 : decode cX9_constant 45 = .ok (.ifCond .eq 17, 3) := by decide +kernel
theorem dX9_constant_48 : decode cX9_constant 48 = .ok (.aload_n 0, 1) := by decide +kernel
theorem dX9_constant_49 : decode cX9_constant 49 = .ok (.iload_n 3, 1) := by decide +kernel
theorem dX9_constant_50 : decode cX9_constant 50 = .ok (.iconst 1, 1) := by decide +kernel
theorem dX9_constant_51 : decode cX9_constant 51 = .ok (.iadd, 1) := by decide +kernel
theorem dX9_constant_52 : decode cX9_constant 52 = .ok (.invokevirtual 90, 3) := by decide +kernel
theorem dX9_constant_55 : decode cX9_constant 55 = .ok (.istore_n 3, 1) := by decide +kernel
theorem dX9_constant_56 : decode cX9_constant 56 = .ok (.iinc 4 1, 3) := by decide +kernel
theorem dX9_constant_59 : decode cX9_constant 59 = .ok (.goto (-45), 3) := by decide +kernel
theorem dX9_constant_62 : decode cX9_constant 62 = .ok (.aload_n 0, 1) := by decide +kernel
theorem dX9_constant_63 : decode cX9_constant 63 = .ok (.iconst 2, 1) := by decide +kernel
theorem dX9_constant_64 : decode cX9_constant 64 = .ok (.iload_n 2, 1) := by decide +kernel
theorem dX9_constant_65 : decode cX9_constant 65 = .ok (.aload_n 0, 1) := by decide +kernel
theorem dX9_constant_66 : decode cX9_constant 66 = .ok (.getfield 87, 3) := by decide +kernel
theorem dX9_constant_69 : decode cX9_constant 69 = .ok (.iload_n 2, 1) := by decide +kernel
theorem dX9_constant_70 : decode cX9_constant 70 = .ok (.isub, 1) := by decide +kernel
theorem dX9_constant_71 : decode cX9_constant 71 = .ok (.invokevirtual 93, 3) := by decide +kernel
theorem dX9_constant_74 : decode cX9_constant 74 = .ok (.iload_n 3, 1) := by decide +kernel
theorem dX9_constant_75 : decode cX9_constant 75 = .ok (.ireturn, 1) := by decide +kernel
theorem dX9_cut_0 : decode cX9_cut 0 = .ok (.aload_n 0, 1) := by decide +kernel
theorem dX9_cut_1 : decode cX9_cut 1 = .ok (.iconst 0, 1) := by decide +kernel
theorem dX9_cut_2 : decode cX9_cut 2 = .ok (.putfield 78, 3) := by decide +kernel
theorem dX9_cut_5 : decode cX9_cut 5 = .ok (.aload_n 0, 1) := by decide +kernel
theorem dX9_cut_6 : decode cX9_cut 6 = .ok (.iconst 0, 1) := by decide +kernel
theorem dX9_cut_7 : decode cX9_cut 7 = .ok (.putfield 87, 3) := by decide +kernel
theorem dX9_cut_10 : decode cX9_cut 10 = .ok (.iconst 0, 1) := by decide +kernel
theorem dX9_cut_11 : decode cX9_cut 11 = .ok (.istore_n 1, 1) := by decide +kernel
theorem dX9_cut_12 : decode cX9_cut 12 = .ok (.iconst 1, 1) := by decide +kernel
theorem dX9_cut_13 : decode cX9_cut 13 = .ok (.istore_n 2, 1) := by decide +kernel
theorem dX9_cut_14 : decode cX9_cut 14 = .ok (.iconst 0, 1) := by decide +kernel
theorem dX9_cut_15 : decode cX9_cut 15 = .ok (.istore_n 3, 1) := by decide +kernel
theorem dX9_cut_16 : decode cX9_cut 16 = .ok (.iconst 0, 1) := by decide +kernel
theorem dX9_cut_17 : decode cX9_cut 17 = .ok (.istore 4, 2) := by decide +kernel
theorem dX9_cut_19 : decode cX9_cut 19 = .ok (.iload 4, 2) := by decide +kernel
theorem dX9_cut_21 : decode cX9_cut 21 = .ok (.bipush 41, 2) := by decide +kernel
theorem dX9_cut_23 : decode cX9_cut 23 = .ok (.if_icmp .ge 265, 3) := by decide +kernel
theorem dX9_cut_26 : decode cX9_cut 26 = .ok (.iload_n 3, 1) := by decide +kernel
theorem dX9_cut_27 : decode cX9_cut 27 = .ok (.ifCond .lt 261, 3) := by decide +kernel
theorem dX9_cut_30 : decode cX9_cut 30 = .ok (.iload_n 3, 1) := by decide +kernel
theorem dX9_cut_31 : decode cX9_cut 31 = .ok (.aload_n 0, 1) := by decide +kernel
theorem dX9_cut_32 : decode cX9_cut 32 = .ok (.getfield 51, 3) := by decide +kernel
theorem dX9_cut_35 : decode cX9_cut 35 = .ok (.if_icmp .ge 253, 3) := by decide +kernel
theorem dX9_cut_38 : decode cX9_cut 38 = .ok (.aload_n 0, 1) := by decide +kernel
theorem dX9_cut_39 : decode cX9_cut 39 = .ok (.getfield 7, 3) := by decide +kernel
theorem dX9_cut_42 : decode cX9_cut 42 = .ok (.iload_n 3, 1) := by decide +kernel
theorem dX9_cut_43 : decode cX9_cut 43 = .ok (.iaload, 1) := by decide +kernel
theorem dX9_cut_44 : decode cX9_cut 44 = .ok (.istore 5, 2) := by decide +kernel
theorem dX9_cut_46 : decode cX9_cut 46 = .ok (.aload_n 0, 1) := by decide +kernel
theorem dX9_cut_47 : decode cX9_cut 47 = .ok (.iload_n 3, 1) := by decide +kernel
theorem dX9_cut_48 : decode cX9_cut 48 = .ok (.iconst 1, 1) := by decide +kernel
theorem dX9_cut_49 : decode cX9_cut 49 = .ok (.iadd, 1) := by decide +kernel
theorem dX9_cut_50 : decode cX9_cut 50 = .ok (.invokevirtual 81, 3) := by decide +kernel
theorem dX9_cut_53 : decode cX9_cut 53 = .ok (.istore 6, 2) := by decide +kernel
theorem dX9_cut_55 : decode cX9_cut 55 = .ok (.iinc 3 1, 3) := by decide +kernel
theorem dX9_cut_58 : decode cX9_cut 58 = .ok (.iload_n 2, 1) := by decide +kernel
theorem dX9_cut_59 : decode cX9_cut 59 = .ok (.ifCond .ne 51, 3) := by decide +kernel
theorem dX9_cut_62 : decode cX9_cut 62 = .ok (.iload 5, 2) := by decide +kernel
theorem dX9_cut_64 : decode cX9_cut 64 = .ok (.bipush 41, 2) := by decide +kernel
theorem dX9_cut_66 : decode cX9_cut 66 = .ok (.if_icmp .ne 20, 3) := by decide +kernel
theorem dX9_cut_69 : decode cX9_cut 69 = .ok (.iload_n 1, 1) := by decide +kernel
theorem dX9_cut_70 : decode cX9_cut 70 = .ok (.ifCond .le 16, 3) := by decide +kernel
theorem dX9_cut_73 : decode cX9_cut 73 = .ok (.iinc 1 (-1), 3) := by decide +kernel
theorem dX9_cut_76 : decode cX9_cut 76 = .ok (.aload_n 0, 1) := by decide +kernel
theorem dX9_cut_77 : decode cX9_cut 77 = .ok (.iconst 5, 1) := by decide +kernel
theorem dX9_cut_78 : decode cX9_cut 78 = .ok (.iconst 0, 1) := by decide +kernel
theorem dX9_cut_79 : decode cX9_cut 79 = .ok (.iconst 0, 1) := by decide +kernel
theorem dX9_cut_80 : decode cX9_cut 80 = .ok (.invokevirtual 93, 3) := by decide +kernel
theorem dX9_cut_83 : decode cX9_cut 83 = .ok (.goto 199, 3) := by decide +kernel
theorem dX9_cut_86 : decode cX9_cut 86 = .ok (.iload 5, 2) := by decide +kernel
theorem dX9_cut_88 : decode cX9_cut 88 = .ok (.invokestatic 97, 3) := by decide +kernel
theorem dX9_cut_91 : decode cX9_cut 91 = .ok (.ifCond .eq 17, 3) := by decide +kernel
theorem dX9_cut_94 : decode cX9_cut 94 = .ok (.iconst 1, 1) := by decide +kernel
theorem dX9_cut_95 : decode cX9_cut 95 = .ok (.istore_n 2, 1) := by decide +kernel
theorem dX9_cut_96 : decode cX9_cut 96 = .ok (.aload_n 0, 1) := by decide +kernel
theorem dX9_cut_97 : decode cX9_cut 97 = .ok (.bipush 6, 2) := by decide +kernel
theorem dX9_cut_99 : decode cX9_cut 99 = .ok (.iload 5, 2) := by decide +kernel
theorem dX9_cut_101 : decode cX9_cut 101 = .ok (.iconst 0, 1) := by decide +kernel
theorem dX9_cut_102 : decode cX9_cut 102 = .ok (.invokevirtual 93, 3) := by decide +kernel
theorem dX9_cut_105 : decode cX9_cut 105 = .ok (.goto 177, 3) := by decide +kernel
theorem dX9_cut_108 : decode cX9_cut 108 = .ok (.iconst 0, 1) := by decide +kernel
theorem dX9_cut_109 : decode cX9_cut 109 = .ok (.ireturn, 1) := by decide +kernel
theorem dX9_cut_110 : decode cX9_cut 110 = .ok (.iload 5, 2) := by decide +kernel
theorem dX9_cut_112 : decode cX9_cut 112 = .ok (.bipush 45, 2) := by decide +kernel
theorem dX9_cut_114 : decode cX9_cut 114 = .ok (.if_icmp .eq 10, 3) := by decide +kernel
theorem dX9_cut_117 : decode cX9_cut 117 = .ok (.iload 5, 2) := by decide +kernel
theorem dX9_cut_119 : decode cX9_cut 119 = .ok (.bipush 126, 2) := by decide +kernel
theorem dX9_cut_121 : decode cX9_cut 121 = .ok (.if_icmp .ne 15, 3) := by decide +kernel
theorem dX9_cut_124 : decode cX9_cut 124 = .ok (.aload_n 0, 1) := by decide +kernel
theorem dX9_cut_125 : decode cX9_cut 125 = .ok (.bipush 7, 2) := by decide +kernel
theorem dX9_cut_127 : decode cX9_cut 127 = .ok (.iload 5, 2) := by decide +kernel
theorem dX9_cut_129 : decode cX9_cut 129 = .ok (.iconst 0, 1) := by decide +kernel
theorem dX9_cut_130 : decode cX9_cut 130 = .ok (.invokevirtual 93, 3) := by decide +kernel
theorem dX9_cut_133 : decode cX9_cut 133 = .ok (.goto 149, 3) := by decide +kernel
theorem dX9_cut_136 : decode cX9_cut 136 = .ok (.iload 5, 2) := by decide +kernel
theorem dX9_cut_138 : decode cX9_cut 138 = .ok (.bipush 47, 2) := by decide +kernel
theorem dX9_cut_140 : decode cX9_cut 140 = .ok (.if_icmp .eq 10, 3) := by decide +kernel
theorem dX9_cut_143 : decode cX9_cut 143 = .ok (.iload 5, 2) := by decide +kernel
theorem dX9_cut_145 : decode cX9_cut 145 = .ok (.bipush 92, 2) := by decide +kernel
theorem dX9_cut_147 : decode cX9_cut 147 = .ok (.if_icmp .ne 38, 3) := by decide +kernel
theorem dX9_cut_150 : decode cX9_cut 150 = .ok (.iload 6, 2) := by decide +kernel
theorem dX9_cut_152 : decode cX9_cut 152 = .ok (.invokestatic 100, 3) := by decide +kernel
theorem dX9_cut_155 : decode cX9_cut 155 = .ok (.ifCond .eq 30, 3) := by decide +kernel
theorem dX9_cut_158 : decode cX9_cut 158 = .ok (.aload_n 0, 1) := by decide +kernel
theorem dX9_cut_159 : decode cX9_cut 159 = .ok (.iload 5, 2) := by decide +kernel
theorem dX9_cut_161 : decode cX9_cut 161 = .ok (.bipush 47, 2) := by decide +kernel
theorem dX9_cut_163 : decode cX9_cut 163 = .ok (.if_icmp .ne 8, 3) := by decide +kernel
theorem dX9_cut_166 : decode cX9_cut 166 = .ok (.bipush 8, 2) := by decide +kernel
theorem dX9_cut_168 : decode cX9_cut 168 = .ok (.goto 5, 3) := by decide +kernel
theorem dX9_cut_171 : decode cX9_cut 171 = .ok (.bipush 9, 2) := by decide +kernel
theorem dX9_cut_173 : decode cX9_cut 173 = .ok (.iload 6, 2) := by decide +kernel
theorem dX9_cut_175 : decode cX9_cut 175 = .ok (.iconst 0, 1) := by decide +kernel
theorem dX9_cut_176 : decode cX9_cut 176 = .ok (.invokevirtual 93, 3) := by decide +kernel
theorem dX9_cut_179 : decode cX9_cut 179 = .ok (.iinc 3 1, 3) := by decide +kernel
theorem dX9_cut_182 : decode cX9_cut 182 = .ok (.goto 100, 3) := by decide +kernel
theorem dX9_cut_185 : decode cX9_cut 185 = .ok (.iload 5, 2) := by decide +kernel
theorem dX9_cut_187 : decode cX9_cut 187 = .ok (.bipush 40, 2) := by decide +kernel
theorem dX9_cut_189 : decode cX9_cut 189 = .ok (.if_icmp .ne 16, 3) := by decide +kernel
theorem dX9_cut_192 : decode cX9_cut 192 = .ok (.iinc 1 1, 3) := by decide +kernel
theorem dX9_cut_195 : decode cX9_cut 195 = .ok (.aload_n 0, 1) := by decide +kernel
theorem dX9_cut_196 : decode cX9_cut 196 = .ok (.iconst 4, 1) := by decide +kernel
theorem dX9_cut_197 : decode cX9_cut 197 = .ok (.iconst 0, 1) := by decide +kernel
theorem dX9_cut_198 : decode cX9_cut 198 = .ok (.iconst 0, 1) := by decide +kernel
theorem dX9_cut_199 : decode cX9_cut 199 = .ok (.invokevirtual 93, 3) := by decide +kernel
theorem dX9_cut_202 : decode cX9_cut 202 = .ok (.goto 80, 3) := by decide +kernel
theorem dX9_cut_205 : decode cX9_cut 205 = .ok (.iconst 0, 1) := by decide +kernel
theorem dX9_cut_206 : decode cX9_cut 206 = .ok (.istore_n 2, 1) := by decide +kernel
theorem dX9_cut_207 : decode cX9_cut 207 = .ok (.iload 5, 2) := by decide +kernel
theorem dX9_cut_209 : decode cX9_cut 209 = .ok (.bipush 97, 2) := by decide +kernel
theorem dX9_cut_211 : decode cX9_cut 211 = .ok (.bipush 104, 2) := by decide +kernel
theorem dX9_cut_213 : decode cX9_cut 213 = .ok (.invokestatic 58, 3) := by decide +kernel
theorem dX9_cut_216 : decode cX9_cut 216 = .ok (.ifCond .eq 17, 3) := by decide +kernel
theorem dX9_cut_219 : decode cX9_cut 219 = .ok (.aload_n 0, 1) := by decide +kernel
theorem dX9_cut_220 : decode cX9_cut 220 = .ok (.iconst 1, 1) := by decide +kernel
theorem dX9_cut_221 : decode cX9_cut 221 = .ok (.iload 5, 2) := by decide +kernel
theorem dX9_cut_223 : decode cX9_cut 223 = .ok (.bipush 97, 2) := by decide +kernel
theorem dX9_cut_225 : decode cX9_cut 225 = .ok (.isub, 1) := by decide +kernel
theorem dX9_cut_226 : decode cX9_cut 226 = .ok (.iconst 0, 1) := by decide +kernel
theorem dX9_cut_227 : decode cX9_cut 227 = .ok (.invokevirtual 93, 3) := by decide +kernel
theorem dX9_cut_230 : decode cX9_cut 230 = .ok (.goto 52, 3) := by decide +kernel
theorem dX9_cut_233 : decode cX9_cut 233 = .ok (.iload 5, 2) := by decide +kernel
theorem dX9_cut_235 : decode cX9_cut 235 = .ok (.bipush 105, 2) := by decide +kernel
theorem dX9_cut_237 : decode cX9_cut 237 = .ok (.if_icmp .ne 24, 3) := by decide +kernel
theorem dX9_cut_240 : decode cX9_cut 240 = .ok (.aload_n 0, 1) := by decide +kernel
theorem dX9_cut_241 : decode cX9_cut 241 = .ok (.iload_n 3, 1) := by decide +kernel
theorem dX9_cut_242 : decode cX9_cut 242 = .ok (.invokevirtual 90, 3) := by decide +kernel
theorem dX9_cut_245 : decode cX9_cut 245 = .ok (.istore_n 3, 1) := by decide +kernel
theorem dX9_cut_246 : decode cX9_cut 246 = .ok (.aload_n 0, 1) := by decide +kernel
theorem dX9_cut_247 : decode cX9_cut 247 = .ok (.iconst 3, 1) := by decide +kernel
theorem dX9_cut_248 : decode cX9_cut 248 = .ok (.aload_n 0, 1) := by decide +kernel
theorem dX9_cut_249 : decode cX9_cut 249 = .ok (.getfield 87, 3) := by decide +kernel
theorem dX9_cut_252 : decode cX9_cut 252 = .ok (.iconst 1, 1) := by decide +kernel
theorem dX9_cut_253 : decode cX9_cut 253 = .ok (.isub, 1) := by decide +kernel
theorem dX9_cut_254 : decode cX9_cut 254 = .ok (.iconst 0, 1) := by decide +kernel
theorem dX9_cut_255 : decode cX9_cut 255 = .ok (.invokevirtual 93, 3) := by decide +kernel
theorem dX9_cut_258 : decode cX9_cut 258 = .ok (.goto 24, 3) := by decide +kernel
theorem dX9_cut_261 : decode cX9_cut 261 = .ok (.iload 5, 2) := by decide +kernel
theorem dX9_cut_263 : decode cX9_cut 263 = .ok (.invokestatic 84, 3) := by decide +kernel
theorem dX9_cut_266 : decode cX9_cut 266 = .ok (.ifCond .eq 14, 3) := by decide +kernel
theorem dX9_cut_269 : decode cX9_cut 269 = .ok (.aload_n 0, 1) := by decide +kernel
theorem dX9_cut_270 : decode cX9_cut 270 = .ok (.iload_n 3, 1) := by decide +kernel
theorem dX9_cut_271 : decode cX9_cut 271 = .ok (.iconst 1, 1) := by decide +kernel
theorem dX9_cut_272 : decode cX9_cut 272 = .ok (.isub, 1) := by decide +kernel
theorem dX9_cut_273 : decode cX9_cut 273 = .ok (.invokevirtual 103, 3) := by decide +kernel
theorem dX9_cut_276 : decode cX9_cut 276 = .ok (.istore_n 3, 1) := by decide +kernel
theorem dX9_cut_277 : decode cX9_cut 277 = .ok (.goto 5, 3) := by decide +kernel
theorem dX9_cut_280 : decode cX9_cut 280 = .ok (.iconst 0, 1) := by decide +kernel
theorem dX9_cut_281 : decode cX9_cut 281 = .ok (.ireturn, 1) := by decide +kernel
theorem dX9_cut_282 : decode cX9_cut 282 = .ok (.iinc 4 1, 3) := by decide +kernel
theorem dX9_cut_285 : decode cX9_cut 285 = .ok (.goto (-266), 3) := by decide +kernel
theorem dX9_cut_288 : decode cX9_cut 288 = .ok (.iload_n 3, 1) := by decide +kernel
theorem dX9_cut_289 : decode cX9_cut 289 = .ok (.ifCond .lt 15, 3) := by decide +kernel
theorem dX9_cut_292 : decode cX9_cut 292 = .ok (.iload_n 2, 1) := by decide +kernel
theorem dX9_cut_293 : decode cX9_cut 293 = .ok (.ifCond .ne 11, 3) := by decide +kernel
theorem dX9_cut_296 : decode cX9_cut 296 = .ok (.iload_n 1, 1) := by decide +kernel
theorem dX9_cut_297 : decode cX9_cut 297 = .ok (.ifCond .ne 7, 3) := by decide +kernel
theorem dX9_cut_300 : decode cX9_cut 300 = .ok (.iconst 1, 1) := by decide +kernel
theorem dX9_cut_301 : decode cX9_cut 301 = .ok (.goto 4, 3) := by decide +kernel
theorem dX9_cut_304 : decode cX9_cut 304 = .ok (.iconst 0, 1) := by decide +kernel
theorem dX9_cut_305 : decode cX9_cut 305 = .ok (.ireturn, 1) := by decide +kernel
theorem dX9_check_0 : decode cX9_check 0 = .ok (.dload_n 1, 1) := by decide +kernel
theorem dX9_check_1 : decode cX9_check 1 = .ok (.invokestatic 62, 3) := by decide +kernel
theorem dX9_check_4 : decode cX9_check 4 = .ok (.ifCond .ne 8, 3) := by decide +kernel
theorem dX9_check_7 : decode cX9_check 7 = .ok (.aload_n 0, 1) := by decide +kernel
theorem dX9_check_8 : decode cX9_check 8 = .ok (.iconst 1, 1) := by decide +kernel
theorem dX9_check_9 : decode cX9_check 9 = .ok (.putfield 106, 3) := by decide +kernel
theorem dX9_check_12 : decode cX9_check 12 = .ok (.return_, 1) := by decide +kernel
theorem dX9_join_0 : decode cX9_join 0 = .ok (.iload_n 0, 1) := by decide +kernel
theorem dX9_join_1 : decode cX9_join 1 = .ok (.tableswitch 175 38 62 #[163, 175, 175, 175, 123, 115, 175, 119, 175, 175, 175, 175, 175, 175, 175, 175, 175, 175, 175, 175, 175, 175, 127, 151, 139], 115) := by decide +kernel
theorem dX9_join_116 : decode cX9_join 116 = .ok (.dload_n 1, 1) := by decide +kernel
theorem dX9_join_117 : decode cX9_join 117 = .ok (.dload_n 3, 1) := by decide +kernel
theorem dX9_join_118 : decode cX9_join 118 = .ok (.dadd, 1) := by decide +kernel
theorem dX9_join_119 : decode cX9_join 119 = .ok (.dreturn, 1) := by decide +kernel
theorem dX9_join_120 : decode cX9_join 120 = .ok (.dload_n 1, 1) := by decide +kernel
theorem dX9_join_121 : decode cX9_join 121 = .ok (.dload_n 3, 1) := by decide +kernel
theorem dX9_join_122 : decode cX9_join 122 = .ok (.dsub, 1) := by decide +kernel
theorem dX9_join_123 : decode cX9_join 123 = .ok (.dreturn, 1) := by decide +kernel
theorem dX9_join_124 : decode cX9_join 124 = .ok (.dload_n 1, 1) := by decide +kernel
theorem dX9_join_125 : decode cX9_join 125 = .ok (.dload_n 3, 1) := by decide +kernel
theorem dX9_join_126 : decode cX9_join 126 = .ok (.dmul, 1) := by decide +kernel
theorem dX9_join_127 : decode cX9_join 127 = .ok (.dreturn, 1) := by decide +kernel
theorem dX9_join_128 : decode cX9_join 128 = .ok (.dload_n 1, 1) := by decide +kernel
theorem dX9_join_129 : decode cX9_join 129 = .ok (.dload_n 3, 1) := by decide +kernel
theorem dX9_join_130 : decode cX9_join 130 = .ok (.dcmp .g, 1) := by decide +kernel
theorem dX9_join_131 : decode cX9_join 131 = .ok (.ifCond .ge 7, 3) := by decide +kernel
theorem dX9_join_134 : decode cX9_join 134 = .ok (.dconst 1, 1) := by decide +kernel
theorem dX9_join_135 : decode cX9_join 135 = .ok (.goto 4, 3) := by decide +kernel
theorem dX9_join_138 : decode cX9_join 138 = .ok (.dconst 0, 1) := by decide +kernel
theorem dX9_join_139 : decode cX9_join 139 = .ok (.dreturn, 1) := by decide +kernel
theorem dX9_join_140 : decode cX9_join 140 = .ok (.dload_n 1, 1) := by decide +kernel
theorem dX9_join_141 : decode cX9_join 141 = .ok (.dload_n 3, 1) := by decide +kernel
theorem dX9_join_142 : decode cX9_join 142 = .ok (.dcmp .l, 1) := by decide +kernel
theorem dX9_join_143 : decode cX9_join 143 = .ok (.ifCond .le 7, 3) := by decide +kernel
theorem dX9_join_146 : decode cX9_join 146 = .ok (.dconst 1, 1) := by decide +kernel
theorem dX9_join_147 : decode cX9_join 147 = .ok (.goto 4, 3) := by decide +kernel
theorem dX9_join_150 : decode cX9_join 150 = .ok (.dconst 0, 1) := by decide +kernel
theorem dX9_join_151 : decode cX9_join 151 = .ok (.dreturn, 1) := by decide +kernel
theorem dX9_join_152 : decode cX9_join 152 = .ok (.dload_n 1, 1) := by decide +kernel
theorem dX9_join_153 : decode cX9_join 153 = .ok (.dload_n 3, 1) := by decide +kernel
theorem dX9_join_154 : decode cX9_join 154 = .ok (.dcmp .l, 1) := by decide +kernel
theorem dX9_join_155 : decode cX9_join 155 = .ok (.ifCond .ne 7, 3) := by decide +kernel
theorem dX9_join_158 : decode cX9_join 158 = .ok (.dconst 1, 1) := by decide +kernel
theorem dX9_join_159 : decode cX9_join 159 = .ok (.goto 4, 3) := by decide +kernel
theorem dX9_join_162 : decode cX9_join 162 = .ok (.dconst 0, 1) := by decide +kernel
theorem dX9_join_163 : decode cX9_join 163 = .ok (.dreturn, 1) := by decide +kernel
theorem dX9_join_164 : decode cX9_join 164 = .ok (.dload_n 1, 1) := by decide +kernel
theorem dX9_join_165 : decode cX9_join 165 = .ok (.dload_n 3, 1) := by decide +kernel
theorem dX9_join_166 : decode cX9_join 166 = .ok (.dcmp .g, 1) := by decide +kernel
theorem dX9_join_167 : decode cX9_join 167 = .ok (.ifCond .ge 7, 3) := by decide +kernel
theorem dX9_join_170 : decode cX9_join 170 = .ok (.dload_n 1, 1) := by decide +kernel
theorem dX9_join_171 : decode cX9_join 171 = .ok (.goto 4, 3) := by decide +kernel
theorem dX9_join_174 : decode cX9_join 174 = .ok (.dload_n 3, 1) := by decide +kernel
theorem dX9_join_175 : decode cX9_join 175 = .ok (.dreturn, 1) := by decide +kernel
theorem dX9_join_176 : decode cX9_join 176 = .ok (.dload_n 1, 1) := by decide +kernel
theorem dX9_join_177 : decode cX9_join 177 = .ok (.dload_n 3, 1) := by decide +kernel
theorem dX9_join_178 : decode cX9_join 178 = .ok (.dcmp .l, 1) := by decide +kernel
theorem dX9_join_179 : decode cX9_join 179 = .ok (.ifCond .le 7, 3) := by decide +kernel
theorem dX9_join_182 : decode cX9_join 182 = .ok (.dload_n 1, 1) := by decide +kernel
theorem dX9_join_183 : decode cX9_join 183 = .ok (.goto 4, 3) := by decide +kernel
theorem dX9_join_186 : decode cX9_join 186 = .ok (.dload_n 3, 1) := by decide +kernel
theorem dX9_join_187 : decode cX9_join 187 = .ok (.dreturn, 1) := by decide +kernel
theorem dX9_load_0 : decode cX9_load 0 = .ok (.aload_n 0, 1) := by decide +kernel
theorem dX9_load_1 : decode cX9_load 1 = .ok (.getfield 23, 3) := by decide +kernel
theorem dX9_load_4 : decode cX9_load 4 = .ok (.iload_n 1, 1) := by decide +kernel
theorem dX9_load_5 : decode cX9_load 5 = .ok (.iaload, 1) := by decide +kernel
theorem dX9_load_6 : decode cX9_load 6 = .ok (.istore_n 2, 1) := by decide +kernel
theorem dX9_load_7 : decode cX9_load 7 = .ok (.aload_n 0, 1) := by decide +kernel
theorem dX9_load_8 : decode cX9_load 8 = .ok (.aload_n 0, 1) := by decide +kernel
theorem dX9_load_9 : decode cX9_load 9 = .ok (.getfield 20, 3) := by decide +kernel
theorem dX9_load_12 : decode cX9_load 12 = .ok (.iload_n 1, 1) := by decide +kernel
theorem dX9_load_13 : decode cX9_load 13 = .ok (.iaload, 1) := by decide +kernel
theorem dX9_load_14 : decode cX9_load 14 = .ok (.iconst 2, 1) := by decide +kernel
theorem dX9_load_15 : decode cX9_load 15 = .ok (.if_icmp .ne 7, 3) := by decide +kernel
theorem dX9_load_18 : decode cX9_load 18 = .ok (.iconst 1, 1) := by decide +kernel
theorem dX9_load_19 : decode cX9_load 19 = .ok (.goto 4, 3) := by decide +kernel
theorem dX9_load_22 : decode cX9_load 22 = .ok (.iconst 0, 1) := by decide +kernel
theorem dX9_load_23 : decode cX9_load 23 = .ok (.putfield 110, 3) := by decide +kernel
theorem dX9_load_26 : decode cX9_load 26 = .ok (.aload_n 0, 1) := by decide +kernel
theorem dX9_load_27 : decode cX9_load 27 = .ok (.iconst 0, 1) := by decide +kernel
theorem dX9_load_28 : decode cX9_load 28 = .ok (.putfield 113, 3) := by decide +kernel
theorem dX9_load_31 : decode cX9_load 31 = .ok (.aload_n 0, 1) := by decide +kernel
theorem dX9_load_32 : decode cX9_load 32 = .ok (.getfield 20, 3) := by decide +kernel
theorem dX9_load_35 : decode cX9_load 35 = .ok (.iload_n 1, 1) := by decide +kernel
theorem dX9_load_36 : decode cX9_load 36 = .ok (.iaload, 1) := by decide +kernel
theorem dX9_load_37 : decode cX9_load 37 = .ok (.iconst 1, 1) := by decide +kernel
theorem dX9_load_38 : decode cX9_load 38 = .ok (.if_icmp .ne 47, 3) := by decide +kernel
theorem dX9_load_41 : decode cX9_load 41 = .ok (.aload_n 0, 1) := by decide +kernel
theorem dX9_load_42 : decode cX9_load 42 = .ok (.aload_n 0, 1) := by decide +kernel
theorem dX9_load_43 : decode cX9_load 43 = .ok (.getfield 13, 3) := by decide +kernel
theorem dX9_load_46 : decode cX9_load 46 = .ok (.iload_n 2, 1) := by decide +kernel
theorem dX9_load_47 : decode cX9_load 47 = .ok (.iaload, 1) := by decide +kernel
theorem dX9_load_48 : decode cX9_load 48 = .ok (.putfield 116, 3) := by decide +kernel
theorem dX9_load_51 : decode cX9_load 51 = .ok (.iconst 0, 1) := by decide +kernel
theorem dX9_load_52 : decode cX9_load 52 = .ok (.istore_n 3, 1) := by decide +kernel
theorem dX9_load_53 : decode cX9_load 53 = .ok (.iload_n 3, 1) := by decide +kernel
theorem dX9_load_54 : decode cX9_load 54 = .ok (.bipush 24, 2) := by decide +kernel
theorem dX9_load_56 : decode cX9_load 56 = .ok (.if_icmp .ge 26, 3) := by decide +kernel
theorem dX9_load_59 : decode cX9_load 59 = .ok (.aload_n 0, 1) := by decide +kernel
theorem dX9_load_60 : decode cX9_load 60 = .ok (.getfield 35, 3) := by decide +kernel
theorem dX9_load_63 : decode cX9_load 63 = .ok (.iload_n 3, 1) := by decide +kernel
theorem dX9_load_64 : decode cX9_load 64 = .ok (.aload_n 0, 1) := by decide +kernel
theorem dX9_load_65 : decode cX9_load 65 = .ok (.getfield 16, 3) := by decide +kernel
theorem dX9_load_68 : decode cX9_load 68 = .ok (.bipush 24, 2) := by decide +kernel
theorem dX9_load_70 : decode cX9_load 70 = .ok (.iload_n 2, 1) := by decide +kernel
theorem dX9_load_71 : decode cX9_load 71 = .ok (.imul, 1) := by decide +kernel
theorem dX9_load_72 : decode cX9_load 72 = .ok (.iload_n 3, 1) := by decide +kernel
theorem dX9_load_73 : decode cX9_load 73 = .ok (.iadd, 1) := by decide +kernel
theorem dX9_load_74 : decode cX9_load 74 = .ok (.daload, 1) := by decide +kernel
theorem dX9_load_75 : decode cX9_load 75 = .ok (.dastore, 1) := by decide +kernel
theorem dX9_load_76 : decode cX9_load 76 = .ok (.iinc 3 1, 3) := by decide +kernel
theorem dX9_load_79 : decode cX9_load 79 = .ok (.goto (-26), 3) := by decide +kernel
theorem dX9_load_82 : decode cX9_load 82 = .ok (.goto 123, 3) := by decide +kernel
theorem dX9_load_85 : decode cX9_load 85 = .ok (.aload_n 0, 1) := by decide +kernel
theorem dX9_load_86 : decode cX9_load 86 = .ok (.getfield 20, 3) := by decide +kernel
theorem dX9_load_89 : decode cX9_load 89 = .ok (.iload_n 1, 1) := by decide +kernel
theorem dX9_load_90 : decode cX9_load 90 = .ok (.iaload, 1) := by decide +kernel
theorem dX9_load_91 : decode cX9_load 91 = .ok (.iconst 2, 1) := by decide +kernel
theorem dX9_load_92 : decode cX9_load 92 = .ok (.if_icmp .ne 63, 3) := by decide +kernel
theorem dX9_load_95 : decode cX9_load 95 = .ok (.aload_n 0, 1) := by decide +kernel
theorem dX9_load_96 : decode cX9_load 96 = .ok (.aload_n 0, 1) := by decide +kernel
theorem dX9_load_97 : decode cX9_load 97 = .ok (.getfield 26, 3) := by decide +kernel
theorem dX9_load_100 : decode cX9_load 100 = .ok (.iload_n 1, 1) := by decide +kernel
theorem dX9_load_101 : decode cX9_load 101 = .ok (.iaload, 1) := by decide +kernel
theorem dX9_load_102 : decode cX9_load 102 = .ok (.iconst 1, 1) := by decide +kernel
theorem dX9_load_103 : decode cX9_load 103 = .ok (.if_icmp .ne 7, 3) := by decide +kernel
theorem dX9_load_106 : decode cX9_load 106 = .ok (.iconst 0, 1) := by decide +kernel
theorem dX9_load_107 : decode cX9_load 107 = .ok (.goto 9, 3) := by decide +kernel
theorem dX9_load_110 : decode cX9_load 110 = .ok (.aload_n 0, 1) := by decide +kernel
theorem dX9_load_111 : decode cX9_load 111 = .ok (.getfield 26, 3) := by decide +kernel
theorem dX9_load_114 : decode cX9_load 114 = .ok (.iload_n 1, 1) := by decide +kernel
theorem dX9_load_115 : decode cX9_load 115 = .ok (.iaload, 1) := by decide +kernel
theorem dX9_load_116 : decode cX9_load 116 = .ok (.putfield 116, 3) := by decide +kernel
theorem dX9_load_119 : decode cX9_load 119 = .ok (.iconst 0, 1) := by decide +kernel
theorem dX9_load_120 : decode cX9_load 120 = .ok (.istore_n 3, 1) := by decide +kernel
theorem dX9_load_121 : decode cX9_load 121 = .ok (.iload_n 3, 1) := by decide +kernel
theorem dX9_load_122 : decode cX9_load 122 = .ok (.aload_n 0, 1) := by decide +kernel
theorem dX9_load_123 : decode cX9_load 123 = .ok (.getfield 26, 3) := by decide +kernel
theorem dX9_load_126 : decode cX9_load 126 = .ok (.iload_n 1, 1) := by decide +kernel
theorem dX9_load_127 : decode cX9_load 127 = .ok (.iaload, 1) := by decide +kernel
theorem dX9_load_128 : decode cX9_load 128 = .ok (.if_icmp .ge 24, 3) := by decide +kernel
theorem dX9_load_131 : decode cX9_load 131 = .ok (.aload_n 0, 1) := by decide +kernel
theorem dX9_load_132 : decode cX9_load 132 = .ok (.getfield 35, 3) := by decide +kernel
theorem dX9_load_135 : decode cX9_load 135 = .ok (.iload_n 3, 1) := by decide +kernel
theorem dX9_load_136 : decode cX9_load 136 = .ok (.aload_n 0, 1) := by decide +kernel
theorem dX9_load_137 : decode cX9_load 137 = .ok (.getfield 29, 3) := by decide +kernel
theorem dX9_load_140 : decode cX9_load 140 = .ok (.iload_n 2, 1) := by decide +kernel
theorem dX9_load_141 : decode cX9_load 141 = .ok (.iload_n 3, 1) := by decide +kernel
theorem dX9_load_142 : decode cX9_load 142 = .ok (.iadd, 1) := by decide +kernel
theorem dX9_load_143 : decode cX9_load 143 = .ok (.iaload, 1) := by decide +kernel
theorem dX9_load_144 : decode cX9_load 144 = .ok (.i2d, 1) := by decide +kernel
theorem dX9_load_145 : decode cX9_load 145 = .ok (.dastore, 1) := by decide +kernel
theorem dX9_load_146 : decode cX9_load 146 = .ok (.iinc 3 1, 3) := by decide +kernel
theorem dX9_load_149 : decode cX9_load 149 = .ok (.goto (-28), 3) := by decide +kernel
theorem dX9_load_152 : decode cX9_load 152 = .ok (.goto 53, 3) := by decide +kernel
theorem dX9_load_155 : decode cX9_load 155 = .ok (.aload_n 0, 1) := by decide +kernel
theorem dX9_load_156 : decode cX9_load 156 = .ok (.aload_n 0, 1) := by decide +kernel
theorem dX9_load_157 : decode cX9_load 157 = .ok (.getfield 29, 3) := by decide +kernel
theorem dX9_load_160 : decode cX9_load 160 = .ok (.iload_n 2, 1) := by decide +kernel
theorem dX9_load_161 : decode cX9_load 161 = .ok (.iaload, 1) := by decide +kernel
theorem dX9_load_162 : decode cX9_load 162 = .ok (.putfield 116, 3) := by decide +kernel
theorem dX9_load_165 : decode cX9_load 165 = .ok (.aload_n 0, 1) := by decide +kernel
theorem dX9_load_166 : decode cX9_load 166 = .ok (.getfield 116, 3) := by decide +kernel
theorem dX9_load_169 : decode cX9_load 169 = .ok (.iconst 1, 1) := by decide +kernel
theorem dX9_load_170 : decode cX9_load 170 = .ok (.bipush 24, 2) := by decide +kernel
theorem dX9_load_172 : decode cX9_load 172 = .ok (.invokestatic 58, 3) := by decide +kernel
theorem dX9_load_175 : decode cX9_load 175 = .ok (.ifCond .ne 8, 3) := by decide +kernel
theorem dX9_load_178 : decode cX9_load 178 = .ok (.aload_n 0, 1) := by decide +kernel
theorem dX9_load_179 : decode cX9_load 179 = .ok (.iconst 2, 1) := by decide +kernel
theorem dX9_load_180 : decode cX9_load 180 = .ok (.putfield 119, 3) := by decide +kernel
theorem dX9_load_183 : decode cX9_load 183 = .ok (.iconst 0, 1) := by decide +kernel
theorem dX9_load_184 : decode cX9_load 184 = .ok (.istore_n 3, 1) := by decide +kernel
theorem dX9_load_185 : decode cX9_load 185 = .ok (.iload_n 3, 1) := by decide +kernel
theorem dX9_load_186 : decode cX9_load 186 = .ok (.bipush 24, 2) := by decide +kernel
theorem dX9_load_188 : decode cX9_load 188 = .ok (.if_icmp .ge 17, 3) := by decide +kernel
theorem dX9_load_191 : decode cX9_load 191 = .ok (.aload_n 0, 1) := by decide +kernel
theorem dX9_load_192 : decode cX9_load 192 = .ok (.getfield 35, 3) := by decide +kernel
theorem dX9_load_195 : decode cX9_load 195 = .ok (.iload_n 3, 1) := by decide +kernel
theorem dX9_load_196 : decode cX9_load 196 = .ok (.iload_n 3, 1) := by decide +kernel
theorem dX9_load_197 : decode cX9_load 197 = .ok (.i2d, 1) := by decide +kernel
theorem dX9_load_198 : decode cX9_load 198 = .ok (.dastore, 1) := by decide +kernel
theorem dX9_load_199 : decode cX9_load 199 = .ok (.iinc 3 1, 3) := by decide +kernel
theorem dX9_load_202 : decode cX9_load 202 = .ok (.goto (-17), 3) := by decide +kernel
theorem dX9_load_205 : decode cX9_load 205 = .ok (.return_, 1) := by decide +kernel
theorem dX9_deliver_0 : decode cX9_deliver 0 = .ok (.aload_n 0, 1) := by decide +kernel
theorem dX9_deliver_1 : decode cX9_deliver 1 = .ok (.getfield 44, 3) := by decide +kernel
theorem dX9_deliver_4 : decode cX9_deliver 4 = .ok (.iload_n 1, 1) := by decide +kernel
theorem dX9_deliver_5 : decode cX9_deliver 5 = .ok (.iaload, 1) := by decide +kernel
theorem dX9_deliver_6 : decode cX9_deliver 6 = .ok (.istore_n 2, 1) := by decide +kernel
theorem dX9_deliver_7 : decode cX9_deliver 7 = .ok (.aload_n 0, 1) := by decide +kernel
theorem dX9_deliver_8 : decode cX9_deliver 8 = .ok (.getfield 44, 3) := by decide +kernel
theorem dX9_deliver_11 : decode cX9_deliver 11 = .ok (.iload_n 1, 1) := by decide +kernel
theorem dX9_deliver_12 : decode cX9_deliver 12 = .ok (.iconst 0, 1) := by decide +kernel
theorem dX9_deliver_13 : decode cX9_deliver 13 = .ok (.iastore, 1) := by decide +kernel
theorem dX9_deliver_14 : decode cX9_deliver 14 = .ok (.aload_n 0, 1) := by decide +kernel
theorem dX9_deliver_15 : decode cX9_deliver 15 = .ok (.iload_n 2, 1) := by decide +kernel
theorem dX9_deliver_16 : decode cX9_deliver 16 = .ok (.ifCond .ne 14, 3) := by decide +kernel
theorem dX9_deliver_19 : decode cX9_deliver 19 = .ok (.aload_n 0, 1) := by decide +kernel
theorem dX9_deliver_20 : decode cX9_deliver 20 = .ok (.getfield 110, 3) := by decide +kernel
theorem dX9_deliver_23 : decode cX9_deliver 23 = .ok (.ifCond .eq 7, 3) := by decide +kernel
theorem dX9_deliver_26 : decode cX9_deliver 26 = .ok (.iconst 1, 1) := by decide +kernel
theorem dX9_deliver_27 : decode cX9_deliver 27 = .ok (.goto 4, 3) := by decide +kernel
theorem dX9_deliver_30 : decode cX9_deliver 30 = .ok (.iconst 0, 1) := by decide +kernel
theorem dX9_deliver_31 : decode cX9_deliver 31 = .ok (.putfield 122, 3) := by decide +kernel
theorem dX9_deliver_34 : decode cX9_deliver 34 = .ok (.aload_n 0, 1) := by decide +kernel
theorem dX9_deliver_35 : decode cX9_deliver 35 = .ok (.iload_n 2, 1) := by decide +kernel
theorem dX9_deliver_36 : decode cX9_deliver 36 = .ok (.ifCond .ne 10, 3) := by decide +kernel
theorem dX9_deliver_39 : decode cX9_deliver 39 = .ok (.aload_n 0, 1) := by decide +kernel
theorem dX9_deliver_40 : decode cX9_deliver 40 = .ok (.getfield 113, 3) := by decide +kernel
theorem dX9_deliver_43 : decode cX9_deliver 43 = .ok (.goto 14, 3) := by decide +kernel
theorem dX9_deliver_46 : decode cX9_deliver 46 = .ok (.iload_n 2, 1) := by decide +kernel
theorem dX9_deliver_47 : decode cX9_deliver 47 = .ok (.bipush 44, 2) := by decide +kernel
theorem dX9_deliver_49 : decode cX9_deliver 49 = .ok (.if_icmp .ne 7, 3) := by decide +kernel
theorem dX9_deliver_52 : decode cX9_deliver 52 = .ok (.iconst 1, 1) := by decide +kernel
theorem dX9_deliver_53 : decode cX9_deliver 53 = .ok (.goto 4, 3) := by decide +kernel
theorem dX9_deliver_56 : decode cX9_deliver 56 = .ok (.iconst 0, 1) := by decide +kernel
theorem dX9_deliver_57 : decode cX9_deliver 57 = .ok (.putfield 125, 3) := by decide +kernel
theorem dX9_deliver_60 : decode cX9_deliver 60 = .ok (.iload_n 2, 1) := by decide +kernel
theorem dX9_deliver_61 : decode cX9_deliver 61 = .ok (.ifCond .ne 40, 3) := by decide +kernel
theorem dX9_deliver_64 : decode cX9_deliver 64 = .ok (.aload_n 0, 1) := by decide +kernel
theorem dX9_deliver_65 : decode cX9_deliver 65 = .ok (.aload_n 0, 1) := by decide +kernel
theorem dX9_deliver_66 : decode cX9_deliver 66 = .ok (.getfield 116, 3) := by decide +kernel
theorem dX9_deliver_69 : decode cX9_deliver 69 = .ok (.putfield 128, 3) := by decide +kernel
theorem dX9_deliver_72 : decode cX9_deliver 72 = .ok (.iconst 0, 1) := by decide +kernel
theorem dX9_deliver_73 : decode cX9_deliver 73 = .ok (.istore_n 3, 1) := by decide +kernel
theorem dX9_deliver_74 : decode cX9_deliver 74 = .ok (.iload_n 3, 1) := by decide +kernel
theorem dX9_deliver_75 : decode cX9_deliver 75 = .ok (.bipush 24, 2) := by decide +kernel
theorem dX9_deliver_77 : decode cX9_deliver 77 = .ok (.if_icmp .ge 21, 3) := by decide +kernel
theorem dX9_deliver_80 : decode cX9_deliver 80 = .ok (.aload_n 0, 1) := by decide +kernel
theorem dX9_deliver_81 : decode cX9_deliver 81 = .ok (.getfield 32, 3) := by decide +kernel
theorem dX9_deliver_84 : decode cX9_deliver 84 = .ok (.iload_n 3, 1) := by decide +kernel
theorem dX9_deliver_85 : decode cX9_deliver 85 = .ok (.aload_n 0, 1) := by decide +kernel
theorem dX9_deliver_86 : decode cX9_deliver 86 = .ok (.getfield 35, 3) := by decide +kernel
theorem dX9_deliver_89 : decode cX9_deliver 89 = .ok (.iload_n 3, 1) := by decide +kernel
theorem dX9_deliver_90 : decode cX9_deliver 90 = .ok (.daload, 1) := by decide +kernel
theorem dX9_deliver_91 : decode cX9_deliver 91 = .ok (.dastore, 1) := by decide +kernel
theorem dX9_deliver_92 : decode cX9_deliver 92 = .ok (.iinc 3 1, 3) := by decide +kernel
theorem dX9_deliver_95 : decode cX9_deliver 95 = .ok (.goto (-21), 3) := by decide +kernel
theorem dX9_deliver_98 : decode cX9_deliver 98 = .ok (.goto 37, 3) := by decide +kernel
theorem dX9_deliver_101 : decode cX9_deliver 101 = .ok (.iload_n 2, 1) := by decide +kernel
theorem dX9_deliver_102 : decode cX9_deliver 102 = .ok (.bipush 44, 2) := by decide +kernel
theorem dX9_deliver_104 : decode cX9_deliver 104 = .ok (.if_icmp .ne 11, 3) := by decide +kernel
theorem dX9_deliver_107 : decode cX9_deliver 107 = .ok (.aload_n 0, 1) := by decide +kernel
theorem dX9_deliver_108 : decode cX9_deliver 108 = .ok (.iload_n 1, 1) := by decide +kernel
theorem dX9_deliver_109 : decode cX9_deliver 109 = .ok (.invokevirtual 131, 3) := by decide +kernel
theorem dX9_deliver_112 : decode cX9_deliver 112 = .ok (.goto 23, 3) := by decide +kernel
theorem dX9_deliver_115 : decode cX9_deliver 115 = .ok (.iload_n 2, 1) := by decide +kernel
theorem dX9_deliver_116 : decode cX9_deliver 116 = .ok (.bipush 35, 2) := by decide +kernel
theorem dX9_deliver_118 : decode cX9_deliver 118 = .ok (.if_icmp .ne 11, 3) := by decide +kernel
theorem dX9_deliver_121 : decode cX9_deliver 121 = .ok (.aload_n 0, 1) := by decide +kernel
theorem dX9_deliver_122 : decode cX9_deliver 122 = .ok (.iload_n 1, 1) := by decide +kernel
theorem dX9_deliver_123 : decode cX9_deliver 123 = .ok (.invokevirtual 135, 3) := by decide +kernel
theorem dX9_deliver_126 : decode cX9_deliver 126 = .ok (.goto 9, 3) := by decide +kernel
theorem dX9_deliver_129 : decode cX9_deliver 129 = .ok (.aload_n 0, 1) := by decide +kernel
theorem dX9_deliver_130 : decode cX9_deliver 130 = .ok (.iload_n 2, 1) := by decide +kernel
theorem dX9_deliver_131 : decode cX9_deliver 131 = .ok (.iload_n 1, 1) := by decide +kernel
theorem dX9_deliver_132 : decode cX9_deliver 132 = .ok (.invokevirtual 138, 3) := by decide +kernel
theorem dX9_deliver_135 : decode cX9_deliver 135 = .ok (.return_, 1) := by decide +kernel
theorem dX9_append_0 : decode cX9_append 0 = .ok (.aload_n 0, 1) := by decide +kernel
theorem dX9_append_1 : decode cX9_append 1 = .ok (.getfield 41, 3) := by decide +kernel
theorem dX9_append_4 : decode cX9_append 4 = .ok (.iload_n 1, 1) := by decide +kernel
theorem dX9_append_5 : decode cX9_append 5 = .ok (.iaload, 1) := by decide +kernel
theorem dX9_append_6 : decode cX9_append 6 = .ok (.istore_n 2, 1) := by decide +kernel
theorem dX9_append_7 : decode cX9_append 7 = .ok (.aload_n 0, 1) := by decide +kernel
theorem dX9_append_8 : decode cX9_append 8 = .ok (.getfield 116, 3) := by decide +kernel
theorem dX9_append_11 : decode cX9_append 11 = .ok (.invokestatic 70, 3) := by decide +kernel
theorem dX9_append_14 : decode cX9_append 14 = .ok (.istore_n 3, 1) := by decide +kernel
theorem dX9_append_15 : decode cX9_append 15 = .ok (.aload_n 0, 1) := by decide +kernel
theorem dX9_append_16 : decode cX9_append 16 = .ok (.dup, 1) := by decide +kernel
theorem dX9_append_17 : decode cX9_append 17 = .ok (.getfield 142, 3) := by decide +kernel
theorem dX9_append_20 : decode cX9_append 20 = .ok (.iconst 1, 1) := by decide +kernel
theorem dX9_append_21 : decode cX9_append 21 = .ok (.iadd, 1) := by decide +kernel
theorem dX9_append_22 : decode cX9_append 22 = .ok (.putfield 142, 3) := by decide +kernel
theorem dX9_append_25 : decode cX9_append 25 = .ok (.aload_n 0, 1) := by decide +kernel
theorem dX9_append_26 : decode cX9_append 26 = .ok (.getfield 116, 3) := by decide +kernel
theorem dX9_append_29 : decode cX9_append 29 = .ok (.bipush 32, 2) := by decide +kernel
theorem dX9_append_31 : decode cX9_append 31 = .ok (.if_icmp .ge 9, 3) := by decide +kernel
theorem dX9_append_34 : decode cX9_append 34 = .ok (.iload_n 2, 1) := by decide +kernel
theorem dX9_append_35 : decode cX9_append 35 = .ok (.bipush 32, 2) := by decide +kernel
theorem dX9_append_37 : decode cX9_append 37 = .ok (.if_icmp .lt 11, 3) := by decide +kernel
theorem dX9_append_40 : decode cX9_append 40 = .ok (.aload_n 0, 1) := by decide +kernel
theorem dX9_append_41 : decode cX9_append 41 = .ok (.iconst 1, 1) := by decide +kernel
theorem dX9_append_42 : decode cX9_append 42 = .ok (.putfield 119, 3) := by decide +kernel
theorem dX9_append_45 : decode cX9_append 45 = .ok (.goto 19, 3) := by decide +kernel
theorem dX9_append_48 : decode cX9_append 48 = .ok (.iload_n 3, 1) := by decide +kernel
theorem dX9_append_49 : decode cX9_append 49 = .ok (.iload_n 2, 1) := by decide +kernel
theorem dX9_append_50 : decode cX9_append 50 = .ok (.invokestatic 70, 3) := by decide +kernel
theorem dX9_append_53 : decode cX9_append 53 = .ok (.iadd, 1) := by decide +kernel
theorem dX9_append_54 : decode cX9_append 54 = .ok (.bipush 24, 2) := by decide +kernel
theorem dX9_append_56 : decode cX9_append 56 = .ok (.if_icmp .le 8, 3) := by decide +kernel
theorem dX9_append_59 : decode cX9_append 59 = .ok (.aload_n 0, 1) := by decide +kernel
theorem dX9_append_60 : decode cX9_append 60 = .ok (.iconst 2, 1) := by decide +kernel
theorem dX9_append_61 : decode cX9_append 61 = .ok (.putfield 119, 3) := by decide +kernel
theorem dX9_append_64 : decode cX9_append 64 = .ok (.aload_n 0, 1) := by decide +kernel
theorem dX9_append_65 : decode cX9_append 65 = .ok (.getfield 119, 3) := by decide +kernel
theorem dX9_append_68 : decode cX9_append 68 = .ok (.ifCond .le 4, 3) := by decide +kernel
theorem dX9_append_71 : decode cX9_append 71 = .ok (.return_, 1) := by decide +kernel
theorem dX9_append_72 : decode cX9_append 72 = .ok (.iconst 0, 1) := by decide +kernel
theorem dX9_append_73 : decode cX9_append 73 = .ok (.istore 4, 2) := by decide +kernel
theorem dX9_append_75 : decode cX9_append 75 = .ok (.iload 4, 2) := by decide +kernel
theorem dX9_append_77 : decode cX9_append 77 = .ok (.iload_n 3, 1) := by decide +kernel
theorem dX9_append_78 : decode cX9_append 78 = .ok (.if_icmp .ge 23, 3) := by decide +kernel
theorem dX9_append_81 : decode cX9_append 81 = .ok (.aload_n 0, 1) := by decide +kernel
theorem dX9_append_82 : decode cX9_append 82 = .ok (.getfield 32, 3) := by decide +kernel
theorem dX9_append_85 : decode cX9_append 85 = .ok (.iload 4, 2) := by decide +kernel
theorem dX9_append_87 : decode cX9_append 87 = .ok (.aload_n 0, 1) := by decide +kernel
theorem dX9_append_88 : decode cX9_append 88 = .ok (.getfield 35, 3) := by decide +kernel
theorem dX9_append_91 : decode cX9_append 91 = .ok (.iload 4, 2) := by decide +kernel
theorem dX9_append_93 : decode cX9_append 93 = .ok (.daload, 1) := by decide +kernel
theorem dX9_append_94 : decode cX9_append 94 = .ok (.dastore, 1) := by decide +kernel
theorem dX9_append_95 : decode cX9_append 95 = .ok (.iinc 4 1, 3) := by decide +kernel
theorem dX9_append_98 : decode cX9_append 98 = .ok (.goto (-23), 3) := by decide +kernel
theorem dX9_append_101 : decode cX9_append 101 = .ok (.iconst 0, 1) := by decide +kernel
theorem dX9_append_102 : decode cX9_append 102 = .ok (.istore 4, 2) := by decide +kernel
theorem dX9_append_104 : decode cX9_append 104 = .ok (.iload 4, 2) := by decide +kernel
theorem dX9_append_106 : decode cX9_append 106 = .ok (.iload_n 2, 1) := by decide +kernel
theorem dX9_append_107 : decode cX9_append 107 = .ok (.invokestatic 70, 3) := by decide +kernel
theorem dX9_append_110 : decode cX9_append 110 = .ok (.if_icmp .ge 30, 3) := by decide +kernel
theorem dX9_append_113 : decode cX9_append 113 = .ok (.aload_n 0, 1) := by decide +kernel
theorem dX9_append_114 : decode cX9_append 114 = .ok (.getfield 32, 3) := by decide +kernel
theorem dX9_append_117 : decode cX9_append 117 = .ok (.iload_n 3, 1) := by decide +kernel
theorem dX9_append_118 : decode cX9_append 118 = .ok (.iload 4, 2) := by decide +kernel
theorem dX9_append_120 : decode cX9_append 120 = .ok (.iadd, 1) := by decide +kernel
theorem dX9_append_121 : decode cX9_append 121 = .ok (.aload_n 0, 1) := by decide +kernel
theorem dX9_append_122 : decode cX9_append 122 = .ok (.getfield 38, 3) := by decide +kernel
theorem dX9_append_125 : decode cX9_append 125 = .ok (.bipush 24, 2) := by decide +kernel
theorem dX9_append_127 : decode cX9_append 127 = .ok (.iload_n 1, 1) := by decide +kernel
theorem dX9_append_128 : decode cX9_append 128 = .ok (.imul, 1) := by decide +kernel
theorem dX9_append_129 : decode cX9_append 129 = .ok (.iload 4, 2) := by decide +kernel
theorem dX9_append_131 : decode cX9_append 131 = .ok (.iadd, 1) := by decide +kernel
theorem dX9_append_132 : decode cX9_append 132 = .ok (.daload, 1) := by decide +kernel
theorem dX9_append_133 : decode cX9_append 133 = .ok (.dastore, 1) := by decide +kernel
theorem dX9_append_134 : decode cX9_append 134 = .ok (.iinc 4 1, 3) := by decide +kernel
theorem dX9_append_137 : decode cX9_append 137 = .ok (.goto (-33), 3) := by decide +kernel
theorem dX9_append_140 : decode cX9_append 140 = .ok (.aload_n 0, 1) := by decide +kernel
theorem dX9_append_141 : decode cX9_append 141 = .ok (.iload_n 3, 1) := by decide +kernel
theorem dX9_append_142 : decode cX9_append 142 = .ok (.iload_n 2, 1) := by decide +kernel
theorem dX9_append_143 : decode cX9_append 143 = .ok (.invokestatic 70, 3) := by decide +kernel
theorem dX9_append_146 : decode cX9_append 146 = .ok (.iadd, 1) := by decide +kernel
theorem dX9_append_147 : decode cX9_append 147 = .ok (.putfield 128, 3) := by decide +kernel
theorem dX9_append_150 : decode cX9_append 150 = .ok (.return_, 1) := by decide +kernel
theorem dX9_shapeAnew_0 : decode cX9_shapeAnew 0 = .ok (.aload_n 0, 1) := by decide +kernel
theorem dX9_shapeAnew_1 : decode cX9_shapeAnew 1 = .ok (.getfield 41, 3) := by decide +kernel
theorem dX9_shapeAnew_4 : decode cX9_shapeAnew 4 = .ok (.iload_n 1, 1) := by decide +kernel
theorem dX9_shapeAnew_5 : decode cX9_shapeAnew 5 = .ok (.iaload, 1) := by decide +kernel
theorem dX9_shapeAnew_6 : decode cX9_shapeAnew 6 = .ok (.invokestatic 70, 3) := by decide +kernel
theorem dX9_shapeAnew_9 : decode cX9_shapeAnew 9 = .ok (.istore_n 2, 1) := by decide +kernel
theorem dX9_shapeAnew_10 : decode cX9_shapeAnew 10 = .ok (.aload_n 0, 1) := by decide +kernel
theorem dX9_shapeAnew_11 : decode cX9_shapeAnew 11 = .ok (.getfield 110, 3) := by decide +kernel
theorem dX9_shapeAnew_14 : decode cX9_shapeAnew 14 = .ok (.ifCond .eq 18, 3) := by decide +kernel
theorem dX9_shapeAnew_17 : decode cX9_shapeAnew 17 = .ok (.aload_n 0, 1) := by decide +kernel
theorem dX9_shapeAnew_18 : decode cX9_shapeAnew 18 = .ok (.getfield 116, 3) := by decide +kernel
theorem dX9_shapeAnew_21 : decode cX9_shapeAnew 21 = .ok (.ifCond .eq 17, 3) := by decide +kernel
theorem dX9_shapeAnew_24 : decode cX9_shapeAnew 24 = .ok (.aload_n 0, 1) := by decide +kernel
theorem dX9_shapeAnew_25 : decode cX9_shapeAnew 25 = .ok (.getfield 116, 3) := by decide +kernel
theorem dX9_shapeAnew_28 : decode cX9_shapeAnew 28 = .ok (.iconst 2, 1) := by decide +kernel
theorem dX9_shapeAnew_29 : decode cX9_shapeAnew 29 = .ok (.if_icmp .eq 9, 3) := by decide +kernel
theorem dX9_shapeAnew_32 : decode cX9_shapeAnew 32 = .ok (.aload_n 0, 1) := by decide +kernel
theorem dX9_shapeAnew_33 : decode cX9_shapeAnew 33 = .ok (.iconst 1, 1) := by decide +kernel
theorem dX9_shapeAnew_34 : decode cX9_shapeAnew 34 = .ok (.putfield 119, 3) := by decide +kernel
theorem dX9_shapeAnew_37 : decode cX9_shapeAnew 37 = .ok (.return_, 1) := by decide +kernel
theorem dX9_shapeAnew_38 : decode cX9_shapeAnew 38 = .ok (.aload_n 0, 1) := by decide +kernel
theorem dX9_shapeAnew_39 : decode cX9_shapeAnew 39 = .ok (.getfield 35, 3) := by decide +kernel
theorem dX9_shapeAnew_42 : decode cX9_shapeAnew 42 = .ok (.iconst 0, 1) := by decide +kernel
theorem dX9_shapeAnew_43 : decode cX9_shapeAnew 43 = .ok (.daload, 1) := by decide +kernel
theorem dX9_shapeAnew_44 : decode cX9_shapeAnew 44 = .ok (.d2i, 1) := by decide +kernel
theorem dX9_shapeAnew_45 : decode cX9_shapeAnew 45 = .ok (.istore_n 3, 1) := by decide +kernel
theorem dX9_shapeAnew_46 : decode cX9_shapeAnew 46 = .ok (.aload_n 0, 1) := by decide +kernel
theorem dX9_shapeAnew_47 : decode cX9_shapeAnew 47 = .ok (.getfield 116, 3) := by decide +kernel
theorem dX9_shapeAnew_50 : decode cX9_shapeAnew 50 = .ok (.ifCond .ne 7, 3) := by decide +kernel
theorem dX9_shapeAnew_53 : decode cX9_shapeAnew 53 = .ok (.iconst 1, 1) := by decide +kernel
theorem dX9_shapeAnew_54 : decode cX9_shapeAnew 54 = .ok (.goto 10, 3) := by decide +kernel
theorem dX9_shapeAnew_57 : decode cX9_shapeAnew 57 = .ok (.aload_n 0, 1) := by decide +kernel
theorem dX9_shapeAnew_58 : decode cX9_shapeAnew 58 = .ok (.getfield 35, 3) := by decide +kernel
theorem dX9_shapeAnew_61 : decode cX9_shapeAnew 61 = .ok (.iconst 1, 1) := by decide +kernel
theorem dX9_shapeAnew_62 : decode cX9_shapeAnew 62 = .ok (.daload, 1) := by decide +kernel
theorem dX9_shapeAnew_63 : decode cX9_shapeAnew 63 = .ok (.d2i, 1) := by decide +kernel
theorem dX9_shapeAnew_64 : decode cX9_shapeAnew 64 = .ok (.istore 4, 2) := by decide +kernel
theorem dX9_shapeAnew_66 : decode cX9_shapeAnew 66 = .ok (.iload_n 3, 1) := by decide +kernel
theorem dX9_shapeAnew_67 : decode cX9_shapeAnew 67 = .ok (.iconst 1, 1) := by decide +kernel
theorem dX9_shapeAnew_68 : decode cX9_shapeAnew 68 = .ok (.if_icmp .lt 18, 3) := by decide +kernel
theorem dX9_shapeAnew_71 : decode cX9_shapeAnew 71 = .ok (.iload 4, 2) := by decide +kernel
theorem dX9_shapeAnew_73 : decode cX9_shapeAnew 73 = .ok (.iconst 1, 1) := by decide +kernel
theorem dX9_shapeAnew_74 : decode cX9_shapeAnew 74 = .ok (.if_icmp .lt 12, 3) := by decide +kernel
theorem dX9_shapeAnew_77 : decode cX9_shapeAnew 77 = .ok (.iload_n 3, 1) := by decide +kernel
theorem dX9_shapeAnew_78 : decode cX9_shapeAnew 78 = .ok (.iload 4, 2) := by decide +kernel
theorem dX9_shapeAnew_80 : decode cX9_shapeAnew 80 = .ok (.imul, 1) := by decide +kernel
theorem dX9_shapeAnew_81 : decode cX9_shapeAnew 81 = .ok (.bipush 24, 2) := by decide +kernel
theorem dX9_shapeAnew_83 : decode cX9_shapeAnew 83 = .ok (.if_icmp .le 11, 3) := by decide +kernel
theorem dX9_shapeAnew_86 : decode cX9_shapeAnew 86 = .ok (.aload_n 0, 1) := by decide +kernel
theorem dX9_shapeAnew_87 : decode cX9_shapeAnew 87 = .ok (.iconst 2, 1) := by decide +kernel
theorem dX9_shapeAnew_88 : decode cX9_shapeAnew 88 = .ok (.putfield 119, 3) := by decide +kernel
theorem dX9_shapeAnew_91 : decode cX9_shapeAnew 91 = .ok (.goto 16, 3) := by decide +kernel
theorem dX9_shapeAnew_94 : decode cX9_shapeAnew 94 = .ok (.iload_n 3, 1) := by decide +kernel
theorem dX9_shapeAnew_95 : decode cX9_shapeAnew 95 = .ok (.iload 4, 2) := by decide +kernel
theorem dX9_shapeAnew_97 : decode cX9_shapeAnew 97 = .ok (.imul, 1) := by decide +kernel
theorem dX9_shapeAnew_98 : decode cX9_shapeAnew 98 = .ok (.iload_n 2, 1) := by decide +kernel
theorem dX9_shapeAnew_99 : decode cX9_shapeAnew 99 = .ok (.if_icmp .ge 8, 3) := by decide +kernel
theorem dX9_shapeAnew_102 : decode cX9_shapeAnew 102 = .ok (.aload_n 0, 1) := by decide +kernel
theorem dX9_shapeAnew_103 : decode cX9_shapeAnew 103 = .ok (.iconst 1, 1) := by decide +kernel
theorem dX9_shapeAnew_104 : decode cX9_shapeAnew 104 = .ok (.putfield 119, 3) := by decide +kernel
theorem dX9_shapeAnew_107 : decode cX9_shapeAnew 107 = .ok (.aload_n 0, 1) := by decide +kernel
theorem dX9_shapeAnew_108 : decode cX9_shapeAnew 108 = .ok (.getfield 119, 3) := by decide +kernel
theorem dX9_shapeAnew_111 : decode cX9_shapeAnew 111 = .ok (.ifCond .le 4, 3) := by decide +kernel
theorem dX9_shapeAnew_114 : decode cX9_shapeAnew 114 = .ok (.return_, 1) := by decide +kernel
theorem dX9_shapeAnew_115 : decode cX9_shapeAnew 115 = .ok (.aload_n 0, 1) := by decide +kernel
theorem dX9_shapeAnew_116 : decode cX9_shapeAnew 116 = .ok (.aload_n 0, 1) := by decide +kernel
theorem dX9_shapeAnew_117 : decode cX9_shapeAnew 117 = .ok (.getfield 116, 3) := by decide +kernel
theorem dX9_shapeAnew_120 : decode cX9_shapeAnew 120 = .ok (.ifCond .ne 7, 3) := by decide +kernel
theorem dX9_shapeAnew_123 : decode cX9_shapeAnew 123 = .ok (.iload_n 3, 1) := by decide +kernel
theorem dX9_shapeAnew_124 : decode cX9_shapeAnew 124 = .ok (.goto 10, 3) := by decide +kernel
theorem dX9_shapeAnew_127 : decode cX9_shapeAnew 127 = .ok (.bipush 32, 2) := by decide +kernel
theorem dX9_shapeAnew_129 : decode cX9_shapeAnew 129 = .ok (.iload_n 3, 1) := by decide +kernel
theorem dX9_shapeAnew_130 : decode cX9_shapeAnew 130 = .ok (.imul, 1) := by decide +kernel
theorem dX9_shapeAnew_131 : decode cX9_shapeAnew 131 = .ok (.iload 4, 2) := by decide +kernel
theorem dX9_shapeAnew_133 : decode cX9_shapeAnew 133 = .ok (.iadd, 1) := by decide +kernel
theorem dX9_shapeAnew_134 : decode cX9_shapeAnew 134 = .ok (.putfield 128, 3) := by decide +kernel
theorem dX9_shapeAnew_137 : decode cX9_shapeAnew 137 = .ok (.iconst 0, 1) := by decide +kernel
theorem dX9_shapeAnew_138 : decode cX9_shapeAnew 138 = .ok (.istore 5, 2) := by decide +kernel
theorem dX9_shapeAnew_140 : decode cX9_shapeAnew 140 = .ok (.iload 5, 2) := by decide +kernel
theorem dX9_shapeAnew_142 : decode cX9_shapeAnew 142 = .ok (.iload_n 3, 1) := by decide +kernel
theorem dX9_shapeAnew_143 : decode cX9_shapeAnew 143 = .ok (.iload 4, 2) := by decide +kernel
theorem dX9_shapeAnew_145 : decode cX9_shapeAnew 145 = .ok (.imul, 1) := by decide +kernel
theorem dX9_shapeAnew_146 : decode cX9_shapeAnew 146 = .ok (.if_icmp .ge 30, 3) := by decide +kernel
theorem dX9_shapeAnew_149 : decode cX9_shapeAnew 149 = .ok (.aload_n 0, 1) := by decide +kernel
theorem dX9_shapeAnew_150 : decode cX9_shapeAnew 150 = .ok (.getfield 32, 3) := by decide +kernel
theorem dX9_shapeAnew_153 : decode cX9_shapeAnew 153 = .ok (.iload 5, 2) := by decide +kernel
theorem dX9_shapeAnew_155 : decode cX9_shapeAnew 155 = .ok (.aload_n 0, 1) := by decide +kernel
theorem dX9_shapeAnew_156 : decode cX9_shapeAnew 156 = .ok (.getfield 38, 3) := by decide +kernel
theorem dX9_shapeAnew_159 : decode cX9_shapeAnew 159 = .ok (.bipush 24, 2) := by decide +kernel
theorem dX9_shapeAnew_161 : decode cX9_shapeAnew 161 = .ok (.iload_n 1, 1) := by decide +kernel
theorem dX9_shapeAnew_162 : decode cX9_shapeAnew 162 = .ok (.imul, 1) := by decide +kernel
theorem dX9_shapeAnew_163 : decode cX9_shapeAnew 163 = .ok (.iload 5, 2) := by decide +kernel
theorem dX9_shapeAnew_165 : decode cX9_shapeAnew 165 = .ok (.iload_n 2, 1) := by decide +kernel
theorem dX9_shapeAnew_166 : decode cX9_shapeAnew 166 = .ok (.irem, 1) := by decide +kernel
theorem dX9_shapeAnew_167 : decode cX9_shapeAnew 167 = .ok (.iadd, 1) := by decide +kernel
theorem dX9_shapeAnew_168 : decode cX9_shapeAnew 168 = .ok (.daload, 1) := by decide +kernel
theorem dX9_shapeAnew_169 : decode cX9_shapeAnew 169 = .ok (.dastore, 1) := by decide +kernel
theorem dX9_shapeAnew_170 : decode cX9_shapeAnew 170 = .ok (.iinc 5 1, 3) := by decide +kernel
theorem dX9_shapeAnew_173 : decode cX9_shapeAnew 173 = .ok (.goto (-33), 3) := by decide +kernel
theorem dX9_shapeAnew_176 : decode cX9_shapeAnew 176 = .ok (.return_, 1) := by decide +kernel
theorem dX9_pairs_0 : decode cX9_pairs 0 = .ok (.aload_n 0, 1) := by decide +kernel
theorem dX9_pairs_1 : decode cX9_pairs 1 = .ok (.getfield 41, 3) := by decide +kernel
theorem dX9_pairs_4 : decode cX9_pairs 4 = .ok (.iload_n 2, 1) := by decide +kernel
theorem dX9_pairs_5 : decode cX9_pairs 5 = .ok (.iaload, 1) := by decide +kernel
theorem dX9_pairs_6 : decode cX9_pairs 6 = .ok (.istore_n 3, 1) := by decide +kernel
theorem dX9_pairs_7 : decode cX9_pairs 7 = .ok (.aload_n 0, 1) := by decide +kernel
theorem dX9_pairs_8 : decode cX9_pairs 8 = .ok (.getfield 116, 3) := by decide +kernel
theorem dX9_pairs_11 : decode cX9_pairs 11 = .ok (.iload_n 3, 1) := by decide +kernel
theorem dX9_pairs_12 : decode cX9_pairs 12 = .ok (.if_icmp .eq 20, 3) := by decide +kernel
theorem dX9_pairs_15 : decode cX9_pairs 15 = .ok (.aload_n 0, 1) := by decide +kernel
theorem dX9_pairs_16 : decode cX9_pairs 16 = .ok (.getfield 116, 3) := by decide +kernel
theorem dX9_pairs_19 : decode cX9_pairs 19 = .ok (.ifCond .eq 13, 3) := by decide +kernel
theorem dX9_pairs_22 : decode cX9_pairs 22 = .ok (.iload_n 3, 1) := by decide +kernel
theorem dX9_pairs_23 : decode cX9_pairs 23 = .ok (.ifCond .eq 9, 3) := by decide +kernel
theorem dX9_pairs_26 : decode cX9_pairs 26 = .ok (.aload_n 0, 1) := by decide +kernel
theorem dX9_pairs_27 : decode cX9_pairs 27 = .ok (.iconst 1, 1) := by decide +kernel
theorem dX9_pairs_28 : decode cX9_pairs 28 = .ok (.putfield 119, 3) := by decide +kernel
theorem dX9_pairs_31 : decode cX9_pairs 31 = .ok (.return_, 1) := by decide +kernel
theorem dX9_pairs_32 : decode cX9_pairs 32 = .ok (.aload_n 0, 1) := by decide +kernel
theorem dX9_pairs_33 : decode cX9_pairs 33 = .ok (.aload_n 0, 1) := by decide +kernel
theorem dX9_pairs_34 : decode cX9_pairs 34 = .ok (.getfield 116, 3) := by decide +kernel
theorem dX9_pairs_37 : decode cX9_pairs 37 = .ok (.ifCond .ne 7, 3) := by decide +kernel
theorem dX9_pairs_40 : decode cX9_pairs 40 = .ok (.iload_n 3, 1) := by decide +kernel
theorem dX9_pairs_41 : decode cX9_pairs 41 = .ok (.goto 7, 3) := by decide +kernel
theorem dX9_pairs_44 : decode cX9_pairs 44 = .ok (.aload_n 0, 1) := by decide +kernel
theorem dX9_pairs_45 : decode cX9_pairs 45 = .ok (.getfield 116, 3) := by decide +kernel
theorem dX9_pairs_48 : decode cX9_pairs 48 = .ok (.putfield 128, 3) := by decide +kernel
theorem dX9_pairs_51 : decode cX9_pairs 51 = .ok (.iconst 0, 1) := by decide +kernel
theorem dX9_pairs_52 : decode cX9_pairs 52 = .ok (.istore 4, 2) := by decide +kernel
theorem dX9_pairs_54 : decode cX9_pairs 54 = .ok (.iload 4, 2) := by decide +kernel
theorem dX9_pairs_56 : decode cX9_pairs 56 = .ok (.aload_n 0, 1) := by decide +kernel
theorem dX9_pairs_57 : decode cX9_pairs 57 = .ok (.getfield 128, 3) := by decide +kernel
theorem dX9_pairs_60 : decode cX9_pairs 60 = .ok (.invokestatic 70, 3) := by decide +kernel
theorem dX9_pairs_63 : decode cX9_pairs 63 = .ok (.if_icmp .ge 76, 3) := by decide +kernel
theorem dX9_pairs_66 : decode cX9_pairs 66 = .ok (.aload_n 0, 1) := by decide +kernel
theorem dX9_pairs_67 : decode cX9_pairs 67 = .ok (.getfield 106, 3) := by decide +kernel
theorem dX9_pairs_70 : decode cX9_pairs 70 = .ok (.ifCond .ne 69, 3) := by decide +kernel
theorem dX9_pairs_73 : decode cX9_pairs 73 = .ok (.aload_n 0, 1) := by decide +kernel
theorem dX9_pairs_74 : decode cX9_pairs 74 = .ok (.getfield 32, 3) := by decide +kernel
theorem dX9_pairs_77 : decode cX9_pairs 77 = .ok (.iload 4, 2) := by decide +kernel
theorem dX9_pairs_79 : decode cX9_pairs 79 = .ok (.iload_n 1, 1) := by decide +kernel
theorem dX9_pairs_80 : decode cX9_pairs 80 = .ok (.aload_n 0, 1) := by decide +kernel
theorem dX9_pairs_81 : decode cX9_pairs 81 = .ok (.getfield 35, 3) := by decide +kernel
theorem dX9_pairs_84 : decode cX9_pairs 84 = .ok (.aload_n 0, 1) := by decide +kernel
theorem dX9_pairs_85 : decode cX9_pairs 85 = .ok (.getfield 116, 3) := by decide +kernel
theorem dX9_pairs_88 : decode cX9_pairs 88 = .ok (.ifCond .ne 7, 3) := by decide +kernel
theorem dX9_pairs_91 : decode cX9_pairs 91 = .ok (.iconst 0, 1) := by decide +kernel
theorem dX9_pairs_92 : decode cX9_pairs 92 = .ok (.goto 5, 3) := by decide +kernel
theorem dX9_pairs_95 : decode cX9_pairs 95 = .ok (.iload 4, 2) := by decide +kernel
theorem dX9_pairs_97 : decode cX9_pairs 97 = .ok (.daload, 1) := by decide +kernel
theorem dX9_pairs_98 : decode cX9_pairs 98 = .ok (.aload_n 0, 1) := by decide +kernel
theorem dX9_pairs_99 : decode cX9_pairs 99 = .ok (.getfield 38, 3) := by decide +kernel
theorem dX9_pairs_102 : decode cX9_pairs 102 = .ok (.bipush 24, 2) := by decide +kernel
theorem dX9_pairs_104 : decode cX9_pairs 104 = .ok (.iload_n 2, 1) := by decide +kernel
theorem dX9_pairs_105 : decode cX9_pairs 105 = .ok (.imul, 1) := by decide +kernel
theorem dX9_pairs_106 : decode cX9_pairs 106 = .ok (.iload_n 3, 1) := by decide +kernel
theorem dX9_pairs_107 : decode cX9_pairs 107 = .ok (.ifCond .ne 7, 3) := by decide +kernel
theorem dX9_pairs_110 : decode cX9_pairs 110 = .ok (.iconst 0, 1) := by decide +kernel
theorem dX9_pairs_111 : decode cX9_pairs 111 = .ok (.goto 5, 3) := by decide +kernel
theorem dX9_pairs_114 : decode cX9_pairs 114 = .ok (.iload 4, 2) := by decide +kernel
theorem dX9_pairs_116 : decode cX9_pairs 116 = .ok (.iadd, 1) := by decide +kernel
theorem dX9_pairs_117 : decode cX9_pairs 117 = .ok (.daload, 1) := by decide +kernel
theorem dX9_pairs_118 : decode cX9_pairs 118 = .ok (.invokestatic 145, 3) := by decide +kernel
theorem dX9_pairs_121 : decode cX9_pairs 121 = .ok (.dastore, 1) := by decide +kernel
theorem dX9_pairs_122 : decode cX9_pairs 122 = .ok (.aload_n 0, 1) := by decide +kernel
theorem dX9_pairs_123 : decode cX9_pairs 123 = .ok (.aload_n 0, 1) := by decide +kernel
theorem dX9_pairs_124 : decode cX9_pairs 124 = .ok (.getfield 32, 3) := by decide +kernel
theorem dX9_pairs_127 : decode cX9_pairs 127 = .ok (.iload 4, 2) := by decide +kernel
theorem dX9_pairs_129 : decode cX9_pairs 129 = .ok (.daload, 1) := by decide +kernel
theorem dX9_pairs_130 : decode cX9_pairs 130 = .ok (.invokevirtual 149, 3) := by decide +kernel
theorem dX9_pairs_133 : decode cX9_pairs 133 = .ok (.iinc 4 1, 3) := by decide +kernel
theorem dX9_pairs_136 : decode cX9_pairs 136 = .ok (.goto (-82), 3) := by decide +kernel
theorem dX9_pairs_139 : decode cX9_pairs 139 = .ok (.return_, 1) := by decide +kernel
theorem dX9_front_0 : decode cX9_front 0 = .ok (.aload_n 0, 1) := by decide +kernel
theorem dX9_front_1 : decode cX9_front 1 = .ok (.getfield 20, 3) := by decide +kernel
theorem dX9_front_4 : decode cX9_front 4 = .ok (.iload_n 1, 1) := by decide +kernel
theorem dX9_front_5 : decode cX9_front 5 = .ok (.iaload, 1) := by decide +kernel
theorem dX9_front_6 : decode cX9_front 6 = .ok (.istore_n 2, 1) := by decide +kernel
theorem dX9_front_7 : decode cX9_front 7 = .ok (.aload_n 0, 1) := by decide +kernel
theorem dX9_front_8 : decode cX9_front 8 = .ok (.iconst 0, 1) := by decide +kernel
theorem dX9_front_9 : decode cX9_front 9 = .ok (.putfield 122, 3) := by decide +kernel
theorem dX9_front_12 : decode cX9_front 12 = .ok (.aload_n 0, 1) := by decide +kernel
theorem dX9_front_13 : decode cX9_front 13 = .ok (.iload_n 2, 1) := by decide +kernel
theorem dX9_front_14 : decode cX9_front 14 = .ok (.bipush 7, 2) := by decide +kernel
theorem dX9_front_16 : decode cX9_front 16 = .ok (.if_icmp .ne 14, 3) := by decide +kernel
theorem dX9_front_19 : decode cX9_front 19 = .ok (.aload_n 0, 1) := by decide +kernel
theorem dX9_front_20 : decode cX9_front 20 = .ok (.getfield 23, 3) := by decide +kernel
theorem dX9_front_23 : decode cX9_front 23 = .ok (.iload_n 1, 1) := by decide +kernel
theorem dX9_front_24 : decode cX9_front 24 = .ok (.iaload, 1) := by decide +kernel
theorem dX9_front_25 : decode cX9_front 25 = .ok (.bipush 126, 2) := by decide +kernel
theorem dX9_front_27 : decode cX9_front 27 = .ok (.if_icmp .ne 7, 3) := by decide +kernel
theorem dX9_front_30 : decode cX9_front 30 = .ok (.iconst 1, 1) := by decide +kernel
theorem dX9_front_31 : decode cX9_front 31 = .ok (.goto 4, 3) := by decide +kernel
theorem dX9_front_34 : decode cX9_front 34 = .ok (.iconst 0, 1) := by decide +kernel
theorem dX9_front_35 : decode cX9_front 35 = .ok (.putfield 125, 3) := by decide +kernel
theorem dX9_front_38 : decode cX9_front 38 = .ok (.aload_n 0, 1) := by decide +kernel
theorem dX9_front_39 : decode cX9_front 39 = .ok (.getfield 125, 3) := by decide +kernel
theorem dX9_front_42 : decode cX9_front 42 = .ok (.ifCond .eq 13, 3) := by decide +kernel
theorem dX9_front_45 : decode cX9_front 45 = .ok (.aload_n 0, 1) := by decide +kernel
theorem dX9_front_46 : decode cX9_front 46 = .ok (.dup, 1) := by decide +kernel
theorem dX9_front_47 : decode cX9_front 47 = .ok (.getfield 142, 3) := by decide +kernel
theorem dX9_front_50 : decode cX9_front 50 = .ok (.iconst 1, 1) := by decide +kernel
theorem dX9_front_51 : decode cX9_front 51 = .ok (.iadd, 1) := by decide +kernel
theorem dX9_front_52 : decode cX9_front 52 = .ok (.putfield 142, 3) := by decide +kernel
theorem dX9_front_55 : decode cX9_front 55 = .ok (.aload_n 0, 1) := by decide +kernel
theorem dX9_front_56 : decode cX9_front 56 = .ok (.getfield 128, 3) := by decide +kernel
theorem dX9_front_59 : decode cX9_front 59 = .ok (.invokestatic 70, 3) := by decide +kernel
theorem dX9_front_62 : decode cX9_front 62 = .ok (.istore_n 3, 1) := by decide +kernel
theorem dX9_front_63 : decode cX9_front 63 = .ok (.iload_n 2, 1) := by decide +kernel
theorem dX9_front_64 : decode cX9_front 64 = .ok (.bipush 7, 2) := by decide +kernel
theorem dX9_front_66 : decode cX9_front 66 = .ok (.if_icmp .ne 47, 3) := by decide +kernel
theorem dX9_front_69 : decode cX9_front 69 = .ok (.aload_n 0, 1) := by decide +kernel
theorem dX9_front_70 : decode cX9_front 70 = .ok (.getfield 23, 3) := by decide +kernel
theorem dX9_front_73 : decode cX9_front 73 = .ok (.iload_n 1, 1) := by decide +kernel
theorem dX9_front_74 : decode cX9_front 74 = .ok (.iaload, 1) := by decide +kernel
theorem dX9_front_75 : decode cX9_front 75 = .ok (.bipush 45, 2) := by decide +kernel
theorem dX9_front_77 : decode cX9_front 77 = .ok (.if_icmp .ne 36, 3) := by decide +kernel
theorem dX9_front_80 : decode cX9_front 80 = .ok (.iconst 0, 1) := by decide +kernel
theorem dX9_front_81 : decode cX9_front 81 = .ok (.istore 4, 2) := by decide +kernel
theorem dX9_front_83 : decode cX9_front 83 = .ok (.iload 4, 2) := by decide +kernel
theorem dX9_front_85 : decode cX9_front 85 = .ok (.iload_n 3, 1) := by decide +kernel
theorem dX9_front_86 : decode cX9_front 86 = .ok (.if_icmp .ge 24, 3) := by decide +kernel
theorem dX9_front_89 : decode cX9_front 89 = .ok (.aload_n 0, 1) := by decide +kernel
theorem dX9_front_90 : decode cX9_front 90 = .ok (.getfield 32, 3) := by decide +kernel
theorem dX9_front_93 : decode cX9_front 93 = .ok (.iload 4, 2) := by decide +kernel
theorem dX9_front_95 : decode cX9_front 95 = .ok (.aload_n 0, 1) := by decide +kernel
theorem dX9_front_96 : decode cX9_front 96 = .ok (.getfield 32, 3) := by decide +kernel
theorem dX9_front_99 : decode cX9_front 99 = .ok (.iload 4, 2) := by decide +kernel
theorem dX9_front_101 : decode cX9_front 101 = .ok (.daload, 1) := by decide +kernel
theorem dX9_front_102 : decode cX9_front 102 = .ok (.dneg, 1) := by decide +kernel
theorem dX9_front_103 : decode cX9_front 103 = .ok (.dastore, 1) := by decide +kernel
theorem dX9_front_104 : decode cX9_front 104 = .ok (.iinc 4 1, 3) := by decide +kernel
theorem dX9_front_107 : decode cX9_front 107 = .ok (.goto (-24), 3) := by decide +kernel
theorem dX9_front_110 : decode cX9_front 110 = .ok (.goto 37, 3) := by decide +kernel
theorem dX9_front_113 : decode cX9_front 113 = .ok (.iload_n 2, 1) := by decide +kernel
theorem dX9_front_114 : decode cX9_front 114 = .ok (.bipush 7, 2) := by decide +kernel
theorem dX9_front_116 : decode cX9_front 116 = .ok (.if_icmp .ne 10, 3) := by decide +kernel
theorem dX9_front_119 : decode cX9_front 119 = .ok (.aload_n 0, 1) := by decide +kernel
theorem dX9_front_120 : decode cX9_front 120 = .ok (.invokevirtual 153, 3) := by decide +kernel
theorem dX9_front_123 : decode cX9_front 123 = .ok (.goto 24, 3) := by decide +kernel
theorem dX9_front_126 : decode cX9_front 126 = .ok (.aload_n 0, 1) := by decide +kernel
theorem dX9_front_127 : decode cX9_front 127 = .ok (.aload_n 0, 1) := by decide +kernel
theorem dX9_front_128 : decode cX9_front 128 = .ok (.getfield 23, 3) := by decide +kernel
theorem dX9_front_131 : decode cX9_front 131 = .ok (.iload_n 1, 1) := by decide +kernel
theorem dX9_front_132 : decode cX9_front 132 = .ok (.iaload, 1) := by decide +kernel
theorem dX9_front_133 : decode cX9_front 133 = .ok (.iload_n 2, 1) := by decide +kernel
theorem dX9_front_134 : decode cX9_front 134 = .ok (.bipush 8, 2) := by decide +kernel
theorem dX9_front_136 : decode cX9_front 136 = .ok (.if_icmp .ne 7, 3) := by decide +kernel
theorem dX9_front_139 : decode cX9_front 139 = .ok (.iconst 1, 1) := by decide +kernel
theorem dX9_front_140 : decode cX9_front 140 = .ok (.goto 4, 3) := by decide +kernel
theorem dX9_front_143 : decode cX9_front 143 = .ok (.iconst 0, 1) := by decide +kernel
theorem dX9_front_144 : decode cX9_front 144 = .ok (.invokevirtual 156, 3) := by decide +kernel
theorem dX9_front_147 : decode cX9_front 147 = .ok (.return_, 1) := by decide +kernel
theorem dX9_turn_0 : decode cX9_turn 0 = .ok (.aload_n 0, 1) := by decide +kernel
theorem dX9_turn_1 : decode cX9_turn 1 = .ok (.getfield 128, 3) := by decide +kernel
theorem dX9_turn_4 : decode cX9_turn 4 = .ok (.bipush 32, 2) := by decide +kernel
theorem dX9_turn_6 : decode cX9_turn 6 = .ok (.if_icmp .ge 4, 3) := by decide +kernel
theorem dX9_turn_9 : decode cX9_turn 9 = .ok (.return_, 1) := by decide +kernel
theorem dX9_turn_10 : decode cX9_turn 10 = .ok (.aload_n 0, 1) := by decide +kernel
theorem dX9_turn_11 : decode cX9_turn 11 = .ok (.getfield 128, 3) := by decide +kernel
theorem dX9_turn_14 : decode cX9_turn 14 = .ok (.bipush 32, 2) := by decide +kernel
theorem dX9_turn_16 : decode cX9_turn 16 = .ok (.idiv, 1) := by decide +kernel
theorem dX9_turn_17 : decode cX9_turn 17 = .ok (.istore_n 1, 1) := by decide +kernel
theorem dX9_turn_18 : decode cX9_turn 18 = .ok (.aload_n 0, 1) := by decide +kernel
theorem dX9_turn_19 : decode cX9_turn 19 = .ok (.getfield 128, 3) := by decide +kernel
theorem dX9_turn_22 : decode cX9_turn 22 = .ok (.bipush 32, 2) := by decide +kernel
theorem dX9_turn_24 : decode cX9_turn 24 = .ok (.irem, 1) := by decide +kernel
theorem dX9_turn_25 : decode cX9_turn 25 = .ok (.istore_n 2, 1) := by decide +kernel
theorem dX9_turn_26 : decode cX9_turn 26 = .ok (.iconst 0, 1) := by decide +kernel
theorem dX9_turn_27 : decode cX9_turn 27 = .ok (.istore_n 3, 1) := by decide +kernel
theorem dX9_turn_28 : decode cX9_turn 28 = .ok (.iload_n 3, 1) := by decide +kernel
theorem dX9_turn_29 : decode cX9_turn 29 = .ok (.bipush 24, 2) := by decide +kernel
theorem dX9_turn_31 : decode cX9_turn 31 = .ok (.if_icmp .ge 21, 3) := by decide +kernel
theorem dX9_turn_34 : decode cX9_turn 34 = .ok (.aload_n 0, 1) := by decide +kernel
theorem dX9_turn_35 : decode cX9_turn 35 = .ok (.getfield 35, 3) := by decide +kernel
theorem dX9_turn_38 : decode cX9_turn 38 = .ok (.iload_n 3, 1) := by decide +kernel
theorem dX9_turn_39 : decode cX9_turn 39 = .ok (.aload_n 0, 1) := by decide +kernel
theorem dX9_turn_40 : decode cX9_turn 40 = .ok (.getfield 32, 3) := by decide +kernel
theorem dX9_turn_43 : decode cX9_turn 43 = .ok (.iload_n 3, 1) := by decide +kernel
theorem dX9_turn_44 : decode cX9_turn 44 = .ok (.daload, 1) := by decide +kernel
theorem dX9_turn_45 : decode cX9_turn 45 = .ok (.dastore, 1) := by decide +kernel
theorem dX9_turn_46 : decode cX9_turn 46 = .ok (.iinc 3 1, 3) := by decide +kernel
theorem dX9_turn_49 : decode cX9_turn 49 = .ok (.goto (-21), 3) := by decide +kernel
theorem dX9_turn_52 : decode cX9_turn 52 = .ok (.iconst 0, 1) := by decide +kernel
theorem dX9_turn_53 : decode cX9_turn 53 = .ok (.istore_n 3, 1) := by decide +kernel
theorem dX9_turn_54 : decode cX9_turn 54 = .ok (.iload_n 3, 1) := by decide +kernel
theorem dX9_turn_55 : decode cX9_turn 55 = .ok (.iload_n 1, 1) := by decide +kernel
theorem dX9_turn_56 : decode cX9_turn 56 = .ok (.iload_n 2, 1) := by decide +kernel
theorem dX9_turn_57 : decode cX9_turn 57 = .ok (.imul, 1) := by decide +kernel
theorem dX9_turn_58 : decode cX9_turn 58 = .ok (.if_icmp .ge 29, 3) := by decide +kernel
theorem dX9_turn_61 : decode cX9_turn 61 = .ok (.aload_n 0, 1) := by decide +kernel
theorem dX9_turn_62 : decode cX9_turn 62 = .ok (.getfield 32, 3) := by decide +kernel
theorem dX9_turn_65 : decode cX9_turn 65 = .ok (.iload_n 3, 1) := by decide +kernel
theorem dX9_turn_66 : decode cX9_turn 66 = .ok (.aload_n 0, 1) := by decide +kernel
theorem dX9_turn_67 : decode cX9_turn 67 = .ok (.getfield 35, 3) := by decide +kernel
theorem dX9_turn_70 : decode cX9_turn 70 = .ok (.iload_n 3, 1) := by decide +kernel
theorem dX9_turn_71 : decode cX9_turn 71 = .ok (.iload_n 1, 1) := by decide +kernel
theorem dX9_turn_72 : decode cX9_turn 72 = .ok (.irem, 1) := by decide +kernel
theorem dX9_turn_73 : decode cX9_turn 73 = .ok (.iload_n 2, 1) := by decide +kernel
theorem dX9_turn_74 : decode cX9_turn 74 = .ok (.imul, 1) := by decide +kernel
theorem dX9_turn_75 : decode cX9_turn 75 = .ok (.iload_n 3, 1) := by decide +kernel
theorem dX9_turn_76 : decode cX9_turn 76 = .ok (.iload_n 1, 1) := by decide +kernel
theorem dX9_turn_77 : decode cX9_turn 77 = .ok (.idiv, 1) := by decide +kernel
theorem dX9_turn_78 : decode cX9_turn 78 = .ok (.iadd, 1) := by decide +kernel
theorem dX9_turn_79 : decode cX9_turn 79 = .ok (.daload, 1) := by decide +kernel
theorem dX9_turn_80 : decode cX9_turn 80 = .ok (.dastore, 1) := by decide +kernel
theorem dX9_turn_81 : decode cX9_turn 81 = .ok (.iinc 3 1, 3) := by decide +kernel
theorem dX9_turn_84 : decode cX9_turn 84 = .ok (.goto (-30), 3) := by decide +kernel
theorem dX9_turn_87 : decode cX9_turn 87 = .ok (.aload_n 0, 1) := by decide +kernel
theorem dX9_turn_88 : decode cX9_turn 88 = .ok (.bipush 32, 2) := by decide +kernel
theorem dX9_turn_90 : decode cX9_turn 90 = .ok (.iload_n 2, 1) := by decide +kernel
theorem dX9_turn_91 : decode cX9_turn 91 = .ok (.imul, 1) := by decide +kernel
theorem dX9_turn_92 : decode cX9_turn 92 = .ok (.iload_n 1, 1) := by decide +kernel
theorem dX9_turn_93 : decode cX9_turn 93 = .ok (.iadd, 1) := by decide +kernel
theorem dX9_turn_94 : decode cX9_turn 94 = .ok (.putfield 128, 3) := by decide +kernel
theorem dX9_turn_97 : decode cX9_turn 97 = .ok (.return_, 1) := by decide +kernel
theorem dX9_along_0 : decode cX9_along 0 = .ok (.aload_n 0, 1) := by decide +kernel
theorem dX9_along_1 : decode cX9_along 1 = .ok (.getfield 128, 3) := by decide +kernel
theorem dX9_along_4 : decode cX9_along 4 = .ok (.ifCond .ne 4, 3) := by decide +kernel
theorem dX9_along_7 : decode cX9_along 7 = .ok (.return_, 1) := by decide +kernel
theorem dX9_along_8 : decode cX9_along 8 = .ok (.aload_n 0, 1) := by decide +kernel
theorem dX9_along_9 : decode cX9_along 9 = .ok (.getfield 128, 3) := by decide +kernel
theorem dX9_along_12 : decode cX9_along 12 = .ok (.bipush 32, 2) := by decide +kernel
theorem dX9_along_14 : decode cX9_along 14 = .ok (.if_icmp .ge 7, 3) := by decide +kernel
theorem dX9_along_17 : decode cX9_along 17 = .ok (.iconst 1, 1) := by decide +kernel
theorem dX9_along_18 : decode cX9_along 18 = .ok (.goto 10, 3) := by decide +kernel
theorem dX9_along_21 : decode cX9_along 21 = .ok (.aload_n 0, 1) := by decide +kernel
theorem dX9_along_22 : decode cX9_along 22 = .ok (.getfield 128, 3) := by decide +kernel
theorem dX9_along_25 : decode cX9_along 25 = .ok (.bipush 32, 2) := by decide +kernel
theorem dX9_along_27 : decode cX9_along 27 = .ok (.idiv, 1) := by decide +kernel
theorem dX9_along_28 : decode cX9_along 28 = .ok (.istore_n 3, 1) := by decide +kernel
theorem dX9_along_29 : decode cX9_along 29 = .ok (.aload_n 0, 1) := by decide +kernel
theorem dX9_along_30 : decode cX9_along 30 = .ok (.getfield 128, 3) := by decide +kernel
theorem dX9_along_33 : decode cX9_along 33 = .ok (.bipush 32, 2) := by decide +kernel
theorem dX9_along_35 : decode cX9_along 35 = .ok (.if_icmp .ge 10, 3) := by decide +kernel
theorem dX9_along_38 : decode cX9_along 38 = .ok (.aload_n 0, 1) := by decide +kernel
theorem dX9_along_39 : decode cX9_along 39 = .ok (.getfield 128, 3) := by decide +kernel
theorem dX9_along_42 : decode cX9_along 42 = .ok (.goto 10, 3) := by decide +kernel
theorem dX9_along_45 : decode cX9_along 45 = .ok (.aload_n 0, 1) := by decide +kernel
theorem dX9_along_46 : decode cX9_along 46 = .ok (.getfield 128, 3) := by decide +kernel
theorem dX9_along_49 : decode cX9_along 49 = .ok (.bipush 32, 2) := by decide +kernel
theorem dX9_along_51 : decode cX9_along 51 = .ok (.irem, 1) := by decide +kernel
theorem dX9_along_52 : decode cX9_along 52 = .ok (.istore 4, 2) := by decide +kernel
theorem dX9_along_54 : decode cX9_along 54 = .ok (.iconst 0, 1) := by decide +kernel
theorem dX9_along_55 : decode cX9_along 55 = .ok (.istore 5, 2) := by decide +kernel
theorem dX9_along_57 : decode cX9_along 57 = .ok (.iload 5, 2) := by decide +kernel
theorem dX9_along_59 : decode cX9_along 59 = .ok (.iload_n 3, 1) := by decide +kernel
theorem dX9_along_60 : decode cX9_along 60 = .ok (.iload 4, 2) := by decide +kernel
theorem dX9_along_62 : decode cX9_along 62 = .ok (.imul, 1) := by decide +kernel
theorem dX9_along_63 : decode cX9_along 63 = .ok (.if_icmp .ge 62, 3) := by decide +kernel
theorem dX9_along_66 : decode cX9_along 66 = .ok (.aload_n 0, 1) := by decide +kernel
theorem dX9_along_67 : decode cX9_along 67 = .ok (.getfield 106, 3) := by decide +kernel
theorem dX9_along_70 : decode cX9_along 70 = .ok (.ifCond .ne 55, 3) := by decide +kernel
theorem dX9_along_73 : decode cX9_along 73 = .ok (.iload 5, 2) := by decide +kernel
theorem dX9_along_75 : decode cX9_along 75 = .ok (.iload 4, 2) := by decide +kernel
theorem dX9_along_77 : decode cX9_along 77 = .ok (.irem, 1) := by decide +kernel
theorem dX9_along_78 : decode cX9_along 78 = .ok (.ifCond .le 30, 3) := by decide +kernel
theorem dX9_along_81 : decode cX9_along 81 = .ok (.aload_n 0, 1) := by decide +kernel
theorem dX9_along_82 : decode cX9_along 82 = .ok (.getfield 32, 3) := by decide +kernel
theorem dX9_along_85 : decode cX9_along 85 = .ok (.iload 5, 2) := by decide +kernel
theorem dX9_along_87 : decode cX9_along 87 = .ok (.iload_n 1, 1) := by decide +kernel
theorem dX9_along_88 : decode cX9_along 88 = .ok (.aload_n 0, 1) := by decide +kernel
theorem dX9_along_89 : decode cX9_along 89 = .ok (.getfield 32, 3) := by decide +kernel
theorem dX9_along_92 : decode cX9_along 92 = .ok (.iload 5, 2) := by decide +kernel
theorem dX9_along_94 : decode cX9_along 94 = .ok (.iconst 1, 1) := by decide +kernel
theorem dX9_along_95 : decode cX9_along 95 = .ok (.isub, 1) := by decide +kernel
theorem dX9_along_96 : decode cX9_along 96 = .ok (.daload, 1) := by decide +kernel
theorem dX9_along_97 : decode cX9_along 97 = .ok (.aload_n 0, 1) := by decide +kernel
theorem dX9_along_98 : decode cX9_along 98 = .ok (.getfield 32, 3) := by decide +kernel
theorem dX9_along_101 : decode cX9_along 101 = .ok (.iload 5, 2) := by decide +kernel
theorem dX9_along_103 : decode cX9_along 103 = .ok (.daload, 1) := by decide +kernel
theorem dX9_along_104 : decode cX9_along 104 = .ok (.invokestatic 145, 3) := by decide +kernel
theorem dX9_along_107 : decode cX9_along 107 = .ok (.dastore, 1) := by decide +kernel
theorem dX9_along_108 : decode cX9_along 108 = .ok (.aload_n 0, 1) := by decide +kernel
theorem dX9_along_109 : decode cX9_along 109 = .ok (.aload_n 0, 1) := by decide +kernel
theorem dX9_along_110 : decode cX9_along 110 = .ok (.getfield 32, 3) := by decide +kernel
theorem dX9_along_113 : decode cX9_along 113 = .ok (.iload 5, 2) := by decide +kernel
theorem dX9_along_115 : decode cX9_along 115 = .ok (.daload, 1) := by decide +kernel
theorem dX9_along_116 : decode cX9_along 116 = .ok (.invokevirtual 149, 3) := by decide +kernel
theorem dX9_along_119 : decode cX9_along 119 = .ok (.iinc 5 1, 3) := by decide +kernel
theorem dX9_along_122 : decode cX9_along 122 = .ok (.goto (-65), 3) := by decide +kernel
theorem dX9_along_125 : decode cX9_along 125 = .ok (.iload_n 2, 1) := by decide +kernel
theorem dX9_along_126 : decode cX9_along 126 = .ok (.ifCond .ne 4, 3) := by decide +kernel
theorem dX9_along_129 : decode cX9_along 129 = .ok (.return_, 1) := by decide +kernel
theorem dX9_along_130 : decode cX9_along 130 = .ok (.iconst 0, 1) := by decide +kernel
theorem dX9_along_131 : decode cX9_along 131 = .ok (.istore 5, 2) := by decide +kernel
theorem dX9_along_133 : decode cX9_along 133 = .ok (.iload 5, 2) := by decide +kernel
theorem dX9_along_135 : decode cX9_along 135 = .ok (.iload_n 3, 1) := by decide +kernel
theorem dX9_along_136 : decode cX9_along 136 = .ok (.if_icmp .ge 31, 3) := by decide +kernel
theorem dX9_along_139 : decode cX9_along 139 = .ok (.aload_n 0, 1) := by decide +kernel
theorem dX9_along_140 : decode cX9_along 140 = .ok (.getfield 32, 3) := by decide +kernel
theorem dX9_along_143 : decode cX9_along 143 = .ok (.iload 5, 2) := by decide +kernel
theorem dX9_along_145 : decode cX9_along 145 = .ok (.aload_n 0, 1) := by decide +kernel
theorem dX9_along_146 : decode cX9_along 146 = .ok (.getfield 32, 3) := by decide +kernel
theorem dX9_along_149 : decode cX9_along 149 = .ok (.iload 4, 2) := by decide +kernel
theorem dX9_along_151 : decode cX9_along 151 = .ok (.iload 5, 2) := by decide +kernel
theorem dX9_along_153 : decode cX9_along 153 = .ok (.imul, 1) := by decide +kernel
theorem dX9_along_154 : decode cX9_along 154 = .ok (.iload 4, 2) := by decide +kernel
theorem dX9_along_156 : decode cX9_along 156 = .ok (.iadd, 1) := by decide +kernel
theorem dX9_along_157 : decode cX9_along 157 = .ok (.iconst 1, 1) := by decide +kernel
theorem dX9_along_158 : decode cX9_along 158 = .ok (.isub, 1) := by decide +kernel
theorem dX9_along_159 : decode cX9_along 159 = .ok (.daload, 1) := by decide +kernel
theorem dX9_along_160 : decode cX9_along 160 = .ok (.dastore, 1) := by decide +kernel
theorem dX9_along_161 : decode cX9_along 161 = .ok (.iinc 5 1, 3) := by decide +kernel
theorem dX9_along_164 : decode cX9_along 164 = .ok (.goto (-31), 3) := by decide +kernel
theorem dX9_along_167 : decode cX9_along 167 = .ok (.aload_n 0, 1) := by decide +kernel
theorem dX9_along_168 : decode cX9_along 168 = .ok (.aload_n 0, 1) := by decide +kernel
theorem dX9_along_169 : decode cX9_along 169 = .ok (.getfield 128, 3) := by decide +kernel
theorem dX9_along_172 : decode cX9_along 172 = .ok (.bipush 32, 2) := by decide +kernel
theorem dX9_along_174 : decode cX9_along 174 = .ok (.if_icmp .ge 7, 3) := by decide +kernel
theorem dX9_along_177 : decode cX9_along 177 = .ok (.iconst 0, 1) := by decide +kernel
theorem dX9_along_178 : decode cX9_along 178 = .ok (.goto 4, 3) := by decide +kernel
theorem dX9_along_181 : decode cX9_along 181 = .ok (.iload_n 3, 1) := by decide +kernel
theorem dX9_along_182 : decode cX9_along 182 = .ok (.putfield 128, 3) := by decide +kernel
theorem dX9_along_185 : decode cX9_along 185 = .ok (.return_, 1) := by decide +kernel
theorem dX9_work_0 : decode cX9_work 0 = .ok (.aload_n 0, 1) := by decide +kernel
theorem dX9_work_1 : decode cX9_work 1 = .ok (.invokevirtual 160, 3) := by decide +kernel
theorem dX9_work_4 : decode cX9_work 4 = .ok (.ifCond .ne 5, 3) := by decide +kernel
theorem dX9_work_7 : decode cX9_work 7 = .ok (.iconst 1, 1) := by decide +kernel
theorem dX9_work_8 : decode cX9_work 8 = .ok (.ireturn, 1) := by decide +kernel
theorem dX9_work_9 : decode cX9_work 9 = .ok (.iconst 0, 1) := by decide +kernel
theorem dX9_work_10 : decode cX9_work 10 = .ok (.istore_n 1, 1) := by decide +kernel
theorem dX9_work_11 : decode cX9_work 11 = .ok (.aload_n 0, 1) := by decide +kernel
theorem dX9_work_12 : decode cX9_work 12 = .ok (.iconst 0, 1) := by decide +kernel
theorem dX9_work_13 : decode cX9_work 13 = .ok (.putfield 142, 3) := by decide +kernel
theorem dX9_work_16 : decode cX9_work 16 = .ok (.aload_n 0, 1) := by decide +kernel
theorem dX9_work_17 : decode cX9_work 17 = .ok (.iconst 0, 1) := by decide +kernel
theorem dX9_work_18 : decode cX9_work 18 = .ok (.putfield 119, 3) := by decide +kernel
theorem dX9_work_21 : decode cX9_work 21 = .ok (.aload_n 0, 1) := by decide +kernel
theorem dX9_work_22 : decode cX9_work 22 = .ok (.iconst 0, 1) := by decide +kernel
theorem dX9_work_23 : decode cX9_work 23 = .ok (.putfield 106, 3) := by decide +kernel
theorem dX9_work_26 : decode cX9_work 26 = .ok (.aload_n 0, 1) := by decide +kernel
theorem dX9_work_27 : decode cX9_work 27 = .ok (.getfield 44, 3) := by decide +kernel
theorem dX9_work_30 : decode cX9_work 30 = .ok (.iconst 0, 1) := by decide +kernel
theorem dX9_work_31 : decode cX9_work 31 = .ok (.iconst 0, 1) := by decide +kernel
theorem dX9_work_32 : decode cX9_work 32 = .ok (.iastore, 1) := by decide +kernel
theorem dX9_work_33 : decode cX9_work 33 = .ok (.aload_n 0, 1) := by decide +kernel
theorem dX9_work_34 : decode cX9_work 34 = .ok (.getfield 78, 3) := by decide +kernel
theorem dX9_work_37 : decode cX9_work 37 = .ok (.iconst 1, 1) := by decide +kernel
theorem dX9_work_38 : decode cX9_work 38 = .ok (.isub, 1) := by decide +kernel
theorem dX9_work_39 : decode cX9_work 39 = .ok (.istore_n 2, 1) := by decide +kernel
theorem dX9_work_40 : decode cX9_work 40 = .ok (.iload_n 2, 1) := by decide +kernel
theorem dX9_work_41 : decode cX9_work 41 = .ok (.ifCond .lt 203, 3) := by decide +kernel
theorem dX9_work_44 : decode cX9_work 44 = .ok (.aload_n 0, 1) := by decide +kernel
theorem dX9_work_45 : decode cX9_work 45 = .ok (.getfield 119, 3) := by decide +kernel
theorem dX9_work_48 : decode cX9_work 48 = .ok (.ifCond .ne 196, 3) := by decide +kernel
theorem dX9_work_51 : decode cX9_work 51 = .ok (.aload_n 0, 1) := by decide +kernel
theorem dX9_work_52 : decode cX9_work 52 = .ok (.getfield 20, 3) := by decide +kernel
theorem dX9_work_55 : decode cX9_work 55 = .ok (.iload_n 2, 1) := by decide +kernel
theorem dX9_work_56 : decode cX9_work 56 = .ok (.iaload, 1) := by decide +kernel
theorem dX9_work_57 : decode cX9_work 57 = .ok (.istore_n 3, 1) := by decide +kernel
theorem dX9_work_58 : decode cX9_work 58 = .ok (.iload_n 3, 1) := by decide +kernel
theorem dX9_work_59 : decode cX9_work 59 = .ok (.iconst 5, 1) := by decide +kernel
theorem dX9_work_60 : decode cX9_work 60 = .ok (.if_icmp .ne 16, 3) := by decide +kernel
theorem dX9_work_63 : decode cX9_work 63 = .ok (.iinc 1 1, 3) := by decide +kernel
theorem dX9_work_66 : decode cX9_work 66 = .ok (.aload_n 0, 1) := by decide +kernel
theorem dX9_work_67 : decode cX9_work 67 = .ok (.getfield 44, 3) := by decide +kernel
theorem dX9_work_70 : decode cX9_work 70 = .ok (.iload_n 1, 1) := by decide +kernel
theorem dX9_work_71 : decode cX9_work 71 = .ok (.iconst 0, 1) := by decide +kernel
theorem dX9_work_72 : decode cX9_work 72 = .ok (.iastore, 1) := by decide +kernel
theorem dX9_work_73 : decode cX9_work 73 = .ok (.goto 165, 3) := by decide +kernel
theorem dX9_work_76 : decode cX9_work 76 = .ok (.iload_n 3, 1) := by decide +kernel
theorem dX9_work_77 : decode cX9_work 77 = .ok (.bipush 6, 2) := by decide +kernel
theorem dX9_work_79 : decode cX9_work 79 = .ok (.if_icmp .ne 63, 3) := by decide +kernel
theorem dX9_work_82 : decode cX9_work 82 = .ok (.aload_n 0, 1) := by decide +kernel
theorem dX9_work_83 : decode cX9_work 83 = .ok (.getfield 44, 3) := by decide +kernel
theorem dX9_work_86 : decode cX9_work 86 = .ok (.iload_n 1, 1) := by decide +kernel
theorem dX9_work_87 : decode cX9_work 87 = .ok (.aload_n 0, 1) := by decide +kernel
theorem dX9_work_88 : decode cX9_work 88 = .ok (.getfield 23, 3) := by decide +kernel
theorem dX9_work_91 : decode cX9_work 91 = .ok (.iload_n 2, 1) := by decide +kernel
theorem dX9_work_92 : decode cX9_work 92 = .ok (.iaload, 1) := by decide +kernel
theorem dX9_work_93 : decode cX9_work 93 = .ok (.iastore, 1) := by decide +kernel
theorem dX9_work_94 : decode cX9_work 94 = .ok (.aload_n 0, 1) := by decide +kernel
theorem dX9_work_95 : decode cX9_work 95 = .ok (.getfield 41, 3) := by decide +kernel
theorem dX9_work_98 : decode cX9_work 98 = .ok (.iload_n 1, 1) := by decide +kernel
theorem dX9_work_99 : decode cX9_work 99 = .ok (.aload_n 0, 1) := by decide +kernel
theorem dX9_work_100 : decode cX9_work 100 = .ok (.getfield 128, 3) := by decide +kernel
theorem dX9_work_103 : decode cX9_work 103 = .ok (.iastore, 1) := by decide +kernel
theorem dX9_work_104 : decode cX9_work 104 = .ok (.iconst 0, 1) := by decide +kernel
theorem dX9_work_105 : decode cX9_work 105 = .ok (.istore 4, 2) := by decide +kernel
theorem dX9_work_107 : decode cX9_work 107 = .ok (.iload 4, 2) := by decide +kernel
theorem dX9_work_109 : decode cX9_work 109 = .ok (.bipush 24, 2) := by decide +kernel
theorem dX9_work_111 : decode cX9_work 111 = .ok (.if_icmp .ge 28, 3) := by decide +kernel
theorem dX9_work_114 : decode cX9_work 114 = .ok (.aload_n 0, 1) := by decide +kernel
theorem dX9_work_115 : decode cX9_work 115 = .ok (.getfield 38, 3) := by decide +kernel
theorem dX9_work_118 : decode cX9_work 118 = .ok (.bipush 24, 2) := by decide +kernel
theorem dX9_work_120 : decode cX9_work 120 = .ok (.iload_n 1, 1) := by decide +kernel
theorem dX9_work_121 : decode cX9_work 121 = .ok (.imul, 1) := by decide +kernel
theorem dX9_work_122 : decode cX9_work 122 = .ok (.iload 4, 2) := by decide +kernel
theorem dX9_work_124 : decode cX9_work 124 = .ok (.iadd, 1) := by decide +kernel
theorem dX9_work_125 : decode cX9_work 125 = .ok (.aload_n 0, 1) := by decide +kernel
theorem dX9_work_126 : decode cX9_work 126 = .ok (.getfield 32, 3) := by decide +kernel
theorem dX9_work_129 : decode cX9_work 129 = .ok (.iload 4, 2) := by decide +kernel
theorem dX9_work_131 : decode cX9_work 131 = .ok (.daload, 1) := by decide +kernel
theorem dX9_work_132 : decode cX9_work 132 = .ok (.dastore, 1) := by decide +kernel
theorem dX9_work_133 : decode cX9_work 133 = .ok (.iinc 4 1, 3) := by decide +kernel
theorem dX9_work_136 : decode cX9_work 136 = .ok (.goto (-29), 3) := by decide +kernel
theorem dX9_work_139 : decode cX9_work 139 = .ok (.goto 99, 3) := by decide +kernel
theorem dX9_work_142 : decode cX9_work 142 = .ok (.iload_n 3, 1) := by decide +kernel
theorem dX9_work_143 : decode cX9_work 143 = .ok (.bipush 7, 2) := by decide +kernel
theorem dX9_work_145 : decode cX9_work 145 = .ok (.if_icmp .lt 11, 3) := by decide +kernel
theorem dX9_work_148 : decode cX9_work 148 = .ok (.aload_n 0, 1) := by decide +kernel
theorem dX9_work_149 : decode cX9_work 149 = .ok (.iload_n 2, 1) := by decide +kernel
theorem dX9_work_150 : decode cX9_work 150 = .ok (.invokevirtual 164, 3) := by decide +kernel
theorem dX9_work_153 : decode cX9_work 153 = .ok (.goto 85, 3) := by decide +kernel
theorem dX9_work_156 : decode cX9_work 156 = .ok (.iload_n 3, 1) := by decide +kernel
theorem dX9_work_157 : decode cX9_work 157 = .ok (.iconst 4, 1) := by decide +kernel
theorem dX9_work_158 : decode cX9_work 158 = .ok (.if_icmp .ne 63, 3) := by decide +kernel
theorem dX9_work_161 : decode cX9_work 161 = .ok (.aload_n 0, 1) := by decide +kernel
theorem dX9_work_162 : decode cX9_work 162 = .ok (.aload_n 0, 1) := by decide +kernel
theorem dX9_work_163 : decode cX9_work 163 = .ok (.getfield 128, 3) := by decide +kernel
theorem dX9_work_166 : decode cX9_work 166 = .ok (.putfield 116, 3) := by decide +kernel
theorem dX9_work_169 : decode cX9_work 169 = .ok (.aload_n 0, 1) := by decide +kernel
theorem dX9_work_170 : decode cX9_work 170 = .ok (.aload_n 0, 1) := by decide +kernel
theorem dX9_work_171 : decode cX9_work 171 = .ok (.getfield 122, 3) := by decide +kernel
theorem dX9_work_174 : decode cX9_work 174 = .ok (.putfield 110, 3) := by decide +kernel
theorem dX9_work_177 : decode cX9_work 177 = .ok (.aload_n 0, 1) := by decide +kernel
theorem dX9_work_178 : decode cX9_work 178 = .ok (.aload_n 0, 1) := by decide +kernel
theorem dX9_work_179 : decode cX9_work 179 = .ok (.getfield 125, 3) := by decide +kernel
theorem dX9_work_182 : decode cX9_work 182 = .ok (.putfield 113, 3) := by decide +kernel
theorem dX9_work_185 : decode cX9_work 185 = .ok (.iconst 0, 1) := by decide +kernel
theorem dX9_work_186 : decode cX9_work 186 = .ok (.istore 4, 2) := by decide +kernel
theorem dX9_work_188 : decode cX9_work 188 = .ok (.iload 4, 2) := by decide +kernel
theorem dX9_work_190 : decode cX9_work 190 = .ok (.bipush 24, 2) := by decide +kernel
theorem dX9_work_192 : decode cX9_work 192 = .ok (.if_icmp .ge 23, 3) := by decide +kernel
theorem dX9_work_195 : decode cX9_work 195 = .ok (.aload_n 0, 1) := by decide +kernel
theorem dX9_work_196 : decode cX9_work 196 = .ok (.getfield 35, 3) := by decide +kernel
theorem dX9_work_199 : decode cX9_work 199 = .ok (.iload 4, 2) := by decide +kernel
theorem dX9_work_201 : decode cX9_work 201 = .ok (.aload_n 0, 1) := by decide +kernel
theorem dX9_work_202 : decode cX9_work 202 = .ok (.getfield 32, 3) := by decide +kernel
theorem dX9_work_205 : decode cX9_work 205 = .ok (.iload 4, 2) := by decide +kernel
theorem dX9_work_207 : decode cX9_work 207 = .ok (.daload, 1) := by decide +kernel
theorem dX9_work_208 : decode cX9_work 208 = .ok (.dastore, 1) := by decide +kernel
theorem dX9_work_209 : decode cX9_work 209 = .ok (.iinc 4 1, 3) := by decide +kernel
theorem dX9_work_212 : decode cX9_work 212 = .ok (.goto (-24), 3) := by decide +kernel
theorem dX9_work_215 : decode cX9_work 215 = .ok (.iinc 1 (-1), 3) := by decide +kernel
theorem dX9_work_218 : decode cX9_work 218 = .ok (.goto 8, 3) := by decide +kernel
theorem dX9_work_221 : decode cX9_work 221 = .ok (.aload_n 0, 1) := by decide +kernel
theorem dX9_work_222 : decode cX9_work 222 = .ok (.iload_n 2, 1) := by decide +kernel
theorem dX9_work_223 : decode cX9_work 223 = .ok (.invokevirtual 167, 3) := by decide +kernel
theorem dX9_work_226 : decode cX9_work 226 = .ok (.aload_n 0, 1) := by decide +kernel
theorem dX9_work_227 : decode cX9_work 227 = .ok (.getfield 119, 3) := by decide +kernel
theorem dX9_work_230 : decode cX9_work 230 = .ok (.ifCond .ne 8, 3) := by decide +kernel
theorem dX9_work_233 : decode cX9_work 233 = .ok (.aload_n 0, 1) := by decide +kernel
theorem dX9_work_234 : decode cX9_work 234 = .ok (.iload_n 1, 1) := by decide +kernel
theorem dX9_work_235 : decode cX9_work 235 = .ok (.invokevirtual 170, 3) := by decide +kernel
theorem dX9_work_238 : decode cX9_work 238 = .ok (.iinc 2 (-1), 3) := by decide +kernel
theorem dX9_work_241 : decode cX9_work 241 = .ok (.goto (-201), 3) := by decide +kernel
theorem dX9_work_244 : decode cX9_work 244 = .ok (.aload_n 0, 1) := by decide +kernel
theorem dX9_work_245 : decode cX9_work 245 = .ok (.getfield 119, 3) := by decide +kernel
theorem dX9_work_248 : decode cX9_work 248 = .ok (.ifCond .le 10, 3) := by decide +kernel
theorem dX9_work_251 : decode cX9_work 251 = .ok (.iconst 1, 1) := by decide +kernel
theorem dX9_work_252 : decode cX9_work 252 = .ok (.aload_n 0, 1) := by decide +kernel
theorem dX9_work_253 : decode cX9_work 253 = .ok (.getfield 119, 3) := by decide +kernel
theorem dX9_work_256 : decode cX9_work 256 = .ok (.iadd, 1) := by decide +kernel
theorem dX9_work_257 : decode cX9_work 257 = .ok (.ireturn, 1) := by decide +kernel
theorem dX9_work_258 : decode cX9_work 258 = .ok (.aload_n 0, 1) := by decide +kernel
theorem dX9_work_259 : decode cX9_work 259 = .ok (.getfield 106, 3) := by decide +kernel
theorem dX9_work_262 : decode cX9_work 262 = .ok (.ifCond .eq 7, 3) := by decide +kernel
theorem dX9_work_265 : decode cX9_work 265 = .ok (.iconst 4, 1) := by decide +kernel
theorem dX9_work_266 : decode cX9_work 266 = .ok (.goto 4, 3) := by decide +kernel
theorem dX9_work_269 : decode cX9_work 269 = .ok (.iconst 0, 1) := by decide +kernel
theorem dX9_work_270 : decode cX9_work 270 = .ok (.ireturn, 1) := by decide +kernel
theorem dX9_run_0 : decode cX9_run 0 = .ok (.aload_n 0, 1) := by decide +kernel
theorem dX9_run_1 : decode cX9_run 1 = .ok (.iconst 1, 1) := by decide +kernel
theorem dX9_run_2 : decode cX9_run 2 = .ok (.putfield 47, 3) := by decide +kernel
theorem dX9_run_5 : decode cX9_run 5 = .ok (.iload_n 1, 1) := by decide +kernel
theorem dX9_run_6 : decode cX9_run 6 = .ok (.iconst 0, 1) := by decide +kernel
theorem dX9_run_7 : decode cX9_run 7 = .ok (.bipush 7, 2) := by decide +kernel
theorem dX9_run_9 : decode cX9_run 9 = .ok (.invokestatic 58, 3) := by decide +kernel
theorem dX9_run_12 : decode cX9_run 12 = .ok (.ifCond .ne 5, 3) := by decide +kernel
theorem dX9_run_15 : decode cX9_run 15 = .ok (.iconst 0, 1) := by decide +kernel
theorem dX9_run_16 : decode cX9_run 16 = .ok (.ireturn, 1) := by decide +kernel
theorem dX9_run_17 : decode cX9_run 17 = .ok (.aload_n 0, 1) := by decide +kernel
theorem dX9_run_18 : decode cX9_run 18 = .ok (.invokevirtual 173, 3) := by decide +kernel
theorem dX9_run_21 : decode cX9_run 21 = .ok (.istore_n 2, 1) := by decide +kernel
theorem dX9_run_22 : decode cX9_run 22 = .ok (.aload_n 0, 1) := by decide +kernel
theorem dX9_run_23 : decode cX9_run 23 = .ok (.iload_n 2, 1) := by decide +kernel
theorem dX9_run_24 : decode cX9_run 24 = .ok (.ifCond .ne 7, 3) := by decide +kernel
theorem dX9_run_27 : decode cX9_run 27 = .ok (.iconst 0, 1) := by decide +kernel
theorem dX9_run_28 : decode cX9_run 28 = .ok (.goto 6, 3) := by decide +kernel
theorem dX9_run_31 : decode cX9_run 31 = .ok (.iconst 1, 1) := by decide +kernel
theorem dX9_run_32 : decode cX9_run 32 = .ok (.iload_n 2, 1) := by decide +kernel
theorem dX9_run_33 : decode cX9_run 33 = .ok (.iadd, 1) := by decide +kernel
theorem dX9_run_34 : decode cX9_run 34 = .ok (.putfield 47, 3) := by decide +kernel
theorem dX9_run_37 : decode cX9_run 37 = .ok (.iload_n 2, 1) := by decide +kernel
theorem dX9_run_38 : decode cX9_run 38 = .ok (.ifCond .le 5, 3) := by decide +kernel
theorem dX9_run_41 : decode cX9_run 41 = .ok (.iconst 0, 1) := by decide +kernel
theorem dX9_run_42 : decode cX9_run 42 = .ok (.ireturn, 1) := by decide +kernel
theorem dX9_run_43 : decode cX9_run 43 = .ok (.aload_n 0, 1) := by decide +kernel
theorem dX9_run_44 : decode cX9_run 44 = .ok (.getfield 13, 3) := by decide +kernel
theorem dX9_run_47 : decode cX9_run 47 = .ok (.iload_n 1, 1) := by decide +kernel
theorem dX9_run_48 : decode cX9_run 48 = .ok (.aload_n 0, 1) := by decide +kernel
theorem dX9_run_49 : decode cX9_run 49 = .ok (.getfield 128, 3) := by decide +kernel
theorem dX9_run_52 : decode cX9_run 52 = .ok (.iastore, 1) := by decide +kernel
theorem dX9_run_53 : decode cX9_run 53 = .ok (.iconst 0, 1) := by decide +kernel
theorem dX9_run_54 : decode cX9_run 54 = .ok (.istore_n 3, 1) := by decide +kernel
theorem dX9_run_55 : decode cX9_run 55 = .ok (.iload_n 3, 1) := by decide +kernel
theorem dX9_run_56 : decode cX9_run 56 = .ok (.bipush 24, 2) := by decide +kernel
theorem dX9_run_58 : decode cX9_run 58 = .ok (.if_icmp .ge 26, 3) := by decide +kernel
theorem dX9_run_61 : decode cX9_run 61 = .ok (.aload_n 0, 1) := by decide +kernel
theorem dX9_run_62 : decode cX9_run 62 = .ok (.getfield 16, 3) := by decide +kernel
theorem dX9_run_65 : decode cX9_run 65 = .ok (.bipush 24, 2) := by decide +kernel
theorem dX9_run_67 : decode cX9_run 67 = .ok (.iload_n 1, 1) := by decide +kernel
theorem dX9_run_68 : decode cX9_run 68 = .ok (.imul, 1) := by decide +kernel
theorem dX9_run_69 : decode cX9_run 69 = .ok (.iload_n 3, 1) := by decide +kernel
theorem dX9_run_70 : decode cX9_run 70 = .ok (.iadd, 1) := by decide +kernel
theorem dX9_run_71 : decode cX9_run 71 = .ok (.aload_n 0, 1) := by decide +kernel
theorem dX9_run_72 : decode cX9_run 72 = .ok (.getfield 32, 3) := by decide +kernel
theorem dX9_run_75 : decode cX9_run 75 = .ok (.iload_n 3, 1) := by decide +kernel
theorem dX9_run_76 : decode cX9_run 76 = .ok (.daload, 1) := by decide +kernel
theorem dX9_run_77 : decode cX9_run 77 = .ok (.dastore, 1) := by decide +kernel
theorem dX9_run_78 : decode cX9_run 78 = .ok (.iinc 3 1, 3) := by decide +kernel
theorem dX9_run_81 : decode cX9_run 81 = .ok (.goto (-26), 3) := by decide +kernel
theorem dX9_run_84 : decode cX9_run 84 = .ok (.aload_n 0, 1) := by decide +kernel
theorem dX9_run_85 : decode cX9_run 85 = .ok (.aload_n 0, 1) := by decide +kernel
theorem dX9_run_86 : decode cX9_run 86 = .ok (.getfield 142, 3) := by decide +kernel
theorem dX9_run_89 : decode cX9_run 89 = .ok (.aload_n 0, 1) := by decide +kernel
theorem dX9_run_90 : decode cX9_run 90 = .ok (.getfield 125, 3) := by decide +kernel
theorem dX9_run_93 : decode cX9_run 93 = .ok (.ifCond .eq 7, 3) := by decide +kernel
theorem dX9_run_96 : decode cX9_run 96 = .ok (.iconst 0, 1) := by decide +kernel
theorem dX9_run_97 : decode cX9_run 97 = .ok (.goto 4, 3) := by decide +kernel
theorem dX9_run_100 : decode cX9_run 100 = .ok (.iconst 1, 1) := by decide +kernel
theorem dX9_run_101 : decode cX9_run 101 = .ok (.iadd, 1) := by decide +kernel
theorem dX9_run_102 : decode cX9_run 102 = .ok (.putfield 177, 3) := by decide +kernel
theorem dX9_run_105 : decode cX9_run 105 = .ok (.aload_n 0, 1) := by decide +kernel
theorem dX9_run_106 : decode cX9_run 106 = .ok (.dup, 1) := by decide +kernel
theorem dX9_run_107 : decode cX9_run 107 = .ok (.getfield 180, 3) := by decide +kernel
theorem dX9_run_110 : decode cX9_run 110 = .ok (.iconst 1, 1) := by decide +kernel
theorem dX9_run_111 : decode cX9_run 111 = .ok (.iadd, 1) := by decide +kernel
theorem dX9_run_112 : decode cX9_run 112 = .ok (.putfield 180, 3) := by decide +kernel
theorem dX9_run_115 : decode cX9_run 115 = .ok (.aload_n 0, 1) := by decide +kernel
theorem dX9_run_116 : decode cX9_run 116 = .ok (.getfield 128, 3) := by decide +kernel
theorem dX9_run_119 : decode cX9_run 119 = .ok (.invokestatic 70, 3) := by decide +kernel
theorem dX9_run_122 : decode cX9_run 122 = .ok (.ireturn, 1) := by decide +kernel
theorem dX9_look_0 : decode cX9_look 0 = .ok (.aload_n 0, 1) := by decide +kernel
theorem dX9_look_1 : decode cX9_look 1 = .ok (.invokevirtual 173, 3) := by decide +kernel
theorem dX9_look_4 : decode cX9_look 4 = .ok (.istore_n 1, 1) := by decide +kernel
theorem dX9_look_5 : decode cX9_look 5 = .ok (.aload_n 0, 1) := by decide +kernel
theorem dX9_look_6 : decode cX9_look 6 = .ok (.iload_n 1, 1) := by decide +kernel
theorem dX9_look_7 : decode cX9_look 7 = .ok (.iconst 4, 1) := by decide +kernel
theorem dX9_look_8 : decode cX9_look 8 = .ok (.if_icmp .ge 7, 3) := by decide +kernel
theorem dX9_look_11 : decode cX9_look 11 = .ok (.iload_n 1, 1) := by decide +kernel
theorem dX9_look_12 : decode cX9_look 12 = .ok (.goto 4, 3) := by decide +kernel
theorem dX9_look_15 : decode cX9_look 15 = .ok (.iconst 0, 1) := by decide +kernel
theorem dX9_look_16 : decode cX9_look 16 = .ok (.putfield 47, 3) := by decide +kernel
theorem dX9_look_19 : decode cX9_look 19 = .ok (.aload_n 0, 1) := by decide +kernel
theorem dX9_look_20 : decode cX9_look 20 = .ok (.getfield 47, 3) := by decide +kernel
theorem dX9_look_23 : decode cX9_look 23 = .ok (.ifCond .le 7, 3) := by decide +kernel
theorem dX9_look_26 : decode cX9_look 26 = .ok (.iconst 0, 1) := by decide +kernel
theorem dX9_look_27 : decode cX9_look 27 = .ok (.goto 7, 3) := by decide +kernel
theorem dX9_look_30 : decode cX9_look 30 = .ok (.aload_n 0, 1) := by decide +kernel
theorem dX9_look_31 : decode cX9_look 31 = .ok (.getfield 128, 3) := by decide +kernel
theorem dX9_look_34 : decode cX9_look 34 = .ok (.ireturn, 1) := by decide +kernel
theorem dX9_made_0 : decode cX9_made 0 = .ok (.aload_n 0, 1) := by decide +kernel
theorem dX9_made_1 : decode cX9_made 1 = .ok (.iconst 0, 1) := by decide +kernel
theorem dX9_made_2 : decode cX9_made 2 = .ok (.putfield 47, 3) := by decide +kernel
theorem dX9_made_5 : decode cX9_made 5 = .ok (.aload_n 0, 1) := by decide +kernel
theorem dX9_made_6 : decode cX9_made 6 = .ok (.getfield 177, 3) := by decide +kernel
theorem dX9_made_9 : decode cX9_made 9 = .ok (.ireturn, 1) := by decide +kernel
theorem dX9_runs_0 : decode cX9_runs 0 = .ok (.aload_n 0, 1) := by decide +kernel
theorem dX9_runs_1 : decode cX9_runs 1 = .ok (.iconst 0, 1) := by decide +kernel
theorem dX9_runs_2 : decode cX9_runs 2 = .ok (.putfield 47, 3) := by decide +kernel
theorem dX9_runs_5 : decode cX9_runs 5 = .ok (.aload_n 0, 1) := by decide +kernel
theorem dX9_runs_6 : decode cX9_runs 6 = .ok (.getfield 180, 3) := by decide +kernel
theorem dX9_runs_9 : decode cX9_runs 9 = .ok (.ireturn, 1) := by decide +kernel

theorem d_Integer_bitCount_0 : decode b_Integer_bitCount 0 = .ok (.iload_n 0, 1) := by decide +kernel
theorem d_Integer_bitCount_1 : decode b_Integer_bitCount 1 = .ok (.iload_n 0, 1) := by decide +kernel
theorem d_Integer_bitCount_2 : decode b_Integer_bitCount 2 = .ok (.iconst 1, 1) := by decide +kernel
theorem d_Integer_bitCount_3 : decode b_Integer_bitCount 3 = .ok (.iushr, 1) := by decide +kernel
theorem d_Integer_bitCount_4 : decode b_Integer_bitCount 4 = .ok (.ldc_w 265, 3) := by decide +kernel
theorem d_Integer_bitCount_7 : decode b_Integer_bitCount 7 = .ok (.iand, 1) := by decide +kernel
theorem d_Integer_bitCount_8 : decode b_Integer_bitCount 8 = .ok (.isub, 1) := by decide +kernel
theorem d_Integer_bitCount_9 : decode b_Integer_bitCount 9 = .ok (.istore_n 0, 1) := by decide +kernel
theorem d_Integer_bitCount_10 : decode b_Integer_bitCount 10 = .ok (.iload_n 0, 1) := by decide +kernel
theorem d_Integer_bitCount_11 : decode b_Integer_bitCount 11 = .ok (.ldc_w 266, 3) := by decide +kernel
theorem d_Integer_bitCount_14 : decode b_Integer_bitCount 14 = .ok (.iand, 1) := by decide +kernel
theorem d_Integer_bitCount_15 : decode b_Integer_bitCount 15 = .ok (.iload_n 0, 1) := by decide +kernel
theorem d_Integer_bitCount_16 : decode b_Integer_bitCount 16 = .ok (.iconst 2, 1) := by decide +kernel
theorem d_Integer_bitCount_17 : decode b_Integer_bitCount 17 = .ok (.iushr, 1) := by decide +kernel
theorem d_Integer_bitCount_18 : decode b_Integer_bitCount 18 = .ok (.ldc_w 266, 3) := by decide +kernel
theorem d_Integer_bitCount_21 : decode b_Integer_bitCount 21 = .ok (.iand, 1) := by decide +kernel
theorem d_Integer_bitCount_22 : decode b_Integer_bitCount 22 = .ok (.iadd, 1) := by decide +kernel
theorem d_Integer_bitCount_23 : decode b_Integer_bitCount 23 = .ok (.istore_n 0, 1) := by decide +kernel
theorem d_Integer_bitCount_24 : decode b_Integer_bitCount 24 = .ok (.iload_n 0, 1) := by decide +kernel
theorem d_Integer_bitCount_25 : decode b_Integer_bitCount 25 = .ok (.iload_n 0, 1) := by decide +kernel
theorem d_Integer_bitCount_26 : decode b_Integer_bitCount 26 = .ok (.iconst 4, 1) := by decide +kernel
theorem d_Integer_bitCount_27 : decode b_Integer_bitCount 27 = .ok (.iushr, 1) := by decide +kernel
theorem d_Integer_bitCount_28 : decode b_Integer_bitCount 28 = .ok (.iadd, 1) := by decide +kernel
theorem d_Integer_bitCount_29 : decode b_Integer_bitCount 29 = .ok (.ldc_w 267, 3) := by decide +kernel
theorem d_Integer_bitCount_32 : decode b_Integer_bitCount 32 = .ok (.iand, 1) := by decide +kernel
theorem d_Integer_bitCount_33 : decode b_Integer_bitCount 33 = .ok (.istore_n 0, 1) := by decide +kernel
theorem d_Integer_bitCount_34 : decode b_Integer_bitCount 34 = .ok (.iload_n 0, 1) := by decide +kernel
theorem d_Integer_bitCount_35 : decode b_Integer_bitCount 35 = .ok (.iload_n 0, 1) := by decide +kernel
theorem d_Integer_bitCount_36 : decode b_Integer_bitCount 36 = .ok (.bipush 8, 2) := by decide +kernel
theorem d_Integer_bitCount_38 : decode b_Integer_bitCount 38 = .ok (.iushr, 1) := by decide +kernel
theorem d_Integer_bitCount_39 : decode b_Integer_bitCount 39 = .ok (.iadd, 1) := by decide +kernel
theorem d_Integer_bitCount_40 : decode b_Integer_bitCount 40 = .ok (.istore_n 0, 1) := by decide +kernel
theorem d_Integer_bitCount_41 : decode b_Integer_bitCount 41 = .ok (.iload_n 0, 1) := by decide +kernel
theorem d_Integer_bitCount_42 : decode b_Integer_bitCount 42 = .ok (.iload_n 0, 1) := by decide +kernel
theorem d_Integer_bitCount_43 : decode b_Integer_bitCount 43 = .ok (.bipush 16, 2) := by decide +kernel
theorem d_Integer_bitCount_45 : decode b_Integer_bitCount 45 = .ok (.iushr, 1) := by decide +kernel
theorem d_Integer_bitCount_46 : decode b_Integer_bitCount 46 = .ok (.iadd, 1) := by decide +kernel
theorem d_Integer_bitCount_47 : decode b_Integer_bitCount 47 = .ok (.istore_n 0, 1) := by decide +kernel
theorem d_Integer_bitCount_48 : decode b_Integer_bitCount 48 = .ok (.iload_n 0, 1) := by decide +kernel
theorem d_Integer_bitCount_49 : decode b_Integer_bitCount 49 = .ok (.bipush 63, 2) := by decide +kernel
theorem d_Integer_bitCount_51 : decode b_Integer_bitCount 51 = .ok (.iand, 1) := by decide +kernel
theorem d_Integer_bitCount_52 : decode b_Integer_bitCount 52 = .ok (.ireturn, 1) := by decide +kernel
theorem d_Arrays_fill_0 : decode b_Arrays_fill 0 = .ok (.iconst 0, 1) := by decide +kernel
theorem d_Arrays_fill_1 : decode b_Arrays_fill 1 = .ok (.istore_n 2, 1) := by decide +kernel
theorem d_Arrays_fill_2 : decode b_Arrays_fill 2 = .ok (.aload_n 0, 1) := by decide +kernel
theorem d_Arrays_fill_3 : decode b_Arrays_fill 3 = .ok (.arraylength, 1) := by decide +kernel
theorem d_Arrays_fill_4 : decode b_Arrays_fill 4 = .ok (.istore_n 3, 1) := by decide +kernel
theorem d_Arrays_fill_5 : decode b_Arrays_fill 5 = .ok (.iload_n 2, 1) := by decide +kernel
theorem d_Arrays_fill_6 : decode b_Arrays_fill 6 = .ok (.iload_n 3, 1) := by decide +kernel
theorem d_Arrays_fill_7 : decode b_Arrays_fill 7 = .ok (.if_icmp .ge 13, 3) := by decide +kernel
theorem d_Arrays_fill_10 : decode b_Arrays_fill 10 = .ok (.aload_n 0, 1) := by decide +kernel
theorem d_Arrays_fill_11 : decode b_Arrays_fill 11 = .ok (.iload_n 2, 1) := by decide +kernel
theorem d_Arrays_fill_12 : decode b_Arrays_fill 12 = .ok (.iload_n 1, 1) := by decide +kernel
theorem d_Arrays_fill_13 : decode b_Arrays_fill 13 = .ok (.iastore, 1) := by decide +kernel
theorem d_Arrays_fill_14 : decode b_Arrays_fill 14 = .ok (.iinc 2 1, 3) := by decide +kernel
theorem d_Arrays_fill_17 : decode b_Arrays_fill 17 = .ok (.goto (-12), 3) := by decide +kernel
theorem d_Arrays_fill_20 : decode b_Arrays_fill 20 = .ok (.return_, 1) := by decide +kernel
theorem d_Things_isRule_0 : decode b_Things_isRule 0 = .ok (.iload_n 0, 1) := by decide +kernel
theorem d_Things_isRule_1 : decode b_Things_isRule 1 = .ok (.ifCond .lt 12, 3) := by decide +kernel
theorem d_Things_isRule_4 : decode b_Things_isRule 4 = .ok (.iload_n 0, 1) := by decide +kernel
theorem d_Things_isRule_5 : decode b_Things_isRule 5 = .ok (.iconst 4, 1) := by decide +kernel
theorem d_Things_isRule_6 : decode b_Things_isRule 6 = .ok (.if_icmp .ge 7, 3) := by decide +kernel
theorem d_Things_isRule_9 : decode b_Things_isRule 9 = .ok (.iconst 1, 1) := by decide +kernel
theorem d_Things_isRule_10 : decode b_Things_isRule 10 = .ok (.goto 4, 3) := by decide +kernel
theorem d_Things_isRule_13 : decode b_Things_isRule 13 = .ok (.iconst 0, 1) := by decide +kernel
theorem d_Things_isRule_14 : decode b_Things_isRule 14 = .ok (.ireturn, 1) := by decide +kernel
theorem d_Things_isKind_0 : decode b_Things_isKind 0 = .ok (.iload_n 0, 1) := by decide +kernel
theorem d_Things_isKind_1 : decode b_Things_isKind 1 = .ok (.ifCond .lt 13, 3) := by decide +kernel
theorem d_Things_isKind_4 : decode b_Things_isKind 4 = .ok (.iload_n 0, 1) := by decide +kernel
theorem d_Things_isKind_5 : decode b_Things_isKind 5 = .ok (.bipush 16, 2) := by decide +kernel
theorem d_Things_isKind_7 : decode b_Things_isKind 7 = .ok (.if_icmp .ge 7, 3) := by decide +kernel
theorem d_Things_isKind_10 : decode b_Things_isKind 10 = .ok (.iconst 1, 1) := by decide +kernel
theorem d_Things_isKind_11 : decode b_Things_isKind 11 = .ok (.goto 4, 3) := by decide +kernel
theorem d_Things_isKind_14 : decode b_Things_isKind 14 = .ok (.iconst 0, 1) := by decide +kernel
theorem d_Things_isKind_15 : decode b_Things_isKind 15 = .ok (.ireturn, 1) := by decide +kernel
theorem d_Things_has_0 : decode b_Things_has 0 = .ok (.iload_n 1, 1) := by decide +kernel
theorem d_Things_has_1 : decode b_Things_has 1 = .ok (.ifCond .lt 21, 3) := by decide +kernel
theorem d_Things_has_4 : decode b_Things_has 4 = .ok (.iload_n 1, 1) := by decide +kernel
theorem d_Things_has_5 : decode b_Things_has 5 = .ok (.aload_n 0, 1) := by decide +kernel
theorem d_Things_has_6 : decode b_Things_has 6 = .ok (.getfield 33, 3) := by decide +kernel
theorem d_Things_has_9 : decode b_Things_has 9 = .ok (.if_icmp .ge 13, 3) := by decide +kernel
theorem d_Things_has_12 : decode b_Things_has 12 = .ok (.iload_n 1, 1) := by decide +kernel
theorem d_Things_has_13 : decode b_Things_has 13 = .ok (.bipush 32, 2) := by decide +kernel
theorem d_Things_has_15 : decode b_Things_has 15 = .ok (.if_icmp .ge 7, 3) := by decide +kernel
theorem d_Things_has_18 : decode b_Things_has 18 = .ok (.iconst 1, 1) := by decide +kernel
theorem d_Things_has_19 : decode b_Things_has 19 = .ok (.goto 4, 3) := by decide +kernel
theorem d_Things_has_22 : decode b_Things_has 22 = .ok (.iconst 0, 1) := by decide +kernel
theorem d_Things_has_23 : decode b_Things_has 23 = .ok (.ireturn, 1) := by decide +kernel
theorem d_Things_add_0 : decode b_Things_add 0 = .ok (.aload_n 0, 1) := by decide +kernel
theorem d_Things_add_1 : decode b_Things_add 1 = .ok (.getfield 33, 3) := by decide +kernel
theorem d_Things_add_4 : decode b_Things_add 4 = .ok (.bipush 32, 2) := by decide +kernel
theorem d_Things_add_6 : decode b_Things_add 6 = .ok (.if_icmp .lt 6, 3) := by decide +kernel
theorem d_Things_add_9 : decode b_Things_add 9 = .ok (.bipush (-3), 2) := by decide +kernel
theorem d_Things_add_11 : decode b_Things_add 11 = .ok (.ireturn, 1) := by decide +kernel
theorem d_Things_add_12 : decode b_Things_add 12 = .ok (.aload_n 0, 1) := by decide +kernel
theorem d_Things_add_13 : decode b_Things_add 13 = .ok (.dup, 1) := by decide +kernel
theorem d_Things_add_14 : decode b_Things_add 14 = .ok (.getfield 33, 3) := by decide +kernel
theorem d_Things_add_17 : decode b_Things_add 17 = .ok (.iconst 1, 1) := by decide +kernel
theorem d_Things_add_18 : decode b_Things_add 18 = .ok (.iadd, 1) := by decide +kernel
theorem d_Things_add_19 : decode b_Things_add 19 = .ok (.putfield 33, 3) := by decide +kernel
theorem d_Things_add_22 : decode b_Things_add 22 = .ok (.aload_n 0, 1) := by decide +kernel
theorem d_Things_add_23 : decode b_Things_add 23 = .ok (.getfield 33, 3) := by decide +kernel
theorem d_Things_add_26 : decode b_Things_add 26 = .ok (.iconst 1, 1) := by decide +kernel
theorem d_Things_add_27 : decode b_Things_add 27 = .ok (.isub, 1) := by decide +kernel
theorem d_Things_add_28 : decode b_Things_add 28 = .ok (.ireturn, 1) := by decide +kernel
theorem d_Things_setWord_0 : decode b_Things_setWord 0 = .ok (.aload_n 0, 1) := by decide +kernel
theorem d_Things_setWord_1 : decode b_Things_setWord 1 = .ok (.iload_n 1, 1) := by decide +kernel
theorem d_Things_setWord_2 : decode b_Things_setWord 2 = .ok (.invokevirtual 43, 3) := by decide +kernel
theorem d_Things_setWord_5 : decode b_Things_setWord 5 = .ok (.ifCond .eq 10, 3) := by decide +kernel
theorem d_Things_setWord_8 : decode b_Things_setWord 8 = .ok (.iload_n 2, 1) := by decide +kernel
theorem d_Things_setWord_9 : decode b_Things_setWord 9 = .ok (.invokestatic 47, 3) := by decide +kernel
theorem d_Things_setWord_12 : decode b_Things_setWord 12 = .ok (.ifCond .ne 5, 3) := by decide +kernel
theorem d_Things_setWord_15 : decode b_Things_setWord 15 = .ok (.iconst (-1), 1) := by decide +kernel
theorem d_Things_setWord_16 : decode b_Things_setWord 16 = .ok (.ireturn, 1) := by decide +kernel
theorem d_Things_setWord_17 : decode b_Things_setWord 17 = .ok (.iload_n 3, 1) := by decide +kernel
theorem d_Things_setWord_18 : decode b_Things_setWord 18 = .ok (.ifCond .eq 10, 3) := by decide +kernel
theorem d_Things_setWord_21 : decode b_Things_setWord 21 = .ok (.aload_n 0, 1) := by decide +kernel
theorem d_Things_setWord_22 : decode b_Things_setWord 22 = .ok (.getfield 9, 3) := by decide +kernel
theorem d_Things_setWord_25 : decode b_Things_setWord 25 = .ok (.goto 7, 3) := by decide +kernel
theorem d_Things_setWord_28 : decode b_Things_setWord 28 = .ok (.aload_n 0, 1) := by decide +kernel
theorem d_Things_setWord_29 : decode b_Things_setWord 29 = .ok (.getfield 15, 3) := by decide +kernel
theorem d_Things_setWord_32 : decode b_Things_setWord 32 = .ok (.astore 5, 2) := by decide +kernel
theorem d_Things_setWord_34 : decode b_Things_setWord 34 = .ok (.aload 5, 2) := by decide +kernel
theorem d_Things_setWord_36 : decode b_Things_setWord 36 = .ok (.iload_n 1, 1) := by decide +kernel
theorem d_Things_setWord_37 : decode b_Things_setWord 37 = .ok (.iaload, 1) := by decide +kernel
theorem d_Things_setWord_38 : decode b_Things_setWord 38 = .ok (.iload_n 2, 1) := by decide +kernel
theorem d_Things_setWord_39 : decode b_Things_setWord 39 = .ok (.iushr, 1) := by decide +kernel
theorem d_Things_setWord_40 : decode b_Things_setWord 40 = .ok (.iconst 1, 1) := by decide +kernel
theorem d_Things_setWord_41 : decode b_Things_setWord 41 = .ok (.iand, 1) := by decide +kernel
theorem d_Things_setWord_42 : decode b_Things_setWord 42 = .ok (.istore 6, 2) := by decide +kernel
theorem d_Things_setWord_44 : decode b_Things_setWord 44 = .ok (.aload 5, 2) := by decide +kernel
theorem d_Things_setWord_46 : decode b_Things_setWord 46 = .ok (.iload_n 1, 1) := by decide +kernel
theorem d_Things_setWord_47 : decode b_Things_setWord 47 = .ok (.iload 4, 2) := by decide +kernel
theorem d_Things_setWord_49 : decode b_Things_setWord 49 = .ok (.ifCond .eq 14, 3) := by decide +kernel
theorem d_Things_setWord_52 : decode b_Things_setWord 52 = .ok (.aload 5, 2) := by decide +kernel
theorem d_Things_setWord_54 : decode b_Things_setWord 54 = .ok (.iload_n 1, 1) := by decide +kernel
theorem d_Things_setWord_55 : decode b_Things_setWord 55 = .ok (.iaload, 1) := by decide +kernel
theorem d_Things_setWord_56 : decode b_Things_setWord 56 = .ok (.iconst 1, 1) := by decide +kernel
theorem d_Things_setWord_57 : decode b_Things_setWord 57 = .ok (.iload_n 2, 1) := by decide +kernel
theorem d_Things_setWord_58 : decode b_Things_setWord 58 = .ok (.ishl, 1) := by decide +kernel
theorem d_Things_setWord_59 : decode b_Things_setWord 59 = .ok (.ior, 1) := by decide +kernel
theorem d_Things_setWord_60 : decode b_Things_setWord 60 = .ok (.goto 13, 3) := by decide +kernel
theorem d_Things_setWord_63 : decode b_Things_setWord 63 = .ok (.aload 5, 2) := by decide +kernel
theorem d_Things_setWord_65 : decode b_Things_setWord 65 = .ok (.iload_n 1, 1) := by decide +kernel
theorem d_Things_setWord_66 : decode b_Things_setWord 66 = .ok (.iaload, 1) := by decide +kernel
theorem d_Things_setWord_67 : decode b_Things_setWord 67 = .ok (.iconst 1, 1) := by decide +kernel
theorem d_Things_setWord_68 : decode b_Things_setWord 68 = .ok (.iload_n 2, 1) := by decide +kernel
theorem d_Things_setWord_69 : decode b_Things_setWord 69 = .ok (.ishl, 1) := by decide +kernel
theorem d_Things_setWord_70 : decode b_Things_setWord 70 = .ok (.iconst (-1), 1) := by decide +kernel
theorem d_Things_setWord_71 : decode b_Things_setWord 71 = .ok (.ixor, 1) := by decide +kernel
theorem d_Things_setWord_72 : decode b_Things_setWord 72 = .ok (.iand, 1) := by decide +kernel
theorem d_Things_setWord_73 : decode b_Things_setWord 73 = .ok (.iastore, 1) := by decide +kernel
theorem d_Things_setWord_74 : decode b_Things_setWord 74 = .ok (.iload 6, 2) := by decide +kernel
theorem d_Things_setWord_76 : decode b_Things_setWord 76 = .ok (.ireturn, 1) := by decide +kernel
theorem d_Things_setKind_0 : decode b_Things_setKind 0 = .ok (.aload_n 0, 1) := by decide +kernel
theorem d_Things_setKind_1 : decode b_Things_setKind 1 = .ok (.iload_n 1, 1) := by decide +kernel
theorem d_Things_setKind_2 : decode b_Things_setKind 2 = .ok (.invokevirtual 43, 3) := by decide +kernel
theorem d_Things_setKind_5 : decode b_Things_setKind 5 = .ok (.ifCond .eq 15, 3) := by decide +kernel
theorem d_Things_setKind_8 : decode b_Things_setKind 8 = .ok (.iload_n 2, 1) := by decide +kernel
theorem d_Things_setKind_9 : decode b_Things_setKind 9 = .ok (.iconst (-1), 1) := by decide +kernel
theorem d_Things_setKind_10 : decode b_Things_setKind 10 = .ok (.if_icmp .eq 12, 3) := by decide +kernel
theorem d_Things_setKind_13 : decode b_Things_setKind 13 = .ok (.iload_n 2, 1) := by decide +kernel
theorem d_Things_setKind_14 : decode b_Things_setKind 14 = .ok (.invokestatic 50, 3) := by decide +kernel
theorem d_Things_setKind_17 : decode b_Things_setKind 17 = .ok (.ifCond .ne 5, 3) := by decide +kernel
theorem d_Things_setKind_20 : decode b_Things_setKind 20 = .ok (.iconst (-1), 1) := by decide +kernel
theorem d_Things_setKind_21 : decode b_Things_setKind 21 = .ok (.ireturn, 1) := by decide +kernel
theorem d_Things_setKind_22 : decode b_Things_setKind 22 = .ok (.aload_n 0, 1) := by decide +kernel
theorem d_Things_setKind_23 : decode b_Things_setKind 23 = .ok (.getfield 18, 3) := by decide +kernel
theorem d_Things_setKind_26 : decode b_Things_setKind 26 = .ok (.iload_n 1, 1) := by decide +kernel
theorem d_Things_setKind_27 : decode b_Things_setKind 27 = .ok (.iaload, 1) := by decide +kernel
theorem d_Things_setKind_28 : decode b_Things_setKind 28 = .ok (.istore_n 3, 1) := by decide +kernel
theorem d_Things_setKind_29 : decode b_Things_setKind 29 = .ok (.aload_n 0, 1) := by decide +kernel
theorem d_Things_setKind_30 : decode b_Things_setKind 30 = .ok (.getfield 18, 3) := by decide +kernel
theorem d_Things_setKind_33 : decode b_Things_setKind 33 = .ok (.iload_n 1, 1) := by decide +kernel
theorem d_Things_setKind_34 : decode b_Things_setKind 34 = .ok (.iload_n 2, 1) := by decide +kernel
theorem d_Things_setKind_35 : decode b_Things_setKind 35 = .ok (.iastore, 1) := by decide +kernel
theorem d_Things_setKind_36 : decode b_Things_setKind 36 = .ok (.iload_n 3, 1) := by decide +kernel
theorem d_Things_setKind_37 : decode b_Things_setKind 37 = .ok (.iconst 1, 1) := by decide +kernel
theorem d_Things_setKind_38 : decode b_Things_setKind 38 = .ok (.iadd, 1) := by decide +kernel
theorem d_Things_setKind_39 : decode b_Things_setKind 39 = .ok (.ireturn, 1) := by decide +kernel
theorem d_Things_setPlace_0 : decode b_Things_setPlace 0 = .ok (.aload_n 0, 1) := by decide +kernel
theorem d_Things_setPlace_1 : decode b_Things_setPlace 1 = .ok (.iload_n 1, 1) := by decide +kernel
theorem d_Things_setPlace_2 : decode b_Things_setPlace 2 = .ok (.invokevirtual 43, 3) := by decide +kernel
theorem d_Things_setPlace_5 : decode b_Things_setPlace 5 = .ok (.ifCond .eq 12, 3) := by decide +kernel
theorem d_Things_setPlace_8 : decode b_Things_setPlace 8 = .ok (.iload_n 2, 1) := by decide +kernel
theorem d_Things_setPlace_9 : decode b_Things_setPlace 9 = .ok (.ifCond .lt 8, 3) := by decide +kernel
theorem d_Things_setPlace_12 : decode b_Things_setPlace 12 = .ok (.iload_n 2, 1) := by decide +kernel
theorem d_Things_setPlace_13 : decode b_Things_setPlace 13 = .ok (.iconst 3, 1) := by decide +kernel
theorem d_Things_setPlace_14 : decode b_Things_setPlace 14 = .ok (.if_icmp .le 5, 3) := by decide +kernel
theorem d_Things_setPlace_17 : decode b_Things_setPlace 17 = .ok (.iconst (-1), 1) := by decide +kernel
theorem d_Things_setPlace_18 : decode b_Things_setPlace 18 = .ok (.ireturn, 1) := by decide +kernel
theorem d_Things_setPlace_19 : decode b_Things_setPlace 19 = .ok (.aload_n 0, 1) := by decide +kernel
theorem d_Things_setPlace_20 : decode b_Things_setPlace 20 = .ok (.getfield 21, 3) := by decide +kernel
theorem d_Things_setPlace_23 : decode b_Things_setPlace 23 = .ok (.iload_n 1, 1) := by decide +kernel
theorem d_Things_setPlace_24 : decode b_Things_setPlace 24 = .ok (.iaload, 1) := by decide +kernel
theorem d_Things_setPlace_25 : decode b_Things_setPlace 25 = .ok (.istore_n 3, 1) := by decide +kernel
theorem d_Things_setPlace_26 : decode b_Things_setPlace 26 = .ok (.aload_n 0, 1) := by decide +kernel
theorem d_Things_setPlace_27 : decode b_Things_setPlace 27 = .ok (.getfield 21, 3) := by decide +kernel
theorem d_Things_setPlace_30 : decode b_Things_setPlace 30 = .ok (.iload_n 1, 1) := by decide +kernel
theorem d_Things_setPlace_31 : decode b_Things_setPlace 31 = .ok (.iload_n 2, 1) := by decide +kernel
theorem d_Things_setPlace_32 : decode b_Things_setPlace 32 = .ok (.iastore, 1) := by decide +kernel
theorem d_Things_setPlace_33 : decode b_Things_setPlace 33 = .ok (.iload_n 3, 1) := by decide +kernel
theorem d_Things_setPlace_34 : decode b_Things_setPlace 34 = .ok (.ireturn, 1) := by decide +kernel
theorem d_Things_setMark_0 : decode b_Things_setMark 0 = .ok (.aload_n 0, 1) := by decide +kernel
theorem d_Things_setMark_1 : decode b_Things_setMark 1 = .ok (.iload_n 1, 1) := by decide +kernel
theorem d_Things_setMark_2 : decode b_Things_setMark 2 = .ok (.invokevirtual 43, 3) := by decide +kernel
theorem d_Things_setMark_5 : decode b_Things_setMark 5 = .ok (.ifCond .eq 22, 3) := by decide +kernel
theorem d_Things_setMark_8 : decode b_Things_setMark 8 = .ok (.iload_n 2, 1) := by decide +kernel
theorem d_Things_setMark_9 : decode b_Things_setMark 9 = .ok (.invokestatic 53, 3) := by decide +kernel
theorem d_Things_setMark_12 : decode b_Things_setMark 12 = .ok (.ifCond .eq 15, 3) := by decide +kernel
theorem d_Things_setMark_15 : decode b_Things_setMark 15 = .ok (.iload_n 3, 1) := by decide +kernel
theorem d_Things_setMark_16 : decode b_Things_setMark 16 = .ok (.bipush (-9), 2) := by decide +kernel
theorem d_Things_setMark_18 : decode b_Things_setMark 18 = .ok (.if_icmp .lt 9, 3) := by decide +kernel
theorem d_Things_setMark_21 : decode b_Things_setMark 21 = .ok (.iload_n 3, 1) := by decide +kernel
theorem d_Things_setMark_22 : decode b_Things_setMark 22 = .ok (.bipush 9, 2) := by decide +kernel
theorem d_Things_setMark_24 : decode b_Things_setMark 24 = .ok (.if_icmp .le 5, 3) := by decide +kernel
theorem d_Things_setMark_27 : decode b_Things_setMark 27 = .ok (.iconst (-1), 1) := by decide +kernel
theorem d_Things_setMark_28 : decode b_Things_setMark 28 = .ok (.ireturn, 1) := by decide +kernel
theorem d_Things_setMark_29 : decode b_Things_setMark 29 = .ok (.iload_n 1, 1) := by decide +kernel
theorem d_Things_setMark_30 : decode b_Things_setMark 30 = .ok (.iconst 4, 1) := by decide +kernel
theorem d_Things_setMark_31 : decode b_Things_setMark 31 = .ok (.imul, 1) := by decide +kernel
theorem d_Things_setMark_32 : decode b_Things_setMark 32 = .ok (.iload_n 2, 1) := by decide +kernel
theorem d_Things_setMark_33 : decode b_Things_setMark 33 = .ok (.iadd, 1) := by decide +kernel
theorem d_Things_setMark_34 : decode b_Things_setMark 34 = .ok (.istore 4, 2) := by decide +kernel
theorem d_Things_setMark_36 : decode b_Things_setMark 36 = .ok (.aload_n 0, 1) := by decide +kernel
theorem d_Things_setMark_37 : decode b_Things_setMark 37 = .ok (.getfield 24, 3) := by decide +kernel
theorem d_Things_setMark_40 : decode b_Things_setMark 40 = .ok (.iload 4, 2) := by decide +kernel
theorem d_Things_setMark_42 : decode b_Things_setMark 42 = .ok (.iaload, 1) := by decide +kernel
theorem d_Things_setMark_43 : decode b_Things_setMark 43 = .ok (.istore 5, 2) := by decide +kernel
theorem d_Things_setMark_45 : decode b_Things_setMark 45 = .ok (.aload_n 0, 1) := by decide +kernel
theorem d_Things_setMark_46 : decode b_Things_setMark 46 = .ok (.getfield 24, 3) := by decide +kernel
theorem d_Things_setMark_49 : decode b_Things_setMark 49 = .ok (.iload 4, 2) := by decide +kernel
theorem d_Things_setMark_51 : decode b_Things_setMark 51 = .ok (.iload_n 3, 1) := by decide +kernel
theorem d_Things_setMark_52 : decode b_Things_setMark 52 = .ok (.iastore, 1) := by decide +kernel
theorem d_Things_setMark_53 : decode b_Things_setMark 53 = .ok (.iload 5, 2) := by decide +kernel
theorem d_Things_setMark_55 : decode b_Things_setMark 55 = .ok (.bipush 9, 2) := by decide +kernel
theorem d_Things_setMark_57 : decode b_Things_setMark 57 = .ok (.iadd, 1) := by decide +kernel
theorem d_Things_setMark_58 : decode b_Things_setMark 58 = .ok (.ireturn, 1) := by decide +kernel
theorem d_Things_setPlural_0 : decode b_Things_setPlural 0 = .ok (.iload_n 1, 1) := by decide +kernel
theorem d_Things_setPlural_1 : decode b_Things_setPlural 1 = .ok (.invokestatic 50, 3) := by decide +kernel
theorem d_Things_setPlural_4 : decode b_Things_setPlural 4 = .ok (.ifCond .eq 15, 3) := by decide +kernel
theorem d_Things_setPlural_7 : decode b_Things_setPlural 7 = .ok (.iload_n 2, 1) := by decide +kernel
theorem d_Things_setPlural_8 : decode b_Things_setPlural 8 = .ok (.iconst (-1), 1) := by decide +kernel
theorem d_Things_setPlural_9 : decode b_Things_setPlural 9 = .ok (.if_icmp .eq 12, 3) := by decide +kernel
theorem d_Things_setPlural_12 : decode b_Things_setPlural 12 = .ok (.iload_n 2, 1) := by decide +kernel
theorem d_Things_setPlural_13 : decode b_Things_setPlural 13 = .ok (.invokestatic 47, 3) := by decide +kernel
theorem d_Things_setPlural_16 : decode b_Things_setPlural 16 = .ok (.ifCond .ne 5, 3) := by decide +kernel
theorem d_Things_setPlural_19 : decode b_Things_setPlural 19 = .ok (.iconst (-1), 1) := by decide +kernel
theorem d_Things_setPlural_20 : decode b_Things_setPlural 20 = .ok (.ireturn, 1) := by decide +kernel
theorem d_Things_setPlural_21 : decode b_Things_setPlural 21 = .ok (.aload_n 0, 1) := by decide +kernel
theorem d_Things_setPlural_22 : decode b_Things_setPlural 22 = .ok (.getfield 27, 3) := by decide +kernel
theorem d_Things_setPlural_25 : decode b_Things_setPlural 25 = .ok (.iload_n 1, 1) := by decide +kernel
theorem d_Things_setPlural_26 : decode b_Things_setPlural 26 = .ok (.iaload, 1) := by decide +kernel
theorem d_Things_setPlural_27 : decode b_Things_setPlural 27 = .ok (.istore_n 3, 1) := by decide +kernel
theorem d_Things_setPlural_28 : decode b_Things_setPlural 28 = .ok (.aload_n 0, 1) := by decide +kernel
theorem d_Things_setPlural_29 : decode b_Things_setPlural 29 = .ok (.getfield 27, 3) := by decide +kernel
theorem d_Things_setPlural_32 : decode b_Things_setPlural 32 = .ok (.iload_n 1, 1) := by decide +kernel
theorem d_Things_setPlural_33 : decode b_Things_setPlural 33 = .ok (.iload_n 2, 1) := by decide +kernel
theorem d_Things_setPlural_34 : decode b_Things_setPlural 34 = .ok (.iastore, 1) := by decide +kernel
theorem d_Things_setPlural_35 : decode b_Things_setPlural 35 = .ok (.iload_n 3, 1) := by decide +kernel
theorem d_Things_setPlural_36 : decode b_Things_setPlural 36 = .ok (.iconst 1, 1) := by decide +kernel
theorem d_Things_setPlural_37 : decode b_Things_setPlural 37 = .ok (.iadd, 1) := by decide +kernel
theorem d_Things_setPlural_38 : decode b_Things_setPlural 38 = .ok (.ireturn, 1) := by decide +kernel
theorem d_Things_setWeight_0 : decode b_Things_setWeight 0 = .ok (.iload_n 1, 1) := by decide +kernel
theorem d_Things_setWeight_1 : decode b_Things_setWeight 1 = .ok (.invokestatic 53, 3) := by decide +kernel
theorem d_Things_setWeight_4 : decode b_Things_setWeight 4 = .ok (.ifCond .eq 13, 3) := by decide +kernel
theorem d_Things_setWeight_7 : decode b_Things_setWeight 7 = .ok (.iload_n 2, 1) := by decide +kernel
theorem d_Things_setWeight_8 : decode b_Things_setWeight 8 = .ok (.ifCond .lt 9, 3) := by decide +kernel
theorem d_Things_setWeight_11 : decode b_Things_setWeight 11 = .ok (.iload_n 2, 1) := by decide +kernel
theorem d_Things_setWeight_12 : decode b_Things_setWeight 12 = .ok (.bipush 9, 2) := by decide +kernel
theorem d_Things_setWeight_14 : decode b_Things_setWeight 14 = .ok (.if_icmp .le 5, 3) := by decide +kernel
theorem d_Things_setWeight_17 : decode b_Things_setWeight 17 = .ok (.iconst (-1), 1) := by decide +kernel
theorem d_Things_setWeight_18 : decode b_Things_setWeight 18 = .ok (.ireturn, 1) := by decide +kernel
theorem d_Things_setWeight_19 : decode b_Things_setWeight 19 = .ok (.aload_n 0, 1) := by decide +kernel
theorem d_Things_setWeight_20 : decode b_Things_setWeight 20 = .ok (.getfield 30, 3) := by decide +kernel
theorem d_Things_setWeight_23 : decode b_Things_setWeight 23 = .ok (.iload_n 1, 1) := by decide +kernel
theorem d_Things_setWeight_24 : decode b_Things_setWeight 24 = .ok (.iaload, 1) := by decide +kernel
theorem d_Things_setWeight_25 : decode b_Things_setWeight 25 = .ok (.istore_n 3, 1) := by decide +kernel
theorem d_Things_setWeight_26 : decode b_Things_setWeight 26 = .ok (.aload_n 0, 1) := by decide +kernel
theorem d_Things_setWeight_27 : decode b_Things_setWeight 27 = .ok (.getfield 30, 3) := by decide +kernel
theorem d_Things_setWeight_30 : decode b_Things_setWeight 30 = .ok (.iload_n 1, 1) := by decide +kernel
theorem d_Things_setWeight_31 : decode b_Things_setWeight 31 = .ok (.iload_n 2, 1) := by decide +kernel
theorem d_Things_setWeight_32 : decode b_Things_setWeight 32 = .ok (.iastore, 1) := by decide +kernel
theorem d_Things_setWeight_33 : decode b_Things_setWeight 33 = .ok (.iload_n 3, 1) := by decide +kernel
theorem d_Things_setWeight_34 : decode b_Things_setWeight 34 = .ok (.ireturn, 1) := by decide +kernel
theorem d_Things_scoreOf_0 : decode b_Things_scoreOf 0 = .ok (.aload_n 0, 1) := by decide +kernel
theorem d_Things_scoreOf_1 : decode b_Things_scoreOf 1 = .ok (.iload_n 1, 1) := by decide +kernel
theorem d_Things_scoreOf_2 : decode b_Things_scoreOf 2 = .ok (.invokevirtual 43, 3) := by decide +kernel
theorem d_Things_scoreOf_5 : decode b_Things_scoreOf 5 = .ok (.ifCond .ne 5, 3) := by decide +kernel
theorem d_Things_scoreOf_8 : decode b_Things_scoreOf 8 = .ok (.iconst 0, 1) := by decide +kernel
theorem d_Things_scoreOf_9 : decode b_Things_scoreOf 9 = .ok (.ireturn, 1) := by decide +kernel
theorem d_Things_scoreOf_10 : decode b_Things_scoreOf 10 = .ok (.iconst 0, 1) := by decide +kernel
theorem d_Things_scoreOf_11 : decode b_Things_scoreOf 11 = .ok (.istore_n 2, 1) := by decide +kernel
theorem d_Things_scoreOf_12 : decode b_Things_scoreOf 12 = .ok (.iconst 0, 1) := by decide +kernel
theorem d_Things_scoreOf_13 : decode b_Things_scoreOf 13 = .ok (.istore_n 3, 1) := by decide +kernel
theorem d_Things_scoreOf_14 : decode b_Things_scoreOf 14 = .ok (.iload_n 3, 1) := by decide +kernel
theorem d_Things_scoreOf_15 : decode b_Things_scoreOf 15 = .ok (.iconst 4, 1) := by decide +kernel
theorem d_Things_scoreOf_16 : decode b_Things_scoreOf 16 = .ok (.if_icmp .ge 29, 3) := by decide +kernel
theorem d_Things_scoreOf_19 : decode b_Things_scoreOf 19 = .ok (.iload_n 2, 1) := by decide +kernel
theorem d_Things_scoreOf_20 : decode b_Things_scoreOf 20 = .ok (.aload_n 0, 1) := by decide +kernel
theorem d_Things_scoreOf_21 : decode b_Things_scoreOf 21 = .ok (.getfield 30, 3) := by decide +kernel
theorem d_Things_scoreOf_24 : decode b_Things_scoreOf 24 = .ok (.iload_n 3, 1) := by decide +kernel
theorem d_Things_scoreOf_25 : decode b_Things_scoreOf 25 = .ok (.iaload, 1) := by decide +kernel
theorem d_Things_scoreOf_26 : decode b_Things_scoreOf 26 = .ok (.aload_n 0, 1) := by decide +kernel
theorem d_Things_scoreOf_27 : decode b_Things_scoreOf 27 = .ok (.getfield 24, 3) := by decide +kernel
theorem d_Things_scoreOf_30 : decode b_Things_scoreOf 30 = .ok (.iload_n 1, 1) := by decide +kernel
theorem d_Things_scoreOf_31 : decode b_Things_scoreOf 31 = .ok (.iconst 4, 1) := by decide +kernel
theorem d_Things_scoreOf_32 : decode b_Things_scoreOf 32 = .ok (.imul, 1) := by decide +kernel
theorem d_Things_scoreOf_33 : decode b_Things_scoreOf 33 = .ok (.iload_n 3, 1) := by decide +kernel
theorem d_Things_scoreOf_34 : decode b_Things_scoreOf 34 = .ok (.iadd, 1) := by decide +kernel
theorem d_Things_scoreOf_35 : decode b_Things_scoreOf 35 = .ok (.iaload, 1) := by decide +kernel
theorem d_Things_scoreOf_36 : decode b_Things_scoreOf 36 = .ok (.imul, 1) := by decide +kernel
theorem d_Things_scoreOf_37 : decode b_Things_scoreOf 37 = .ok (.iadd, 1) := by decide +kernel
theorem d_Things_scoreOf_38 : decode b_Things_scoreOf 38 = .ok (.istore_n 2, 1) := by decide +kernel
theorem d_Things_scoreOf_39 : decode b_Things_scoreOf 39 = .ok (.iinc 3 1, 3) := by decide +kernel
theorem d_Things_scoreOf_42 : decode b_Things_scoreOf 42 = .ok (.goto (-28), 3) := by decide +kernel
theorem d_Things_scoreOf_45 : decode b_Things_scoreOf 45 = .ok (.iload_n 2, 1) := by decide +kernel
theorem d_Things_scoreOf_46 : decode b_Things_scoreOf 46 = .ok (.ireturn, 1) := by decide +kernel
theorem d_Things_areAlike_0 : decode b_Things_areAlike 0 = .ok (.aload_n 0, 1) := by decide +kernel
theorem d_Things_areAlike_1 : decode b_Things_areAlike 1 = .ok (.iload_n 1, 1) := by decide +kernel
theorem d_Things_areAlike_2 : decode b_Things_areAlike 2 = .ok (.invokevirtual 43, 3) := by decide +kernel
theorem d_Things_areAlike_5 : decode b_Things_areAlike 5 = .ok (.ifCond .eq 21, 3) := by decide +kernel
theorem d_Things_areAlike_8 : decode b_Things_areAlike 8 = .ok (.aload_n 0, 1) := by decide +kernel
theorem d_Things_areAlike_9 : decode b_Things_areAlike 9 = .ok (.iload_n 2, 1) := by decide +kernel
theorem d_Things_areAlike_10 : decode b_Things_areAlike 10 = .ok (.invokevirtual 43, 3) := by decide +kernel
theorem d_Things_areAlike_13 : decode b_Things_areAlike 13 = .ok (.ifCond .eq 13, 3) := by decide +kernel
theorem d_Things_areAlike_16 : decode b_Things_areAlike 16 = .ok (.aload_n 0, 1) := by decide +kernel
theorem d_Things_areAlike_17 : decode b_Things_areAlike 17 = .ok (.getfield 18, 3) := by decide +kernel
theorem d_Things_areAlike_20 : decode b_Things_areAlike 20 = .ok (.iload_n 1, 1) := by decide +kernel
theorem d_Things_areAlike_21 : decode b_Things_areAlike 21 = .ok (.iaload, 1) := by decide +kernel
theorem d_Things_areAlike_22 : decode b_Things_areAlike 22 = .ok (.iconst (-1), 1) := by decide +kernel
theorem d_Things_areAlike_23 : decode b_Things_areAlike 23 = .ok (.if_icmp .ne 5, 3) := by decide +kernel
theorem d_Things_areAlike_26 : decode b_Things_areAlike 26 = .ok (.iconst 0, 1) := by decide +kernel
theorem d_Things_areAlike_27 : decode b_Things_areAlike 27 = .ok (.ireturn, 1) := by decide +kernel
theorem d_Things_areAlike_28 : decode b_Things_areAlike 28 = .ok (.iconst 0, 1) := by decide +kernel
theorem d_Things_areAlike_29 : decode b_Things_areAlike 29 = .ok (.istore_n 3, 1) := by decide +kernel
theorem d_Things_areAlike_30 : decode b_Things_areAlike 30 = .ok (.iload_n 3, 1) := by decide +kernel
theorem d_Things_areAlike_31 : decode b_Things_areAlike 31 = .ok (.iconst 4, 1) := by decide +kernel
theorem d_Things_areAlike_32 : decode b_Things_areAlike 32 = .ok (.if_icmp .ge 34, 3) := by decide +kernel
theorem d_Things_areAlike_35 : decode b_Things_areAlike 35 = .ok (.aload_n 0, 1) := by decide +kernel
theorem d_Things_areAlike_36 : decode b_Things_areAlike 36 = .ok (.getfield 24, 3) := by decide +kernel
theorem d_Things_areAlike_39 : decode b_Things_areAlike 39 = .ok (.iload_n 1, 1) := by decide +kernel
theorem d_Things_areAlike_40 : decode b_Things_areAlike 40 = .ok (.iconst 4, 1) := by decide +kernel
theorem d_Things_areAlike_41 : decode b_Things_areAlike 41 = .ok (.imul, 1) := by decide +kernel
theorem d_Things_areAlike_42 : decode b_Things_areAlike 42 = .ok (.iload_n 3, 1) := by decide +kernel
theorem d_Things_areAlike_43 : decode b_Things_areAlike 43 = .ok (.iadd, 1) := by decide +kernel
theorem d_Things_areAlike_44 : decode b_Things_areAlike 44 = .ok (.iaload, 1) := by decide +kernel
theorem d_Things_areAlike_45 : decode b_Things_areAlike 45 = .ok (.aload_n 0, 1) := by decide +kernel
theorem d_Things_areAlike_46 : decode b_Things_areAlike 46 = .ok (.getfield 24, 3) := by decide +kernel
theorem d_Things_areAlike_49 : decode b_Things_areAlike 49 = .ok (.iload_n 2, 1) := by decide +kernel
theorem d_Things_areAlike_50 : decode b_Things_areAlike 50 = .ok (.iconst 4, 1) := by decide +kernel
theorem d_Things_areAlike_51 : decode b_Things_areAlike 51 = .ok (.imul, 1) := by decide +kernel
theorem d_Things_areAlike_52 : decode b_Things_areAlike 52 = .ok (.iload_n 3, 1) := by decide +kernel
theorem d_Things_areAlike_53 : decode b_Things_areAlike 53 = .ok (.iadd, 1) := by decide +kernel
theorem d_Things_areAlike_54 : decode b_Things_areAlike 54 = .ok (.iaload, 1) := by decide +kernel
theorem d_Things_areAlike_55 : decode b_Things_areAlike 55 = .ok (.if_icmp .eq 5, 3) := by decide +kernel
theorem d_Things_areAlike_58 : decode b_Things_areAlike 58 = .ok (.iconst 0, 1) := by decide +kernel
theorem d_Things_areAlike_59 : decode b_Things_areAlike 59 = .ok (.ireturn, 1) := by decide +kernel
theorem d_Things_areAlike_60 : decode b_Things_areAlike 60 = .ok (.iinc 3 1, 3) := by decide +kernel
theorem d_Things_areAlike_63 : decode b_Things_areAlike 63 = .ok (.goto (-33), 3) := by decide +kernel
theorem d_Things_areAlike_66 : decode b_Things_areAlike 66 = .ok (.aload_n 0, 1) := by decide +kernel
theorem d_Things_areAlike_67 : decode b_Things_areAlike 67 = .ok (.getfield 18, 3) := by decide +kernel
theorem d_Things_areAlike_70 : decode b_Things_areAlike 70 = .ok (.iload_n 1, 1) := by decide +kernel
theorem d_Things_areAlike_71 : decode b_Things_areAlike 71 = .ok (.iaload, 1) := by decide +kernel
theorem d_Things_areAlike_72 : decode b_Things_areAlike 72 = .ok (.aload_n 0, 1) := by decide +kernel
theorem d_Things_areAlike_73 : decode b_Things_areAlike 73 = .ok (.getfield 18, 3) := by decide +kernel
theorem d_Things_areAlike_76 : decode b_Things_areAlike 76 = .ok (.iload_n 2, 1) := by decide +kernel
theorem d_Things_areAlike_77 : decode b_Things_areAlike 77 = .ok (.iaload, 1) := by decide +kernel
theorem d_Things_areAlike_78 : decode b_Things_areAlike 78 = .ok (.if_icmp .ne 52, 3) := by decide +kernel
theorem d_Things_areAlike_81 : decode b_Things_areAlike 81 = .ok (.aload_n 0, 1) := by decide +kernel
theorem d_Things_areAlike_82 : decode b_Things_areAlike 82 = .ok (.getfield 9, 3) := by decide +kernel
theorem d_Things_areAlike_85 : decode b_Things_areAlike 85 = .ok (.iload_n 1, 1) := by decide +kernel
theorem d_Things_areAlike_86 : decode b_Things_areAlike 86 = .ok (.iaload, 1) := by decide +kernel
theorem d_Things_areAlike_87 : decode b_Things_areAlike 87 = .ok (.aload_n 0, 1) := by decide +kernel
theorem d_Things_areAlike_88 : decode b_Things_areAlike 88 = .ok (.getfield 9, 3) := by decide +kernel
theorem d_Things_areAlike_91 : decode b_Things_areAlike 91 = .ok (.iload_n 2, 1) := by decide +kernel
theorem d_Things_areAlike_92 : decode b_Things_areAlike 92 = .ok (.iaload, 1) := by decide +kernel
theorem d_Things_areAlike_93 : decode b_Things_areAlike 93 = .ok (.if_icmp .ne 37, 3) := by decide +kernel
theorem d_Things_areAlike_96 : decode b_Things_areAlike 96 = .ok (.aload_n 0, 1) := by decide +kernel
theorem d_Things_areAlike_97 : decode b_Things_areAlike 97 = .ok (.getfield 15, 3) := by decide +kernel
theorem d_Things_areAlike_100 : decode b_Things_areAlike 100 = .ok (.iload_n 1, 1) := by decide +kernel
theorem d_Things_areAlike_101 : decode b_Things_areAlike 101 = .ok (.iaload, 1) := by decide +kernel
theorem d_Things_areAlike_102 : decode b_Things_areAlike 102 = .ok (.aload_n 0, 1) := by decide +kernel
theorem d_Things_areAlike_103 : decode b_Things_areAlike 103 = .ok (.getfield 15, 3) := by decide +kernel
theorem d_Things_areAlike_106 : decode b_Things_areAlike 106 = .ok (.iload_n 2, 1) := by decide +kernel
theorem d_Things_areAlike_107 : decode b_Things_areAlike 107 = .ok (.iaload, 1) := by decide +kernel
theorem d_Things_areAlike_108 : decode b_Things_areAlike 108 = .ok (.if_icmp .ne 22, 3) := by decide +kernel
theorem d_Things_areAlike_111 : decode b_Things_areAlike 111 = .ok (.aload_n 0, 1) := by decide +kernel
theorem d_Things_areAlike_112 : decode b_Things_areAlike 112 = .ok (.getfield 21, 3) := by decide +kernel
theorem d_Things_areAlike_115 : decode b_Things_areAlike 115 = .ok (.iload_n 1, 1) := by decide +kernel
theorem d_Things_areAlike_116 : decode b_Things_areAlike 116 = .ok (.iaload, 1) := by decide +kernel
theorem d_Things_areAlike_117 : decode b_Things_areAlike 117 = .ok (.aload_n 0, 1) := by decide +kernel
theorem d_Things_areAlike_118 : decode b_Things_areAlike 118 = .ok (.getfield 21, 3) := by decide +kernel
theorem d_Things_areAlike_121 : decode b_Things_areAlike 121 = .ok (.iload_n 2, 1) := by decide +kernel
theorem d_Things_areAlike_122 : decode b_Things_areAlike 122 = .ok (.iaload, 1) := by decide +kernel
theorem d_Things_areAlike_123 : decode b_Things_areAlike 123 = .ok (.if_icmp .ne 7, 3) := by decide +kernel
theorem d_Things_areAlike_126 : decode b_Things_areAlike 126 = .ok (.iconst 1, 1) := by decide +kernel
theorem d_Things_areAlike_127 : decode b_Things_areAlike 127 = .ok (.goto 4, 3) := by decide +kernel
theorem d_Things_areAlike_130 : decode b_Things_areAlike 130 = .ok (.iconst 0, 1) := by decide +kernel
theorem d_Things_areAlike_131 : decode b_Things_areAlike 131 = .ok (.ireturn, 1) := by decide +kernel
theorem d_Things_allSet_0 : decode b_Things_allSet 0 = .ok (.iconst 0, 1) := by decide +kernel
theorem d_Things_allSet_1 : decode b_Things_allSet 1 = .ok (.istore_n 1, 1) := by decide +kernel
theorem d_Things_allSet_2 : decode b_Things_allSet 2 = .ok (.iconst 0, 1) := by decide +kernel
theorem d_Things_allSet_3 : decode b_Things_allSet 3 = .ok (.istore_n 2, 1) := by decide +kernel
theorem d_Things_allSet_4 : decode b_Things_allSet 4 = .ok (.iload_n 2, 1) := by decide +kernel
theorem d_Things_allSet_5 : decode b_Things_allSet 5 = .ok (.aload_n 0, 1) := by decide +kernel
theorem d_Things_allSet_6 : decode b_Things_allSet 6 = .ok (.getfield 33, 3) := by decide +kernel
theorem d_Things_allSet_9 : decode b_Things_allSet 9 = .ok (.if_icmp .ge 15, 3) := by decide +kernel
theorem d_Things_allSet_12 : decode b_Things_allSet 12 = .ok (.iload_n 1, 1) := by decide +kernel
theorem d_Things_allSet_13 : decode b_Things_allSet 13 = .ok (.iconst 1, 1) := by decide +kernel
theorem d_Things_allSet_14 : decode b_Things_allSet 14 = .ok (.iload_n 2, 1) := by decide +kernel
theorem d_Things_allSet_15 : decode b_Things_allSet 15 = .ok (.ishl, 1) := by decide +kernel
theorem d_Things_allSet_16 : decode b_Things_allSet 16 = .ok (.ior, 1) := by decide +kernel
theorem d_Things_allSet_17 : decode b_Things_allSet 17 = .ok (.istore_n 1, 1) := by decide +kernel
theorem d_Things_allSet_18 : decode b_Things_allSet 18 = .ok (.iinc 2 1, 3) := by decide +kernel
theorem d_Things_allSet_21 : decode b_Things_allSet 21 = .ok (.goto (-17), 3) := by decide +kernel
theorem d_Things_allSet_24 : decode b_Things_allSet 24 = .ok (.iload_n 1, 1) := by decide +kernel
theorem d_Things_allSet_25 : decode b_Things_allSet 25 = .ok (.ireturn, 1) := by decide +kernel
theorem d_Things_placedSet_0 : decode b_Things_placedSet 0 = .ok (.iconst 0, 1) := by decide +kernel
theorem d_Things_placedSet_1 : decode b_Things_placedSet 1 = .ok (.istore_n 2, 1) := by decide +kernel
theorem d_Things_placedSet_2 : decode b_Things_placedSet 2 = .ok (.iconst 0, 1) := by decide +kernel
theorem d_Things_placedSet_3 : decode b_Things_placedSet 3 = .ok (.istore_n 3, 1) := by decide +kernel
theorem d_Things_placedSet_4 : decode b_Things_placedSet 4 = .ok (.iload_n 3, 1) := by decide +kernel
theorem d_Things_placedSet_5 : decode b_Things_placedSet 5 = .ok (.aload_n 0, 1) := by decide +kernel
theorem d_Things_placedSet_6 : decode b_Things_placedSet 6 = .ok (.getfield 33, 3) := by decide +kernel
theorem d_Things_placedSet_9 : decode b_Things_placedSet 9 = .ok (.if_icmp .ge 31, 3) := by decide +kernel
theorem d_Things_placedSet_12 : decode b_Things_placedSet 12 = .ok (.iload_n 3, 1) := by decide +kernel
theorem d_Things_placedSet_13 : decode b_Things_placedSet 13 = .ok (.bipush 32, 2) := by decide +kernel
theorem d_Things_placedSet_15 : decode b_Things_placedSet 15 = .ok (.if_icmp .ge 25, 3) := by decide +kernel
theorem d_Things_placedSet_18 : decode b_Things_placedSet 18 = .ok (.aload_n 0, 1) := by decide +kernel
theorem d_Things_placedSet_19 : decode b_Things_placedSet 19 = .ok (.getfield 21, 3) := by decide +kernel
theorem d_Things_placedSet_22 : decode b_Things_placedSet 22 = .ok (.iload_n 3, 1) := by decide +kernel
theorem d_Things_placedSet_23 : decode b_Things_placedSet 23 = .ok (.iaload, 1) := by decide +kernel
theorem d_Things_placedSet_24 : decode b_Things_placedSet 24 = .ok (.iload_n 1, 1) := by decide +kernel
theorem d_Things_placedSet_25 : decode b_Things_placedSet 25 = .ok (.if_icmp .ne 9, 3) := by decide +kernel
theorem d_Things_placedSet_28 : decode b_Things_placedSet 28 = .ok (.iload_n 2, 1) := by decide +kernel
theorem d_Things_placedSet_29 : decode b_Things_placedSet 29 = .ok (.iconst 1, 1) := by decide +kernel
theorem d_Things_placedSet_30 : decode b_Things_placedSet 30 = .ok (.iload_n 3, 1) := by decide +kernel
theorem d_Things_placedSet_31 : decode b_Things_placedSet 31 = .ok (.ishl, 1) := by decide +kernel
theorem d_Things_placedSet_32 : decode b_Things_placedSet 32 = .ok (.ior, 1) := by decide +kernel
theorem d_Things_placedSet_33 : decode b_Things_placedSet 33 = .ok (.istore_n 2, 1) := by decide +kernel
theorem d_Things_placedSet_34 : decode b_Things_placedSet 34 = .ok (.iinc 3 1, 3) := by decide +kernel
theorem d_Things_placedSet_37 : decode b_Things_placedSet 37 = .ok (.goto (-33), 3) := by decide +kernel
theorem d_Things_placedSet_40 : decode b_Things_placedSet 40 = .ok (.iload_n 2, 1) := by decide +kernel
theorem d_Things_placedSet_41 : decode b_Things_placedSet 41 = .ok (.ireturn, 1) := by decide +kernel
theorem d_Things_thereSet_0 : decode b_Things_thereSet 0 = .ok (.aload_n 0, 1) := by decide +kernel
theorem d_Things_thereSet_1 : decode b_Things_thereSet 1 = .ok (.iconst 1, 1) := by decide +kernel
theorem d_Things_thereSet_2 : decode b_Things_thereSet 2 = .ok (.invokevirtual 56, 3) := by decide +kernel
theorem d_Things_thereSet_5 : decode b_Things_thereSet 5 = .ok (.aload_n 0, 1) := by decide +kernel
theorem d_Things_thereSet_6 : decode b_Things_thereSet 6 = .ok (.iconst 2, 1) := by decide +kernel
theorem d_Things_thereSet_7 : decode b_Things_thereSet 7 = .ok (.invokevirtual 56, 3) := by decide +kernel
theorem d_Things_thereSet_10 : decode b_Things_thereSet 10 = .ok (.ior, 1) := by decide +kernel
theorem d_Things_thereSet_11 : decode b_Things_thereSet 11 = .ok (.ireturn, 1) := by decide +kernel
theorem d_Things_hasWords_0 : decode b_Things_hasWords 0 = .ok (.aload_n 0, 1) := by decide +kernel
theorem d_Things_hasWords_1 : decode b_Things_hasWords 1 = .ok (.iload_n 1, 1) := by decide +kernel
theorem d_Things_hasWords_2 : decode b_Things_hasWords 2 = .ok (.invokevirtual 43, 3) := by decide +kernel
theorem d_Things_hasWords_5 : decode b_Things_hasWords 5 = .ok (.ifCond .eq 27, 3) := by decide +kernel
theorem d_Things_hasWords_8 : decode b_Things_hasWords 8 = .ok (.iload_n 2, 1) := by decide +kernel
theorem d_Things_hasWords_9 : decode b_Things_hasWords 9 = .ok (.aload_n 0, 1) := by decide +kernel
theorem d_Things_hasWords_10 : decode b_Things_hasWords 10 = .ok (.getfield 9, 3) := by decide +kernel
theorem d_Things_hasWords_13 : decode b_Things_hasWords 13 = .ok (.iload_n 1, 1) := by decide +kernel
theorem d_Things_hasWords_14 : decode b_Things_hasWords 14 = .ok (.iaload, 1) := by decide +kernel
theorem d_Things_hasWords_15 : decode b_Things_hasWords 15 = .ok (.aload_n 0, 1) := by decide +kernel
theorem d_Things_hasWords_16 : decode b_Things_hasWords 16 = .ok (.getfield 15, 3) := by decide +kernel
theorem d_Things_hasWords_19 : decode b_Things_hasWords 19 = .ok (.iload_n 1, 1) := by decide +kernel
theorem d_Things_hasWords_20 : decode b_Things_hasWords 20 = .ok (.iaload, 1) := by decide +kernel
theorem d_Things_hasWords_21 : decode b_Things_hasWords 21 = .ok (.ior, 1) := by decide +kernel
theorem d_Things_hasWords_22 : decode b_Things_hasWords 22 = .ok (.iconst (-1), 1) := by decide +kernel
theorem d_Things_hasWords_23 : decode b_Things_hasWords 23 = .ok (.ixor, 1) := by decide +kernel
theorem d_Things_hasWords_24 : decode b_Things_hasWords 24 = .ok (.iand, 1) := by decide +kernel
theorem d_Things_hasWords_25 : decode b_Things_hasWords 25 = .ok (.ifCond .ne 7, 3) := by decide +kernel
theorem d_Things_hasWords_28 : decode b_Things_hasWords 28 = .ok (.iconst 1, 1) := by decide +kernel
theorem d_Things_hasWords_29 : decode b_Things_hasWords 29 = .ok (.goto 4, 3) := by decide +kernel
theorem d_Things_hasWords_32 : decode b_Things_hasWords 32 = .ok (.iconst 0, 1) := by decide +kernel
theorem d_Things_hasWords_33 : decode b_Things_hasWords 33 = .ok (.ireturn, 1) := by decide +kernel
theorem d_Things_fitByWords_0 : decode b_Things_fitByWords 0 = .ok (.aload_n 0, 1) := by decide +kernel
theorem d_Things_fitByWords_1 : decode b_Things_fitByWords 1 = .ok (.iload_n 1, 1) := by decide +kernel
theorem d_Things_fitByWords_2 : decode b_Things_fitByWords 2 = .ok (.invokevirtual 43, 3) := by decide +kernel
theorem d_Things_fitByWords_5 : decode b_Things_fitByWords 5 = .ok (.ifCond .eq 30, 3) := by decide +kernel
theorem d_Things_fitByWords_8 : decode b_Things_fitByWords 8 = .ok (.iload_n 3, 1) := by decide +kernel
theorem d_Things_fitByWords_9 : decode b_Things_fitByWords 9 = .ok (.invokestatic 47, 3) := by decide +kernel
theorem d_Things_fitByWords_12 : decode b_Things_fitByWords 12 = .ok (.ifCond .eq 23, 3) := by decide +kernel
theorem d_Things_fitByWords_15 : decode b_Things_fitByWords 15 = .ok (.iload_n 2, 1) := by decide +kernel
theorem d_Things_fitByWords_16 : decode b_Things_fitByWords 16 = .ok (.aload_n 0, 1) := by decide +kernel
theorem d_Things_fitByWords_17 : decode b_Things_fitByWords 17 = .ok (.getfield 9, 3) := by decide +kernel
theorem d_Things_fitByWords_20 : decode b_Things_fitByWords 20 = .ok (.iload_n 1, 1) := by decide +kernel
theorem d_Things_fitByWords_21 : decode b_Things_fitByWords 21 = .ok (.iaload, 1) := by decide +kernel
theorem d_Things_fitByWords_22 : decode b_Things_fitByWords 22 = .ok (.aload_n 0, 1) := by decide +kernel
theorem d_Things_fitByWords_23 : decode b_Things_fitByWords 23 = .ok (.getfield 15, 3) := by decide +kernel
theorem d_Things_fitByWords_26 : decode b_Things_fitByWords 26 = .ok (.iload_n 1, 1) := by decide +kernel
theorem d_Things_fitByWords_27 : decode b_Things_fitByWords 27 = .ok (.iaload, 1) := by decide +kernel
theorem d_Things_fitByWords_28 : decode b_Things_fitByWords 28 = .ok (.ior, 1) := by decide +kernel
theorem d_Things_fitByWords_29 : decode b_Things_fitByWords 29 = .ok (.iconst (-1), 1) := by decide +kernel
theorem d_Things_fitByWords_30 : decode b_Things_fitByWords 30 = .ok (.ixor, 1) := by decide +kernel
theorem d_Things_fitByWords_31 : decode b_Things_fitByWords 31 = .ok (.iand, 1) := by decide +kernel
theorem d_Things_fitByWords_32 : decode b_Things_fitByWords 32 = .ok (.ifCond .eq 5, 3) := by decide +kernel
theorem d_Things_fitByWords_35 : decode b_Things_fitByWords 35 = .ok (.iconst 0, 1) := by decide +kernel
theorem d_Things_fitByWords_36 : decode b_Things_fitByWords 36 = .ok (.ireturn, 1) := by decide +kernel
theorem d_Things_fitByWords_37 : decode b_Things_fitByWords 37 = .ok (.aload_n 0, 1) := by decide +kernel
theorem d_Things_fitByWords_38 : decode b_Things_fitByWords 38 = .ok (.getfield 18, 3) := by decide +kernel
theorem d_Things_fitByWords_41 : decode b_Things_fitByWords 41 = .ok (.iload_n 1, 1) := by decide +kernel
theorem d_Things_fitByWords_42 : decode b_Things_fitByWords 42 = .ok (.iaload, 1) := by decide +kernel
theorem d_Things_fitByWords_43 : decode b_Things_fitByWords 43 = .ok (.istore 4, 2) := by decide +kernel
theorem d_Things_fitByWords_45 : decode b_Things_fitByWords 45 = .ok (.aload_n 0, 1) := by decide +kernel
theorem d_Things_fitByWords_46 : decode b_Things_fitByWords 46 = .ok (.getfield 9, 3) := by decide +kernel
theorem d_Things_fitByWords_49 : decode b_Things_fitByWords 49 = .ok (.iload_n 1, 1) := by decide +kernel
theorem d_Things_fitByWords_50 : decode b_Things_fitByWords 50 = .ok (.iaload, 1) := by decide +kernel
theorem d_Things_fitByWords_51 : decode b_Things_fitByWords 51 = .ok (.iload_n 3, 1) := by decide +kernel
theorem d_Things_fitByWords_52 : decode b_Things_fitByWords 52 = .ok (.iushr, 1) := by decide +kernel
theorem d_Things_fitByWords_53 : decode b_Things_fitByWords 53 = .ok (.iconst 1, 1) := by decide +kernel
theorem d_Things_fitByWords_54 : decode b_Things_fitByWords 54 = .ok (.iand, 1) := by decide +kernel
theorem d_Things_fitByWords_55 : decode b_Things_fitByWords 55 = .ok (.ifCond .eq 7, 3) := by decide +kernel
theorem d_Things_fitByWords_58 : decode b_Things_fitByWords 58 = .ok (.iconst 1, 1) := by decide +kernel
theorem d_Things_fitByWords_59 : decode b_Things_fitByWords 59 = .ok (.goto 4, 3) := by decide +kernel
theorem d_Things_fitByWords_62 : decode b_Things_fitByWords 62 = .ok (.iconst 0, 1) := by decide +kernel
theorem d_Things_fitByWords_63 : decode b_Things_fitByWords 63 = .ok (.istore 5, 2) := by decide +kernel
theorem d_Things_fitByWords_65 : decode b_Things_fitByWords 65 = .ok (.iload 4, 2) := by decide +kernel
theorem d_Things_fitByWords_67 : decode b_Things_fitByWords 67 = .ok (.invokestatic 50, 3) := by decide +kernel
theorem d_Things_fitByWords_70 : decode b_Things_fitByWords 70 = .ok (.ifCond .eq 18, 3) := by decide +kernel
theorem d_Things_fitByWords_73 : decode b_Things_fitByWords 73 = .ok (.aload_n 0, 1) := by decide +kernel
theorem d_Things_fitByWords_74 : decode b_Things_fitByWords 74 = .ok (.getfield 27, 3) := by decide +kernel
theorem d_Things_fitByWords_77 : decode b_Things_fitByWords 77 = .ok (.iload 4, 2) := by decide +kernel
theorem d_Things_fitByWords_79 : decode b_Things_fitByWords 79 = .ok (.iaload, 1) := by decide +kernel
theorem d_Things_fitByWords_80 : decode b_Things_fitByWords 80 = .ok (.iload_n 3, 1) := by decide +kernel
theorem d_Things_fitByWords_81 : decode b_Things_fitByWords 81 = .ok (.if_icmp .ne 7, 3) := by decide +kernel
theorem d_Things_fitByWords_84 : decode b_Things_fitByWords 84 = .ok (.iconst 2, 1) := by decide +kernel
theorem d_Things_fitByWords_85 : decode b_Things_fitByWords 85 = .ok (.goto 4, 3) := by decide +kernel
theorem d_Things_fitByWords_88 : decode b_Things_fitByWords 88 = .ok (.iconst 0, 1) := by decide +kernel
theorem d_Things_fitByWords_89 : decode b_Things_fitByWords 89 = .ok (.istore 6, 2) := by decide +kernel
theorem d_Things_fitByWords_91 : decode b_Things_fitByWords 91 = .ok (.iload 5, 2) := by decide +kernel
theorem d_Things_fitByWords_93 : decode b_Things_fitByWords 93 = .ok (.iload 6, 2) := by decide +kernel
theorem d_Things_fitByWords_95 : decode b_Things_fitByWords 95 = .ok (.ior, 1) := by decide +kernel
theorem d_Things_fitByWords_96 : decode b_Things_fitByWords 96 = .ok (.ireturn, 1) := by decide +kernel
theorem d_Picks_clear_0 : decode b_Picks_clear 0 = .ok (.aload_n 0, 1) := by decide +kernel
theorem d_Picks_clear_1 : decode b_Picks_clear 1 = .ok (.iconst 0, 1) := by decide +kernel
theorem d_Picks_clear_2 : decode b_Picks_clear 2 = .ok (.putfield 15, 3) := by decide +kernel
theorem d_Picks_clear_5 : decode b_Picks_clear 5 = .ok (.aload_n 0, 1) := by decide +kernel
theorem d_Picks_clear_6 : decode b_Picks_clear 6 = .ok (.iconst 0, 1) := by decide +kernel
theorem d_Picks_clear_7 : decode b_Picks_clear 7 = .ok (.putfield 19, 3) := by decide +kernel
theorem d_Picks_clear_10 : decode b_Picks_clear 10 = .ok (.return_, 1) := by decide +kernel
theorem d_Picks_add_0 : decode b_Picks_add 0 = .ok (.iconst 0, 1) := by decide +kernel
theorem d_Picks_add_1 : decode b_Picks_add 1 = .ok (.istore_n 2, 1) := by decide +kernel
theorem d_Picks_add_2 : decode b_Picks_add 2 = .ok (.iload_n 2, 1) := by decide +kernel
theorem d_Picks_add_3 : decode b_Picks_add 3 = .ok (.bipush 32, 2) := by decide +kernel
theorem d_Picks_add_5 : decode b_Picks_add 5 = .ok (.if_icmp .ge 69, 3) := by decide +kernel
theorem d_Picks_add_8 : decode b_Picks_add 8 = .ok (.iload_n 1, 1) := by decide +kernel
theorem d_Picks_add_9 : decode b_Picks_add 9 = .ok (.iload_n 2, 1) := by decide +kernel
theorem d_Picks_add_10 : decode b_Picks_add 10 = .ok (.invokestatic 22, 3) := by decide +kernel
theorem d_Picks_add_13 : decode b_Picks_add 13 = .ok (.ifCond .eq 55, 3) := by decide +kernel
theorem d_Picks_add_16 : decode b_Picks_add 16 = .ok (.aload_n 0, 1) := by decide +kernel
theorem d_Picks_add_17 : decode b_Picks_add 17 = .ok (.getfield 19, 3) := by decide +kernel
theorem d_Picks_add_20 : decode b_Picks_add 20 = .ok (.iload_n 2, 1) := by decide +kernel
theorem d_Picks_add_21 : decode b_Picks_add 21 = .ok (.invokestatic 22, 3) := by decide +kernel
theorem d_Picks_add_24 : decode b_Picks_add 24 = .ok (.ifCond .ne 44, 3) := by decide +kernel
theorem d_Picks_add_27 : decode b_Picks_add 27 = .ok (.aload_n 0, 1) := by decide +kernel
theorem d_Picks_add_28 : decode b_Picks_add 28 = .ok (.getfield 15, 3) := by decide +kernel
theorem d_Picks_add_31 : decode b_Picks_add 31 = .ok (.bipush 32, 2) := by decide +kernel
theorem d_Picks_add_33 : decode b_Picks_add 33 = .ok (.if_icmp .ge 35, 3) := by decide +kernel
theorem d_Picks_add_36 : decode b_Picks_add 36 = .ok (.aload_n 0, 1) := by decide +kernel
theorem d_Picks_add_37 : decode b_Picks_add 37 = .ok (.getfield 9, 3) := by decide +kernel
theorem d_Picks_add_40 : decode b_Picks_add 40 = .ok (.aload_n 0, 1) := by decide +kernel
theorem d_Picks_add_41 : decode b_Picks_add 41 = .ok (.getfield 15, 3) := by decide +kernel
theorem d_Picks_add_44 : decode b_Picks_add 44 = .ok (.iload_n 2, 1) := by decide +kernel
theorem d_Picks_add_45 : decode b_Picks_add 45 = .ok (.iastore, 1) := by decide +kernel
theorem d_Picks_add_46 : decode b_Picks_add 46 = .ok (.aload_n 0, 1) := by decide +kernel
theorem d_Picks_add_47 : decode b_Picks_add 47 = .ok (.dup, 1) := by decide +kernel
theorem d_Picks_add_48 : decode b_Picks_add 48 = .ok (.getfield 15, 3) := by decide +kernel
theorem d_Picks_add_51 : decode b_Picks_add 51 = .ok (.iconst 1, 1) := by decide +kernel
theorem d_Picks_add_52 : decode b_Picks_add 52 = .ok (.iadd, 1) := by decide +kernel
theorem d_Picks_add_53 : decode b_Picks_add 53 = .ok (.putfield 15, 3) := by decide +kernel
theorem d_Picks_add_56 : decode b_Picks_add 56 = .ok (.aload_n 0, 1) := by decide +kernel
theorem d_Picks_add_57 : decode b_Picks_add 57 = .ok (.dup, 1) := by decide +kernel
theorem d_Picks_add_58 : decode b_Picks_add 58 = .ok (.getfield 19, 3) := by decide +kernel
theorem d_Picks_add_61 : decode b_Picks_add 61 = .ok (.iconst 1, 1) := by decide +kernel
theorem d_Picks_add_62 : decode b_Picks_add 62 = .ok (.iload_n 2, 1) := by decide +kernel
theorem d_Picks_add_63 : decode b_Picks_add 63 = .ok (.ishl, 1) := by decide +kernel
theorem d_Picks_add_64 : decode b_Picks_add 64 = .ok (.ior, 1) := by decide +kernel
theorem d_Picks_add_65 : decode b_Picks_add 65 = .ok (.putfield 19, 3) := by decide +kernel
theorem d_Picks_add_68 : decode b_Picks_add 68 = .ok (.iinc 2 1, 3) := by decide +kernel
theorem d_Picks_add_71 : decode b_Picks_add 71 = .ok (.goto (-69), 3) := by decide +kernel
theorem d_Picks_add_74 : decode b_Picks_add 74 = .ok (.return_, 1) := by decide +kernel
theorem d_Picks_at_0 : decode b_Picks_at 0 = .ok (.iload_n 1, 1) := by decide +kernel
theorem d_Picks_at_1 : decode b_Picks_at 1 = .ok (.ifCond .lt 29, 3) := by decide +kernel
theorem d_Picks_at_4 : decode b_Picks_at 4 = .ok (.iload_n 1, 1) := by decide +kernel
theorem d_Picks_at_5 : decode b_Picks_at 5 = .ok (.aload_n 0, 1) := by decide +kernel
theorem d_Picks_at_6 : decode b_Picks_at 6 = .ok (.getfield 15, 3) := by decide +kernel
theorem d_Picks_at_9 : decode b_Picks_at 9 = .ok (.if_icmp .ge 21, 3) := by decide +kernel
theorem d_Picks_at_12 : decode b_Picks_at 12 = .ok (.iload_n 1, 1) := by decide +kernel
theorem d_Picks_at_13 : decode b_Picks_at 13 = .ok (.aload_n 0, 1) := by decide +kernel
theorem d_Picks_at_14 : decode b_Picks_at 14 = .ok (.getfield 9, 3) := by decide +kernel
theorem d_Picks_at_17 : decode b_Picks_at 17 = .ok (.arraylength, 1) := by decide +kernel
theorem d_Picks_at_18 : decode b_Picks_at 18 = .ok (.if_icmp .ge 12, 3) := by decide +kernel
theorem d_Picks_at_21 : decode b_Picks_at 21 = .ok (.aload_n 0, 1) := by decide +kernel
theorem d_Picks_at_22 : decode b_Picks_at 22 = .ok (.getfield 9, 3) := by decide +kernel
theorem d_Picks_at_25 : decode b_Picks_at 25 = .ok (.iload_n 1, 1) := by decide +kernel
theorem d_Picks_at_26 : decode b_Picks_at 26 = .ok (.iaload, 1) := by decide +kernel
theorem d_Picks_at_27 : decode b_Picks_at 27 = .ok (.goto 4, 3) := by decide +kernel
theorem d_Picks_at_30 : decode b_Picks_at 30 = .ok (.iconst (-1), 1) := by decide +kernel
theorem d_Picks_at_31 : decode b_Picks_at 31 = .ok (.ireturn, 1) := by decide +kernel
theorem d_Things_init_0 : decode b_Things_init 0 = .ok (.aload_n 0, 1) := by decide +kernel
theorem d_Things_init_1 : decode b_Things_init 1 = .ok (.invokespecial 3, 3) := by decide +kernel
theorem d_Things_init_4 : decode b_Things_init 4 = .ok (.aload_n 0, 1) := by decide +kernel
theorem d_Things_init_5 : decode b_Things_init 5 = .ok (.bipush 32, 2) := by decide +kernel
theorem d_Things_init_7 : decode b_Things_init 7 = .ok (.newarray .int, 2) := by decide +kernel
theorem d_Things_init_9 : decode b_Things_init 9 = .ok (.putfield 9, 3) := by decide +kernel
theorem d_Things_init_12 : decode b_Things_init 12 = .ok (.aload_n 0, 1) := by decide +kernel
theorem d_Things_init_13 : decode b_Things_init 13 = .ok (.bipush 32, 2) := by decide +kernel
theorem d_Things_init_15 : decode b_Things_init 15 = .ok (.newarray .int, 2) := by decide +kernel
theorem d_Things_init_17 : decode b_Things_init 17 = .ok (.putfield 15, 3) := by decide +kernel
theorem d_Things_init_20 : decode b_Things_init 20 = .ok (.aload_n 0, 1) := by decide +kernel
theorem d_Things_init_21 : decode b_Things_init 21 = .ok (.bipush 32, 2) := by decide +kernel
theorem d_Things_init_23 : decode b_Things_init 23 = .ok (.newarray .int, 2) := by decide +kernel
theorem d_Things_init_25 : decode b_Things_init 25 = .ok (.putfield 18, 3) := by decide +kernel
theorem d_Things_init_28 : decode b_Things_init 28 = .ok (.aload_n 0, 1) := by decide +kernel
theorem d_Things_init_29 : decode b_Things_init 29 = .ok (.bipush 32, 2) := by decide +kernel
theorem d_Things_init_31 : decode b_Things_init 31 = .ok (.newarray .int, 2) := by decide +kernel
theorem d_Things_init_33 : decode b_Things_init 33 = .ok (.putfield 21, 3) := by decide +kernel
theorem d_Things_init_36 : decode b_Things_init 36 = .ok (.aload_n 0, 1) := by decide +kernel
theorem d_Things_init_37 : decode b_Things_init 37 = .ok (.sipush 128, 3) := by decide +kernel
theorem d_Things_init_40 : decode b_Things_init 40 = .ok (.newarray .int, 2) := by decide +kernel
theorem d_Things_init_42 : decode b_Things_init 42 = .ok (.putfield 24, 3) := by decide +kernel
theorem d_Things_init_45 : decode b_Things_init 45 = .ok (.aload_n 0, 1) := by decide +kernel
theorem d_Things_init_46 : decode b_Things_init 46 = .ok (.bipush 16, 2) := by decide +kernel
theorem d_Things_init_48 : decode b_Things_init 48 = .ok (.newarray .int, 2) := by decide +kernel
theorem d_Things_init_50 : decode b_Things_init 50 = .ok (.putfield 27, 3) := by decide +kernel
theorem d_Things_init_53 : decode b_Things_init 53 = .ok (.aload_n 0, 1) := by decide +kernel
theorem d_Things_init_54 : decode b_Things_init 54 = .ok (.iconst 4, 1) := by decide +kernel
theorem d_Things_init_55 : decode b_Things_init 55 = .ok (.newarray .int, 2) := by decide +kernel
theorem d_Things_init_57 : decode b_Things_init 57 = .ok (.putfield 30, 3) := by decide +kernel
theorem d_Things_init_60 : decode b_Things_init 60 = .ok (.aload_n 0, 1) := by decide +kernel
theorem d_Things_init_61 : decode b_Things_init 61 = .ok (.iconst 0, 1) := by decide +kernel
theorem d_Things_init_62 : decode b_Things_init 62 = .ok (.putfield 33, 3) := by decide +kernel
theorem d_Things_init_65 : decode b_Things_init 65 = .ok (.aload_n 0, 1) := by decide +kernel
theorem d_Things_init_66 : decode b_Things_init 66 = .ok (.getfield 18, 3) := by decide +kernel
theorem d_Things_init_69 : decode b_Things_init 69 = .ok (.iconst (-1), 1) := by decide +kernel
theorem d_Things_init_70 : decode b_Things_init 70 = .ok (.invokestatic 37, 3) := by decide +kernel
theorem d_Things_init_73 : decode b_Things_init 73 = .ok (.aload_n 0, 1) := by decide +kernel
theorem d_Things_init_74 : decode b_Things_init 74 = .ok (.getfield 21, 3) := by decide +kernel
theorem d_Things_init_77 : decode b_Things_init 77 = .ok (.iconst 1, 1) := by decide +kernel
theorem d_Things_init_78 : decode b_Things_init 78 = .ok (.invokestatic 37, 3) := by decide +kernel
theorem d_Things_init_81 : decode b_Things_init 81 = .ok (.aload_n 0, 1) := by decide +kernel
theorem d_Things_init_82 : decode b_Things_init 82 = .ok (.getfield 27, 3) := by decide +kernel
theorem d_Things_init_85 : decode b_Things_init 85 = .ok (.iconst (-1), 1) := by decide +kernel
theorem d_Things_init_86 : decode b_Things_init 86 = .ok (.invokestatic 37, 3) := by decide +kernel
theorem d_Things_init_89 : decode b_Things_init 89 = .ok (.aload_n 0, 1) := by decide +kernel
theorem d_Things_init_90 : decode b_Things_init 90 = .ok (.getfield 30, 3) := by decide +kernel
theorem d_Things_init_93 : decode b_Things_init 93 = .ok (.iconst 1, 1) := by decide +kernel
theorem d_Things_init_94 : decode b_Things_init 94 = .ok (.invokestatic 37, 3) := by decide +kernel
theorem d_Things_init_97 : decode b_Things_init 97 = .ok (.return_, 1) := by decide +kernel
theorem d_Picks_init_0 : decode b_Picks_init 0 = .ok (.aload_n 0, 1) := by decide +kernel
theorem d_Picks_init_1 : decode b_Picks_init 1 = .ok (.invokespecial 3, 3) := by decide +kernel
theorem d_Picks_init_4 : decode b_Picks_init 4 = .ok (.aload_n 0, 1) := by decide +kernel
theorem d_Picks_init_5 : decode b_Picks_init 5 = .ok (.bipush 32, 2) := by decide +kernel
theorem d_Picks_init_7 : decode b_Picks_init 7 = .ok (.newarray .int, 2) := by decide +kernel
theorem d_Picks_init_9 : decode b_Picks_init 9 = .ok (.putfield 9, 3) := by decide +kernel
theorem d_Picks_init_12 : decode b_Picks_init 12 = .ok (.aload_n 0, 1) := by decide +kernel
theorem d_Picks_init_13 : decode b_Picks_init 13 = .ok (.iconst 0, 1) := by decide +kernel
theorem d_Picks_init_14 : decode b_Picks_init 14 = .ok (.putfield 15, 3) := by decide +kernel
theorem d_Picks_init_17 : decode b_Picks_init 17 = .ok (.aload_n 0, 1) := by decide +kernel
theorem d_Picks_init_18 : decode b_Picks_init 18 = .ok (.iconst 0, 1) := by decide +kernel
theorem d_Picks_init_19 : decode b_Picks_init 19 = .ok (.putfield 19, 3) := by decide +kernel
theorem d_Picks_init_22 : decode b_Picks_init 22 = .ok (.return_, 1) := by decide +kernel

theorem d_M_groupOf_0 : decode b_M_groupOf 0 = .ok (.iconst 0, 1) := by decide +kernel
theorem d_M_groupOf_1 : decode b_M_groupOf 1 = .ok (.istore_n 3, 1) := by decide +kernel
theorem d_M_groupOf_2 : decode b_M_groupOf 2 = .ok (.iconst 0, 1) := by decide +kernel
theorem d_M_groupOf_3 : decode b_M_groupOf 3 = .ok (.istore 4, 2) := by decide +kernel
theorem d_M_groupOf_5 : decode b_M_groupOf 5 = .ok (.iconst 0, 1) := by decide +kernel
theorem d_M_groupOf_6 : decode b_M_groupOf 6 = .ok (.istore 5, 2) := by decide +kernel
theorem d_M_groupOf_8 : decode b_M_groupOf 8 = .ok (.iload 5, 2) := by decide +kernel
theorem d_M_groupOf_10 : decode b_M_groupOf 10 = .ok (.aload_n 0, 1) := by decide +kernel
theorem d_M_groupOf_11 : decode b_M_groupOf 11 = .ok (.getfield 69, 3) := by decide +kernel
theorem d_M_groupOf_14 : decode b_M_groupOf 14 = .ok (.if_icmp .ge 100, 3) := by decide +kernel
theorem d_M_groupOf_17 : decode b_M_groupOf 17 = .ok (.iload_n 1, 1) := by decide +kernel
theorem d_M_groupOf_18 : decode b_M_groupOf 18 = .ok (.iload_n 3, 1) := by decide +kernel
theorem d_M_groupOf_19 : decode b_M_groupOf 19 = .ok (.iconst (-1), 1) := by decide +kernel
theorem d_M_groupOf_20 : decode b_M_groupOf 20 = .ok (.ixor, 1) := by decide +kernel
theorem d_M_groupOf_21 : decode b_M_groupOf 21 = .ok (.iand, 1) := by decide +kernel
theorem d_M_groupOf_22 : decode b_M_groupOf 22 = .ok (.iload 5, 2) := by decide +kernel
theorem d_M_groupOf_24 : decode b_M_groupOf 24 = .ok (.invokestatic 114, 3) := by decide +kernel
theorem d_M_groupOf_27 : decode b_M_groupOf 27 = .ok (.ifCond .eq 81, 3) := by decide +kernel
theorem d_M_groupOf_30 : decode b_M_groupOf 30 = .ok (.iconst 1, 1) := by decide +kernel
theorem d_M_groupOf_31 : decode b_M_groupOf 31 = .ok (.iload 5, 2) := by decide +kernel
theorem d_M_groupOf_33 : decode b_M_groupOf 33 = .ok (.ishl, 1) := by decide +kernel
theorem d_M_groupOf_34 : decode b_M_groupOf 34 = .ok (.istore 6, 2) := by decide +kernel
theorem d_M_groupOf_36 : decode b_M_groupOf 36 = .ok (.iload 5, 2) := by decide +kernel
theorem d_M_groupOf_38 : decode b_M_groupOf 38 = .ok (.iconst 1, 1) := by decide +kernel
theorem d_M_groupOf_39 : decode b_M_groupOf 39 = .ok (.iadd, 1) := by decide +kernel
theorem d_M_groupOf_40 : decode b_M_groupOf 40 = .ok (.istore 7, 2) := by decide +kernel
theorem d_M_groupOf_42 : decode b_M_groupOf 42 = .ok (.iload 7, 2) := by decide +kernel
theorem d_M_groupOf_44 : decode b_M_groupOf 44 = .ok (.aload_n 0, 1) := by decide +kernel
theorem d_M_groupOf_45 : decode b_M_groupOf 45 = .ok (.getfield 69, 3) := by decide +kernel
theorem d_M_groupOf_48 : decode b_M_groupOf 48 = .ok (.if_icmp .ge 43, 3) := by decide +kernel
theorem d_M_groupOf_51 : decode b_M_groupOf 51 = .ok (.iload_n 1, 1) := by decide +kernel
theorem d_M_groupOf_52 : decode b_M_groupOf 52 = .ok (.iload 7, 2) := by decide +kernel
theorem d_M_groupOf_54 : decode b_M_groupOf 54 = .ok (.invokestatic 114, 3) := by decide +kernel
theorem d_M_groupOf_57 : decode b_M_groupOf 57 = .ok (.ifCond .eq 24, 3) := by decide +kernel
theorem d_M_groupOf_60 : decode b_M_groupOf 60 = .ok (.aload_n 0, 1) := by decide +kernel
theorem d_M_groupOf_61 : decode b_M_groupOf 61 = .ok (.iload 5, 2) := by decide +kernel
theorem d_M_groupOf_63 : decode b_M_groupOf 63 = .ok (.iload 7, 2) := by decide +kernel
theorem d_M_groupOf_65 : decode b_M_groupOf 65 = .ok (.invokevirtual 84, 3) := by decide +kernel
theorem d_M_groupOf_68 : decode b_M_groupOf 68 = .ok (.ifCond .eq 13, 3) := by decide +kernel
theorem d_M_groupOf_71 : decode b_M_groupOf 71 = .ok (.iload 6, 2) := by decide +kernel
theorem d_M_groupOf_73 : decode b_M_groupOf 73 = .ok (.iconst 1, 1) := by decide +kernel
theorem d_M_groupOf_74 : decode b_M_groupOf 74 = .ok (.iload 7, 2) := by decide +kernel
theorem d_M_groupOf_76 : decode b_M_groupOf 76 = .ok (.ishl, 1) := by decide +kernel
theorem d_M_groupOf_77 : decode b_M_groupOf 77 = .ok (.ior, 1) := by decide +kernel
theorem d_M_groupOf_78 : decode b_M_groupOf 78 = .ok (.goto 5, 3) := by decide +kernel
theorem d_M_groupOf_81 : decode b_M_groupOf 81 = .ok (.iload 6, 2) := by decide +kernel
theorem d_M_groupOf_83 : decode b_M_groupOf 83 = .ok (.istore 6, 2) := by decide +kernel
theorem d_M_groupOf_85 : decode b_M_groupOf 85 = .ok (.iinc 7 1, 3) := by decide +kernel
theorem d_M_groupOf_88 : decode b_M_groupOf 88 = .ok (.goto (-46), 3) := by decide +kernel
theorem d_M_groupOf_91 : decode b_M_groupOf 91 = .ok (.iload 4, 2) := by decide +kernel
theorem d_M_groupOf_93 : decode b_M_groupOf 93 = .ok (.iload_n 2, 1) := by decide +kernel
theorem d_M_groupOf_94 : decode b_M_groupOf 94 = .ok (.if_icmp .ne 6, 3) := by decide +kernel
theorem d_M_groupOf_97 : decode b_M_groupOf 97 = .ok (.iload 6, 2) := by decide +kernel
theorem d_M_groupOf_99 : decode b_M_groupOf 99 = .ok (.ireturn, 1) := by decide +kernel
theorem d_M_groupOf_100 : decode b_M_groupOf 100 = .ok (.iload_n 3, 1) := by decide +kernel
theorem d_M_groupOf_101 : decode b_M_groupOf 101 = .ok (.iload 6, 2) := by decide +kernel
theorem d_M_groupOf_103 : decode b_M_groupOf 103 = .ok (.ior, 1) := by decide +kernel
theorem d_M_groupOf_104 : decode b_M_groupOf 104 = .ok (.istore_n 3, 1) := by decide +kernel
theorem d_M_groupOf_105 : decode b_M_groupOf 105 = .ok (.iinc 4 1, 3) := by decide +kernel
theorem d_M_groupOf_108 : decode b_M_groupOf 108 = .ok (.iinc 5 1, 3) := by decide +kernel
theorem d_M_groupOf_111 : decode b_M_groupOf 111 = .ok (.goto (-103), 3) := by decide +kernel
theorem d_M_groupOf_114 : decode b_M_groupOf 114 = .ok (.aload_n 0, 1) := by decide +kernel
theorem d_M_groupOf_115 : decode b_M_groupOf 115 = .ok (.iload 4, 2) := by decide +kernel
theorem d_M_groupOf_117 : decode b_M_groupOf 117 = .ok (.putfield 205, 3) := by decide +kernel
theorem d_M_groupOf_120 : decode b_M_groupOf 120 = .ok (.iconst 0, 1) := by decide +kernel
theorem d_M_groupOf_121 : decode b_M_groupOf 121 = .ok (.ireturn, 1) := by decide +kernel
theorem d_M_asked_0 : decode b_M_asked 0 = .ok (.aload_n 0, 1) := by decide +kernel
theorem d_M_asked_1 : decode b_M_asked 1 = .ok (.iconst 0, 1) := by decide +kernel
theorem d_M_asked_2 : decode b_M_asked 2 = .ok (.putfield 1, 3) := by decide +kernel
theorem d_M_asked_5 : decode b_M_asked 5 = .ok (.aload_n 0, 1) := by decide +kernel
theorem d_M_asked_6 : decode b_M_asked 6 = .ok (.aload_n 0, 1) := by decide +kernel
theorem d_M_asked_7 : decode b_M_asked 7 = .ok (.getfield 179, 3) := by decide +kernel
theorem d_M_asked_10 : decode b_M_asked 10 = .ok (.iload_n 1, 1) := by decide +kernel
theorem d_M_asked_11 : decode b_M_asked 11 = .ok (.ifCond .ge 8, 3) := by decide +kernel
theorem d_M_asked_14 : decode b_M_asked 14 = .ok (.bipush 99, 2) := by decide +kernel
theorem d_M_asked_16 : decode b_M_asked 16 = .ok (.goto 4, 3) := by decide +kernel
theorem d_M_asked_19 : decode b_M_asked 19 = .ok (.iload_n 1, 1) := by decide +kernel
theorem d_M_asked_20 : decode b_M_asked 20 = .ok (.invokevirtual 208, 3) := by decide +kernel
theorem d_M_asked_23 : decode b_M_asked 23 = .ok (.istore_n 3, 1) := by decide +kernel
theorem d_M_asked_24 : decode b_M_asked 24 = .ok (.iload_n 1, 1) := by decide +kernel
theorem d_M_asked_25 : decode b_M_asked 25 = .ok (.iconst (-1), 1) := by decide +kernel
theorem d_M_asked_26 : decode b_M_asked 26 = .ok (.if_icmp .ne 8, 3) := by decide +kernel
theorem d_M_asked_29 : decode b_M_asked 29 = .ok (.aload_n 0, 1) := by decide +kernel
theorem d_M_asked_30 : decode b_M_asked 30 = .ok (.getfield 205, 3) := by decide +kernel
theorem d_M_asked_33 : decode b_M_asked 33 = .ok (.ireturn, 1) := by decide +kernel
theorem d_M_asked_34 : decode b_M_asked 34 = .ok (.iload_n 3, 1) := by decide +kernel
theorem d_M_asked_35 : decode b_M_asked 35 = .ok (.ifCond .eq 13, 3) := by decide +kernel
theorem d_M_asked_38 : decode b_M_asked 38 = .ok (.iload_n 1, 1) := by decide +kernel
theorem d_M_asked_39 : decode b_M_asked 39 = .ok (.iconst (-1), 1) := by decide +kernel
theorem d_M_asked_40 : decode b_M_asked 40 = .ok (.if_icmp .lt 8, 3) := by decide +kernel
theorem d_M_asked_43 : decode b_M_asked 43 = .ok (.iload_n 2, 1) := by decide +kernel
theorem d_M_asked_44 : decode b_M_asked 44 = .ok (.iconst (-1), 1) := by decide +kernel
theorem d_M_asked_45 : decode b_M_asked 45 = .ok (.if_icmp .ge 5, 3) := by decide +kernel
theorem d_M_asked_48 : decode b_M_asked 48 = .ok (.iconst (-1), 1) := by decide +kernel
theorem d_M_asked_49 : decode b_M_asked 49 = .ok (.ireturn, 1) := by decide +kernel
theorem d_M_asked_50 : decode b_M_asked 50 = .ok (.iconst 0, 1) := by decide +kernel
theorem d_M_asked_51 : decode b_M_asked 51 = .ok (.istore 4, 2) := by decide +kernel
theorem d_M_asked_53 : decode b_M_asked 53 = .ok (.iconst 0, 1) := by decide +kernel
theorem d_M_asked_54 : decode b_M_asked 54 = .ok (.istore 5, 2) := by decide +kernel
theorem d_M_asked_56 : decode b_M_asked 56 = .ok (.iload 5, 2) := by decide +kernel
theorem d_M_asked_58 : decode b_M_asked 58 = .ok (.aload_n 0, 1) := by decide +kernel
theorem d_M_asked_59 : decode b_M_asked 59 = .ok (.getfield 69, 3) := by decide +kernel
theorem d_M_asked_62 : decode b_M_asked 62 = .ok (.if_icmp .ge 30, 3) := by decide +kernel
theorem d_M_asked_65 : decode b_M_asked 65 = .ok (.iload_n 3, 1) := by decide +kernel
theorem d_M_asked_66 : decode b_M_asked 66 = .ok (.iload 5, 2) := by decide +kernel
theorem d_M_asked_68 : decode b_M_asked 68 = .ok (.invokestatic 114, 3) := by decide +kernel
theorem d_M_asked_71 : decode b_M_asked 71 = .ok (.ifCond .eq 15, 3) := by decide +kernel
theorem d_M_asked_74 : decode b_M_asked 74 = .ok (.iload 4, 2) := by decide +kernel
theorem d_M_asked_76 : decode b_M_asked 76 = .ok (.iload_n 2, 1) := by decide +kernel
theorem d_M_asked_77 : decode b_M_asked 77 = .ok (.if_icmp .ne 6, 3) := by decide +kernel
theorem d_M_asked_80 : decode b_M_asked 80 = .ok (.iload 5, 2) := by decide +kernel
theorem d_M_asked_82 : decode b_M_asked 82 = .ok (.ireturn, 1) := by decide +kernel
theorem d_M_asked_83 : decode b_M_asked 83 = .ok (.iinc 4 1, 3) := by decide +kernel
theorem d_M_asked_86 : decode b_M_asked 86 = .ok (.iinc 5 1, 3) := by decide +kernel
theorem d_M_asked_89 : decode b_M_asked 89 = .ok (.goto (-33), 3) := by decide +kernel
theorem d_M_asked_92 : decode b_M_asked 92 = .ok (.iload_n 2, 1) := by decide +kernel
theorem d_M_asked_93 : decode b_M_asked 93 = .ok (.iconst (-1), 1) := by decide +kernel
theorem d_M_asked_94 : decode b_M_asked 94 = .ok (.if_icmp .ne 8, 3) := by decide +kernel
theorem d_M_asked_97 : decode b_M_asked 97 = .ok (.iload 4, 2) := by decide +kernel
theorem d_M_asked_99 : decode b_M_asked 99 = .ok (.goto 4, 3) := by decide +kernel
theorem d_M_asked_102 : decode b_M_asked 102 = .ok (.iconst (-1), 1) := by decide +kernel
theorem d_M_asked_103 : decode b_M_asked 103 = .ok (.ireturn, 1) := by decide +kernel
theorem d_M_count_0 : decode b_M_count 0 = .ok (.aload_n 0, 1) := by decide +kernel
theorem d_M_count_1 : decode b_M_count 1 = .ok (.iconst 0, 1) := by decide +kernel
theorem d_M_count_2 : decode b_M_count 2 = .ok (.putfield 1, 3) := by decide +kernel
theorem d_M_count_5 : decode b_M_count 5 = .ok (.iconst 0, 1) := by decide +kernel
theorem d_M_count_6 : decode b_M_count 6 = .ok (.istore_n 2, 1) := by decide +kernel
theorem d_M_count_7 : decode b_M_count 7 = .ok (.iconst 0, 1) := by decide +kernel
theorem d_M_count_8 : decode b_M_count 8 = .ok (.istore_n 3, 1) := by decide +kernel
theorem d_M_count_9 : decode b_M_count 9 = .ok (.iload_n 3, 1) := by decide +kernel
theorem d_M_count_10 : decode b_M_count 10 = .ok (.aload_n 0, 1) := by decide +kernel
theorem d_M_count_11 : decode b_M_count 11 = .ok (.getfield 69, 3) := by decide +kernel
theorem d_M_count_14 : decode b_M_count 14 = .ok (.if_icmp .ge 27, 3) := by decide +kernel
theorem d_M_count_17 : decode b_M_count 17 = .ok (.aload_n 0, 1) := by decide +kernel
theorem d_M_count_18 : decode b_M_count 18 = .ok (.getfield 23, 3) := by decide +kernel
theorem d_M_count_21 : decode b_M_count 21 = .ok (.iload_n 3, 1) := by decide +kernel
theorem d_M_count_22 : decode b_M_count 22 = .ok (.iaload, 1) := by decide +kernel
theorem d_M_count_23 : decode b_M_count 23 = .ok (.iconst 2, 1) := by decide +kernel
theorem d_M_count_24 : decode b_M_count 24 = .ok (.if_icmp .ne 9, 3) := by decide +kernel
theorem d_M_count_27 : decode b_M_count 27 = .ok (.iload_n 2, 1) := by decide +kernel
theorem d_M_count_28 : decode b_M_count 28 = .ok (.iconst 1, 1) := by decide +kernel
theorem d_M_count_29 : decode b_M_count 29 = .ok (.iadd, 1) := by decide +kernel
theorem d_M_count_30 : decode b_M_count 30 = .ok (.goto 4, 3) := by decide +kernel
theorem d_M_count_33 : decode b_M_count 33 = .ok (.iload_n 2, 1) := by decide +kernel
theorem d_M_count_34 : decode b_M_count 34 = .ok (.istore_n 2, 1) := by decide +kernel
theorem d_M_count_35 : decode b_M_count 35 = .ok (.iinc 3 1, 3) := by decide +kernel
theorem d_M_count_38 : decode b_M_count 38 = .ok (.goto (-29), 3) := by decide +kernel
theorem d_M_count_41 : decode b_M_count 41 = .ok (.iload_n 1, 1) := by decide +kernel
theorem d_M_count_42 : decode b_M_count 42 = .ok (.tableswitch 68 0 5 #[38, 43, 51, 53, 58, 63], 38) := by decide +kernel
theorem d_M_count_80 : decode b_M_count 80 = .ok (.aload_n 0, 1) := by decide +kernel
theorem d_M_count_81 : decode b_M_count 81 = .ok (.getfield 69, 3) := by decide +kernel
theorem d_M_count_84 : decode b_M_count 84 = .ok (.ireturn, 1) := by decide +kernel
theorem d_M_count_85 : decode b_M_count 85 = .ok (.aload_n 0, 1) := by decide +kernel
theorem d_M_count_86 : decode b_M_count 86 = .ok (.invokevirtual 152, 3) := by decide +kernel
theorem d_M_count_89 : decode b_M_count 89 = .ok (.invokestatic 155, 3) := by decide +kernel
theorem d_M_count_92 : decode b_M_count 92 = .ok (.ireturn, 1) := by decide +kernel
theorem d_M_count_93 : decode b_M_count 93 = .ok (.iload_n 2, 1) := by decide +kernel
theorem d_M_count_94 : decode b_M_count 94 = .ok (.ireturn, 1) := by decide +kernel
theorem d_M_count_95 : decode b_M_count 95 = .ok (.aload_n 0, 1) := by decide +kernel
theorem d_M_count_96 : decode b_M_count 96 = .ok (.getfield 88, 3) := by decide +kernel
theorem d_M_count_99 : decode b_M_count 99 = .ok (.ireturn, 1) := by decide +kernel
theorem d_M_count_100 : decode b_M_count 100 = .ok (.aload_n 0, 1) := by decide +kernel
theorem d_M_count_101 : decode b_M_count 101 = .ok (.getfield 185, 3) := by decide +kernel
theorem d_M_count_104 : decode b_M_count 104 = .ok (.ireturn, 1) := by decide +kernel
theorem d_M_count_105 : decode b_M_count 105 = .ok (.aload_n 0, 1) := by decide +kernel
theorem d_M_count_106 : decode b_M_count 106 = .ok (.getfield 35, 3) := by decide +kernel
theorem d_M_count_109 : decode b_M_count 109 = .ok (.ireturn, 1) := by decide +kernel
theorem d_M_count_110 : decode b_M_count 110 = .ok (.iconst (-1), 1) := by decide +kernel
theorem d_M_count_111 : decode b_M_count 111 = .ok (.ireturn, 1) := by decide +kernel
theorem d_M_part_0 : decode b_M_part 0 = .ok (.aload_n 0, 1) := by decide +kernel
theorem d_M_part_1 : decode b_M_part 1 = .ok (.iconst 0, 1) := by decide +kernel
theorem d_M_part_2 : decode b_M_part 2 = .ok (.putfield 137, 3) := by decide +kernel
theorem d_M_part_5 : decode b_M_part 5 = .ok (.aload_n 0, 1) := by decide +kernel
theorem d_M_part_6 : decode b_M_part 6 = .ok (.iconst 0, 1) := by decide +kernel
theorem d_M_part_7 : decode b_M_part 7 = .ok (.putfield 140, 3) := by decide +kernel
theorem d_M_part_10 : decode b_M_part 10 = .ok (.aload_n 0, 1) := by decide +kernel
theorem d_M_part_11 : decode b_M_part 11 = .ok (.iconst 0, 1) := by decide +kernel
theorem d_M_part_12 : decode b_M_part 12 = .ok (.putfield 143, 3) := by decide +kernel
theorem d_M_part_15 : decode b_M_part 15 = .ok (.aload_n 0, 1) := by decide +kernel
theorem d_M_part_16 : decode b_M_part 16 = .ok (.invokevirtual 104, 3) := by decide +kernel
theorem d_M_part_19 : decode b_M_part 19 = .ok (.bipush 34, 2) := by decide +kernel
theorem d_M_part_21 : decode b_M_part 21 = .ok (.if_icmp .ne 7, 3) := by decide +kernel
theorem d_M_part_24 : decode b_M_part 24 = .ok (.iconst 1, 1) := by decide +kernel
theorem d_M_part_25 : decode b_M_part 25 = .ok (.goto 4, 3) := by decide +kernel
theorem d_M_part_28 : decode b_M_part 28 = .ok (.iconst 0, 1) := by decide +kernel
theorem d_M_part_29 : decode b_M_part 29 = .ok (.istore 4, 2) := by decide +kernel
theorem d_M_part_31 : decode b_M_part 31 = .ok (.aload_n 0, 1) := by decide +kernel
theorem d_M_part_32 : decode b_M_part 32 = .ok (.invokevirtual 104, 3) := by decide +kernel
theorem d_M_part_35 : decode b_M_part 35 = .ok (.bipush 40, 2) := by decide +kernel
theorem d_M_part_37 : decode b_M_part 37 = .ok (.if_icmp .le 13, 3) := by decide +kernel
theorem d_M_part_40 : decode b_M_part 40 = .ok (.aload_n 0, 1) := by decide +kernel
theorem d_M_part_41 : decode b_M_part 41 = .ok (.invokevirtual 104, 3) := by decide +kernel
theorem d_M_part_44 : decode b_M_part 44 = .ok (.bipush 40, 2) := by decide +kernel
theorem d_M_part_46 : decode b_M_part 46 = .ok (.isub, 1) := by decide +kernel
theorem d_M_part_47 : decode b_M_part 47 = .ok (.goto 4, 3) := by decide +kernel
theorem d_M_part_50 : decode b_M_part 50 = .ok (.iconst 0, 1) := by decide +kernel
theorem d_M_part_51 : decode b_M_part 51 = .ok (.istore 5, 2) := by decide +kernel
theorem d_M_part_53 : decode b_M_part 53 = .ok (.iconst 1, 1) := by decide +kernel
theorem d_M_part_54 : decode b_M_part 54 = .ok (.istore 6, 2) := by decide +kernel
theorem d_M_part_56 : decode b_M_part 56 = .ok (.iload 4, 2) := by decide +kernel
theorem d_M_part_58 : decode b_M_part 58 = .ok (.ifCond .ne 8, 3) := by decide +kernel
theorem d_M_part_61 : decode b_M_part 61 = .ok (.iload 5, 2) := by decide +kernel
theorem d_M_part_63 : decode b_M_part 63 = .ok (.ifCond .le 97, 3) := by decide +kernel
theorem d_M_part_66 : decode b_M_part 66 = .ok (.aload_n 0, 1) := by decide +kernel
theorem d_M_part_67 : decode b_M_part 67 = .ok (.dup, 1) := by decide +kernel
theorem d_M_part_68 : decode b_M_part 68 = .ok (.getfield 97, 3) := by decide +kernel
theorem d_M_part_71 : decode b_M_part 71 = .ok (.iconst 1, 1) := by decide +kernel
theorem d_M_part_72 : decode b_M_part 72 = .ok (.iadd, 1) := by decide +kernel
theorem d_M_part_73 : decode b_M_part 73 = .ok (.putfield 97, 3) := by decide +kernel
theorem d_M_part_76 : decode b_M_part 76 = .ok (.aload_n 0, 1) := by decide +kernel
theorem d_M_part_77 : decode b_M_part 77 = .ok (.invokevirtual 104, 3) := by decide +kernel
theorem d_M_part_80 : decode b_M_part 80 = .ok (.bipush 37, 2) := by decide +kernel
theorem d_M_part_82 : decode b_M_part 82 = .ok (.if_icmp .ne 7, 3) := by decide +kernel
theorem d_M_part_85 : decode b_M_part 85 = .ok (.iconst 1, 1) := by decide +kernel
theorem d_M_part_86 : decode b_M_part 86 = .ok (.goto 4, 3) := by decide +kernel
theorem d_M_part_89 : decode b_M_part 89 = .ok (.iconst 0, 1) := by decide +kernel
theorem d_M_part_90 : decode b_M_part 90 = .ok (.istore 7, 2) := by decide +kernel
theorem d_M_part_92 : decode b_M_part 92 = .ok (.iload 5, 2) := by decide +kernel
theorem d_M_part_94 : decode b_M_part 94 = .ok (.ifCond .gt 37, 3) := by decide +kernel
theorem d_M_part_97 : decode b_M_part 97 = .ok (.iload 7, 2) := by decide +kernel
theorem d_M_part_99 : decode b_M_part 99 = .ok (.ifCond .ne 32, 3) := by decide +kernel
theorem d_M_part_102 : decode b_M_part 102 = .ok (.aload_n 0, 1) := by decide +kernel
theorem d_M_part_103 : decode b_M_part 103 = .ok (.getfield 97, 3) := by decide +kernel
theorem d_M_part_106 : decode b_M_part 106 = .ok (.aload_n 0, 1) := by decide +kernel
theorem d_M_part_107 : decode b_M_part 107 = .ok (.getfield 94, 3) := by decide +kernel
theorem d_M_part_110 : decode b_M_part 110 = .ok (.if_icmp .ge 25, 3) := by decide +kernel
theorem d_M_part_113 : decode b_M_part 113 = .ok (.aload_n 0, 1) := by decide +kernel
theorem d_M_part_114 : decode b_M_part 114 = .ok (.invokevirtual 104, 3) := by decide +kernel
theorem d_M_part_117 : decode b_M_part 117 = .ok (.bipush 35, 2) := by decide +kernel
theorem d_M_part_119 : decode b_M_part 119 = .ok (.if_icmp .eq 16, 3) := by decide +kernel
theorem d_M_part_122 : decode b_M_part 122 = .ok (.aload_n 0, 1) := by decide +kernel
theorem d_M_part_123 : decode b_M_part 123 = .ok (.invokevirtual 104, 3) := by decide +kernel
theorem d_M_part_126 : decode b_M_part 126 = .ok (.bipush 36, 2) := by decide +kernel
theorem d_M_part_128 : decode b_M_part 128 = .ok (.if_icmp .eq 7, 3) := by decide +kernel
theorem d_M_part_131 : decode b_M_part 131 = .ok (.iconst 1, 1) := by decide +kernel
theorem d_M_part_132 : decode b_M_part 132 = .ok (.goto 4, 3) := by decide +kernel
theorem d_M_part_135 : decode b_M_part 135 = .ok (.iconst 0, 1) := by decide +kernel
theorem d_M_part_136 : decode b_M_part 136 = .ok (.istore 6, 2) := by decide +kernel
theorem d_M_part_138 : decode b_M_part 138 = .ok (.aload_n 0, 1) := by decide +kernel
theorem d_M_part_139 : decode b_M_part 139 = .ok (.iload 7, 2) := by decide +kernel
theorem d_M_part_141 : decode b_M_part 141 = .ok (.ifCond .eq 12, 3) := by decide +kernel
theorem d_M_part_144 : decode b_M_part 144 = .ok (.aload_n 0, 1) := by decide +kernel
theorem d_M_part_145 : decode b_M_part 145 = .ok (.getfield 97, 3) := by decide +kernel
theorem d_M_part_148 : decode b_M_part 148 = .ok (.iconst 1, 1) := by decide +kernel
theorem d_M_part_149 : decode b_M_part 149 = .ok (.iadd, 1) := by decide +kernel
theorem d_M_part_150 : decode b_M_part 150 = .ok (.goto 7, 3) := by decide +kernel
theorem d_M_part_153 : decode b_M_part 153 = .ok (.aload_n 0, 1) := by decide +kernel
theorem d_M_part_154 : decode b_M_part 154 = .ok (.getfield 97, 3) := by decide +kernel
theorem d_M_part_157 : decode b_M_part 157 = .ok (.putfield 97, 3) := by decide +kernel
theorem d_M_part_160 : decode b_M_part 160 = .ok (.aload_n 0, 1) := by decide +kernel
theorem d_M_part_161 : decode b_M_part 161 = .ok (.invokevirtual 146, 3) := by decide +kernel
theorem d_M_part_164 : decode b_M_part 164 = .ok (.istore 7, 2) := by decide +kernel
theorem d_M_part_166 : decode b_M_part 166 = .ok (.iconst 0, 1) := by decide +kernel
theorem d_M_part_167 : decode b_M_part 167 = .ok (.istore 8, 2) := by decide +kernel
theorem d_M_part_169 : decode b_M_part 169 = .ok (.iconst 0, 1) := by decide +kernel
theorem d_M_part_170 : decode b_M_part 170 = .ok (.istore 9, 2) := by decide +kernel
theorem d_M_part_172 : decode b_M_part 172 = .ok (.iload 6, 2) := by decide +kernel
theorem d_M_part_174 : decode b_M_part 174 = .ok (.ifCond .eq 39, 3) := by decide +kernel
theorem d_M_part_177 : decode b_M_part 177 = .ok (.aload_n 0, 1) := by decide +kernel
theorem d_M_part_178 : decode b_M_part 178 = .ok (.invokevirtual 134, 3) := by decide +kernel
theorem d_M_part_181 : decode b_M_part 181 = .ok (.aload_n 0, 1) := by decide +kernel
theorem d_M_part_182 : decode b_M_part 182 = .ok (.getfield 100, 3) := by decide +kernel
theorem d_M_part_185 : decode b_M_part 185 = .ok (.ifCond .eq 4, 3) := by decide +kernel
theorem d_M_part_188 : decode b_M_part 188 = .ok (.return_, 1) := by decide +kernel
theorem d_M_part_189 : decode b_M_part 189 = .ok (.aload_n 0, 1) := by decide +kernel
theorem d_M_part_190 : decode b_M_part 190 = .ok (.iconst 3, 1) := by decide +kernel
theorem d_M_part_191 : decode b_M_part 191 = .ok (.invokevirtual 149, 3) := by decide +kernel
theorem d_M_part_194 : decode b_M_part 194 = .ok (.istore 7, 2) := by decide +kernel
theorem d_M_part_196 : decode b_M_part 196 = .ok (.aload_n 0, 1) := by decide +kernel
theorem d_M_part_197 : decode b_M_part 197 = .ok (.iconst 2, 1) := by decide +kernel
theorem d_M_part_198 : decode b_M_part 198 = .ok (.invokevirtual 149, 3) := by decide +kernel
theorem d_M_part_201 : decode b_M_part 201 = .ok (.istore 8, 2) := by decide +kernel
theorem d_M_part_203 : decode b_M_part 203 = .ok (.aload_n 0, 1) := by decide +kernel
theorem d_M_part_204 : decode b_M_part 204 = .ok (.getfield 108, 3) := by decide +kernel
theorem d_M_part_207 : decode b_M_part 207 = .ok (.iconst 1, 1) := by decide +kernel
theorem d_M_part_208 : decode b_M_part 208 = .ok (.invokestatic 114, 3) := by decide +kernel
theorem d_M_part_211 : decode b_M_part 211 = .ok (.istore 9, 2) := by decide +kernel
theorem d_M_part_213 : decode b_M_part 213 = .ok (.iload 7, 2) := by decide +kernel
theorem d_M_part_215 : decode b_M_part 215 = .ok (.aload_n 0, 1) := by decide +kernel
theorem d_M_part_216 : decode b_M_part 216 = .ok (.invokevirtual 152, 3) := by decide +kernel
theorem d_M_part_219 : decode b_M_part 219 = .ok (.iand, 1) := by decide +kernel
theorem d_M_part_220 : decode b_M_part 220 = .ok (.istore 10, 2) := by decide +kernel
theorem d_M_part_222 : decode b_M_part 222 = .ok (.aload_n 0, 1) := by decide +kernel
theorem d_M_part_223 : decode b_M_part 223 = .ok (.iload 10, 2) := by decide +kernel
theorem d_M_part_225 : decode b_M_part 225 = .ok (.invokestatic 155, 3) := by decide +kernel
theorem d_M_part_228 : decode b_M_part 228 = .ok (.putfield 160, 3) := by decide +kernel
theorem d_M_part_231 : decode b_M_part 231 = .ok (.aload_n 0, 1) := by decide +kernel
theorem d_M_part_232 : decode b_M_part 232 = .ok (.iload 7, 2) := by decide +kernel
theorem d_M_part_234 : decode b_M_part 234 = .ok (.ifCond .ne 7, 3) := by decide +kernel
theorem d_M_part_237 : decode b_M_part 237 = .ok (.iconst 2, 1) := by decide +kernel
theorem d_M_part_238 : decode b_M_part 238 = .ok (.goto 13, 3) := by decide +kernel
theorem d_M_part_241 : decode b_M_part 241 = .ok (.iload 10, 2) := by decide +kernel
theorem d_M_part_243 : decode b_M_part 243 = .ok (.ifCond .ne 7, 3) := by decide +kernel
theorem d_M_part_246 : decode b_M_part 246 = .ok (.iconst 3, 1) := by decide +kernel
theorem d_M_part_247 : decode b_M_part 247 = .ok (.goto 4, 3) := by decide +kernel
theorem d_M_part_250 : decode b_M_part 250 = .ok (.iconst 0, 1) := by decide +kernel
theorem d_M_part_251 : decode b_M_part 251 = .ok (.putfield 137, 3) := by decide +kernel
theorem d_M_part_254 : decode b_M_part 254 = .ok (.iload 4, 2) := by decide +kernel
theorem d_M_part_256 : decode b_M_part 256 = .ok (.ifCond .eq 86, 3) := by decide +kernel
theorem d_M_part_259 : decode b_M_part 259 = .ok (.aload_n 0, 1) := by decide +kernel
theorem d_M_part_260 : decode b_M_part 260 = .ok (.invokevirtual 104, 3) := by decide +kernel
theorem d_M_part_263 : decode b_M_part 263 = .ok (.bipush 35, 2) := by decide +kernel
theorem d_M_part_265 : decode b_M_part 265 = .ok (.if_icmp .ne 77, 3) := by decide +kernel
theorem d_M_part_268 : decode b_M_part 268 = .ok (.aload_n 0, 1) := by decide +kernel
theorem d_M_part_269 : decode b_M_part 269 = .ok (.dup, 1) := by decide +kernel
theorem d_M_part_270 : decode b_M_part 270 = .ok (.getfield 97, 3) := by decide +kernel
theorem d_M_part_273 : decode b_M_part 273 = .ok (.iconst 1, 1) := by decide +kernel
theorem d_M_part_274 : decode b_M_part 274 = .ok (.iadd, 1) := by decide +kernel
theorem d_M_part_275 : decode b_M_part 275 = .ok (.putfield 97, 3) := by decide +kernel
theorem d_M_part_278 : decode b_M_part 278 = .ok (.aload_n 0, 1) := by decide +kernel
theorem d_M_part_279 : decode b_M_part 279 = .ok (.invokevirtual 134, 3) := by decide +kernel
theorem d_M_part_282 : decode b_M_part 282 = .ok (.aload_n 0, 1) := by decide +kernel
theorem d_M_part_283 : decode b_M_part 283 = .ok (.getfield 100, 3) := by decide +kernel
theorem d_M_part_286 : decode b_M_part 286 = .ok (.ifCond .eq 4, 3) := by decide +kernel
theorem d_M_part_289 : decode b_M_part 289 = .ok (.return_, 1) := by decide +kernel
theorem d_M_part_290 : decode b_M_part 290 = .ok (.aload_n 0, 1) := by decide +kernel
theorem d_M_part_291 : decode b_M_part 291 = .ok (.iconst 3, 1) := by decide +kernel
theorem d_M_part_292 : decode b_M_part 292 = .ok (.invokevirtual 149, 3) := by decide +kernel
theorem d_M_part_295 : decode b_M_part 295 = .ok (.iload 10, 2) := by decide +kernel
theorem d_M_part_297 : decode b_M_part 297 = .ok (.iand, 1) := by decide +kernel
theorem d_M_part_298 : decode b_M_part 298 = .ok (.istore 11, 2) := by decide +kernel
theorem d_M_part_300 : decode b_M_part 300 = .ok (.aload_n 0, 1) := by decide +kernel
theorem d_M_part_301 : decode b_M_part 301 = .ok (.getfield 137, 3) := by decide +kernel
theorem d_M_part_304 : decode b_M_part 304 = .ok (.ifCond .ne 35, 3) := by decide +kernel
theorem d_M_part_307 : decode b_M_part 307 = .ok (.aload_n 0, 1) := by decide +kernel
theorem d_M_part_308 : decode b_M_part 308 = .ok (.iload 11, 2) := by decide +kernel
theorem d_M_part_310 : decode b_M_part 310 = .ok (.ifCond .ne 7, 3) := by decide +kernel
theorem d_M_part_313 : decode b_M_part 313 = .ok (.iconst 4, 1) := by decide +kernel
theorem d_M_part_314 : decode b_M_part 314 = .ok (.goto 4, 3) := by decide +kernel
theorem d_M_part_317 : decode b_M_part 317 = .ok (.iconst 0, 1) := by decide +kernel
theorem d_M_part_318 : decode b_M_part 318 = .ok (.putfield 137, 3) := by decide +kernel
theorem d_M_part_321 : decode b_M_part 321 = .ok (.iload 10, 2) := by decide +kernel
theorem d_M_part_323 : decode b_M_part 323 = .ok (.iload 11, 2) := by decide +kernel
theorem d_M_part_325 : decode b_M_part 325 = .ok (.iconst (-1), 1) := by decide +kernel
theorem d_M_part_326 : decode b_M_part 326 = .ok (.ixor, 1) := by decide +kernel
theorem d_M_part_327 : decode b_M_part 327 = .ok (.iand, 1) := by decide +kernel
theorem d_M_part_328 : decode b_M_part 328 = .ok (.istore 10, 2) := by decide +kernel
theorem d_M_part_330 : decode b_M_part 330 = .ok (.aload_n 0, 1) := by decide +kernel
theorem d_M_part_331 : decode b_M_part 331 = .ok (.iload 10, 2) := by decide +kernel
theorem d_M_part_333 : decode b_M_part 333 = .ok (.invokestatic 155, 3) := by decide +kernel
theorem d_M_part_336 : decode b_M_part 336 = .ok (.putfield 160, 3) := by decide +kernel
theorem d_M_part_339 : decode b_M_part 339 = .ok (.goto (-85), 3) := by decide +kernel
theorem d_M_part_342 : decode b_M_part 342 = .ok (.aload_n 0, 1) := by decide +kernel
theorem d_M_part_343 : decode b_M_part 343 = .ok (.aload_n 0, 1) := by decide +kernel
theorem d_M_part_344 : decode b_M_part 344 = .ok (.getfield 137, 3) := by decide +kernel
theorem d_M_part_347 : decode b_M_part 347 = .ok (.ifCond .ne 12, 3) := by decide +kernel
theorem d_M_part_350 : decode b_M_part 350 = .ok (.iload 10, 2) := by decide +kernel
theorem d_M_part_352 : decode b_M_part 352 = .ok (.ifCond .ne 7, 3) := by decide +kernel
theorem d_M_part_355 : decode b_M_part 355 = .ok (.iconst 5, 1) := by decide +kernel
theorem d_M_part_356 : decode b_M_part 356 = .ok (.goto 29, 3) := by decide +kernel
theorem d_M_part_359 : decode b_M_part 359 = .ok (.aload_n 0, 1) := by decide +kernel
theorem d_M_part_360 : decode b_M_part 360 = .ok (.getfield 137, 3) := by decide +kernel
theorem d_M_part_363 : decode b_M_part 363 = .ok (.ifCond .ne 18, 3) := by decide +kernel
theorem d_M_part_366 : decode b_M_part 366 = .ok (.iload 10, 2) := by decide +kernel
theorem d_M_part_368 : decode b_M_part 368 = .ok (.invokestatic 155, 3) := by decide +kernel
theorem d_M_part_371 : decode b_M_part 371 = .ok (.iload 5, 2) := by decide +kernel
theorem d_M_part_373 : decode b_M_part 373 = .ok (.if_icmp .ge 8, 3) := by decide +kernel
theorem d_M_part_376 : decode b_M_part 376 = .ok (.bipush 6, 2) := by decide +kernel
theorem d_M_part_378 : decode b_M_part 378 = .ok (.goto 7, 3) := by decide +kernel
theorem d_M_part_381 : decode b_M_part 381 = .ok (.aload_n 0, 1) := by decide +kernel
theorem d_M_part_382 : decode b_M_part 382 = .ok (.getfield 137, 3) := by decide +kernel
theorem d_M_part_385 : decode b_M_part 385 = .ok (.putfield 137, 3) := by decide +kernel
theorem d_M_part_388 : decode b_M_part 388 = .ok (.iload_n 1, 1) := by decide +kernel
theorem d_M_part_389 : decode b_M_part 389 = .ok (.ifCond .eq 10, 3) := by decide +kernel
theorem d_M_part_392 : decode b_M_part 392 = .ok (.aload_n 0, 1) := by decide +kernel
theorem d_M_part_393 : decode b_M_part 393 = .ok (.getfield 137, 3) := by decide +kernel
theorem d_M_part_396 : decode b_M_part 396 = .ok (.ifCond .le 4, 3) := by decide +kernel
theorem d_M_part_399 : decode b_M_part 399 = .ok (.return_, 1) := by decide +kernel
theorem d_M_part_400 : decode b_M_part 400 = .ok (.iload 5, 2) := by decide +kernel
theorem d_M_part_402 : decode b_M_part 402 = .ok (.ifCond .le 45, 3) := by decide +kernel
theorem d_M_part_405 : decode b_M_part 405 = .ok (.iconst 0, 1) := by decide +kernel
theorem d_M_part_406 : decode b_M_part 406 = .ok (.istore 11, 2) := by decide +kernel
theorem d_M_part_408 : decode b_M_part 408 = .ok (.iload 11, 2) := by decide +kernel
theorem d_M_part_410 : decode b_M_part 410 = .ok (.iload 5, 2) := by decide +kernel
theorem d_M_part_412 : decode b_M_part 412 = .ok (.if_icmp .ge 34, 3) := by decide +kernel
theorem d_M_part_415 : decode b_M_part 415 = .ok (.aload_n 0, 1) := by decide +kernel
theorem d_M_part_416 : decode b_M_part 416 = .ok (.aload_n 0, 1) := by decide +kernel
theorem d_M_part_417 : decode b_M_part 417 = .ok (.getfield 143, 3) := by decide +kernel
theorem d_M_part_420 : decode b_M_part 420 = .ok (.aload_n 0, 1) := by decide +kernel
theorem d_M_part_421 : decode b_M_part 421 = .ok (.iload 10, 2) := by decide +kernel
theorem d_M_part_423 : decode b_M_part 423 = .ok (.aload_n 0, 1) := by decide +kernel
theorem d_M_part_424 : decode b_M_part 424 = .ok (.getfield 143, 3) := by decide +kernel
theorem d_M_part_427 : decode b_M_part 427 = .ok (.iconst (-1), 1) := by decide +kernel
theorem d_M_part_428 : decode b_M_part 428 = .ok (.ixor, 1) := by decide +kernel
theorem d_M_part_429 : decode b_M_part 429 = .ok (.iand, 1) := by decide +kernel
theorem d_M_part_430 : decode b_M_part 430 = .ok (.invokevirtual 163, 3) := by decide +kernel
theorem d_M_part_433 : decode b_M_part 433 = .ok (.invokestatic 166, 3) := by decide +kernel
theorem d_M_part_436 : decode b_M_part 436 = .ok (.ior, 1) := by decide +kernel
theorem d_M_part_437 : decode b_M_part 437 = .ok (.putfield 143, 3) := by decide +kernel
theorem d_M_part_440 : decode b_M_part 440 = .ok (.iinc 11 1, 3) := by decide +kernel
theorem d_M_part_443 : decode b_M_part 443 = .ok (.goto (-35), 3) := by decide +kernel
theorem d_M_part_446 : decode b_M_part 446 = .ok (.return_, 1) := by decide +kernel
theorem d_M_part_447 : decode b_M_part 447 = .ok (.iload 4, 2) := by decide +kernel
theorem d_M_part_449 : decode b_M_part 449 = .ok (.ifCond .ne 11, 3) := by decide +kernel
theorem d_M_part_452 : decode b_M_part 452 = .ok (.iload 10, 2) := by decide +kernel
theorem d_M_part_454 : decode b_M_part 454 = .ok (.iload 8, 2) := by decide +kernel
theorem d_M_part_456 : decode b_M_part 456 = .ok (.iand, 1) := by decide +kernel
theorem d_M_part_457 : decode b_M_part 457 = .ok (.ifCond .eq 23, 3) := by decide +kernel
theorem d_M_part_460 : decode b_M_part 460 = .ok (.aload_n 0, 1) := by decide +kernel
theorem d_M_part_461 : decode b_M_part 461 = .ok (.iload 4, 2) := by decide +kernel
theorem d_M_part_463 : decode b_M_part 463 = .ok (.ifCond .eq 8, 3) := by decide +kernel
theorem d_M_part_466 : decode b_M_part 466 = .ok (.iload 10, 2) := by decide +kernel
theorem d_M_part_468 : decode b_M_part 468 = .ok (.goto 8, 3) := by decide +kernel
theorem d_M_part_471 : decode b_M_part 471 = .ok (.iload 10, 2) := by decide +kernel
theorem d_M_part_473 : decode b_M_part 473 = .ok (.iload 8, 2) := by decide +kernel
theorem d_M_part_475 : decode b_M_part 475 = .ok (.iand, 1) := by decide +kernel
theorem d_M_part_476 : decode b_M_part 476 = .ok (.putfield 143, 3) := by decide +kernel
theorem d_M_part_479 : decode b_M_part 479 = .ok (.return_, 1) := by decide +kernel
theorem d_M_part_480 : decode b_M_part 480 = .ok (.aload_n 0, 1) := by decide +kernel
theorem d_M_part_481 : decode b_M_part 481 = .ok (.iload_n 3, 1) := by decide +kernel
theorem d_M_part_482 : decode b_M_part 482 = .ok (.ifCond .eq 10, 3) := by decide +kernel
theorem d_M_part_485 : decode b_M_part 485 = .ok (.iload 10, 2) := by decide +kernel
theorem d_M_part_487 : decode b_M_part 487 = .ok (.iload_n 2, 1) := by decide +kernel
theorem d_M_part_488 : decode b_M_part 488 = .ok (.iand, 1) := by decide +kernel
theorem d_M_part_489 : decode b_M_part 489 = .ok (.goto 5, 3) := by decide +kernel
theorem d_M_part_492 : decode b_M_part 492 = .ok (.iload 10, 2) := by decide +kernel
theorem d_M_part_494 : decode b_M_part 494 = .ok (.invokevirtual 163, 3) := by decide +kernel
theorem d_M_part_497 : decode b_M_part 497 = .ok (.istore 11, 2) := by decide +kernel
theorem d_M_part_499 : decode b_M_part 499 = .ok (.iload 11, 2) := by decide +kernel
theorem d_M_part_501 : decode b_M_part 501 = .ok (.ifCond .ne 16, 3) := by decide +kernel
theorem d_M_part_504 : decode b_M_part 504 = .ok (.aload_n 0, 1) := by decide +kernel
theorem d_M_part_505 : decode b_M_part 505 = .ok (.iconst 3, 1) := by decide +kernel
theorem d_M_part_506 : decode b_M_part 506 = .ok (.putfield 137, 3) := by decide +kernel
theorem d_M_part_509 : decode b_M_part 509 = .ok (.aload_n 0, 1) := by decide +kernel
theorem d_M_part_510 : decode b_M_part 510 = .ok (.iconst 0, 1) := by decide +kernel
theorem d_M_part_511 : decode b_M_part 511 = .ok (.putfield 160, 3) := by decide +kernel
theorem d_M_part_514 : decode b_M_part 514 = .ok (.goto 35, 3) := by decide +kernel
theorem d_M_part_517 : decode b_M_part 517 = .ok (.iload 9, 2) := by decide +kernel
theorem d_M_part_519 : decode b_M_part 519 = .ok (.ifCond .ne 12, 3) := by decide +kernel
theorem d_M_part_522 : decode b_M_part 522 = .ok (.aload_n 0, 1) := by decide +kernel
theorem d_M_part_523 : decode b_M_part 523 = .ok (.iload 11, 2) := by decide +kernel
theorem d_M_part_525 : decode b_M_part 525 = .ok (.invokevirtual 169, 3) := by decide +kernel
theorem d_M_part_528 : decode b_M_part 528 = .ok (.ifCond .eq 15, 3) := by decide +kernel
theorem d_M_part_531 : decode b_M_part 531 = .ok (.aload_n 0, 1) := by decide +kernel
theorem d_M_part_532 : decode b_M_part 532 = .ok (.iload 11, 2) := by decide +kernel
theorem d_M_part_534 : decode b_M_part 534 = .ok (.invokestatic 166, 3) := by decide +kernel
theorem d_M_part_537 : decode b_M_part 537 = .ok (.putfield 143, 3) := by decide +kernel
theorem d_M_part_540 : decode b_M_part 540 = .ok (.goto 9, 3) := by decide +kernel
theorem d_M_part_543 : decode b_M_part 543 = .ok (.aload_n 0, 1) := by decide +kernel
theorem d_M_part_544 : decode b_M_part 544 = .ok (.iload 11, 2) := by decide +kernel
theorem d_M_part_546 : decode b_M_part 546 = .ok (.putfield 140, 3) := by decide +kernel
theorem d_M_part_549 : decode b_M_part 549 = .ok (.return_, 1) := by decide +kernel
theorem d_M_go_0 : decode b_M_go 0 = .ok (.aload_n 0, 1) := by decide +kernel
theorem d_M_go_1 : decode b_M_go 1 = .ok (.iconst 0, 1) := by decide +kernel
theorem d_M_go_2 : decode b_M_go 2 = .ok (.putfield 179, 3) := by decide +kernel
theorem d_M_go_5 : decode b_M_go 5 = .ok (.aload_n 0, 1) := by decide +kernel
theorem d_M_go_6 : decode b_M_go 6 = .ok (.aload_n 0, 1) := by decide +kernel
theorem d_M_go_7 : decode b_M_go 7 = .ok (.getfield 44, 3) := by decide +kernel
theorem d_M_go_10 : decode b_M_go 10 = .ok (.aload_n 0, 1) := by decide +kernel
theorem d_M_go_11 : decode b_M_go 11 = .ok (.getfield 182, 3) := by decide +kernel
theorem d_M_go_14 : decode b_M_go 14 = .ok (.invokevirtual 130, 3) := by decide +kernel
theorem d_M_go_17 : decode b_M_go 17 = .ok (.iconst 0, 1) := by decide +kernel
theorem d_M_go_18 : decode b_M_go 18 = .ok (.istore_n 1, 1) := by decide +kernel
theorem d_M_go_19 : decode b_M_go 19 = .ok (.iconst 0, 1) := by decide +kernel
theorem d_M_go_20 : decode b_M_go 20 = .ok (.istore_n 2, 1) := by decide +kernel
theorem d_M_go_21 : decode b_M_go 21 = .ok (.iconst 0, 1) := by decide +kernel
theorem d_M_go_22 : decode b_M_go 22 = .ok (.istore_n 3, 1) := by decide +kernel
theorem d_M_go_23 : decode b_M_go 23 = .ok (.iload_n 3, 1) := by decide +kernel
theorem d_M_go_24 : decode b_M_go 24 = .ok (.aload_n 0, 1) := by decide +kernel
theorem d_M_go_25 : decode b_M_go 25 = .ok (.getfield 185, 3) := by decide +kernel
theorem d_M_go_28 : decode b_M_go 28 = .ok (.if_icmp .ge 172, 3) := by decide +kernel
theorem d_M_go_31 : decode b_M_go 31 = .ok (.aload_n 0, 1) := by decide +kernel
theorem d_M_go_32 : decode b_M_go 32 = .ok (.iconst 1, 1) := by decide +kernel
theorem d_M_go_33 : decode b_M_go 33 = .ok (.aload_n 0, 1) := by decide +kernel
theorem d_M_go_34 : decode b_M_go 34 = .ok (.getfield 47, 3) := by decide +kernel
theorem d_M_go_37 : decode b_M_go 37 = .ok (.iload_n 3, 1) := by decide +kernel
theorem d_M_go_38 : decode b_M_go 38 = .ok (.iaload, 1) := by decide +kernel
theorem d_M_go_39 : decode b_M_go 39 = .ok (.aload_n 0, 1) := by decide +kernel
theorem d_M_go_40 : decode b_M_go 40 = .ok (.getfield 50, 3) := by decide +kernel
theorem d_M_go_43 : decode b_M_go 43 = .ok (.iload_n 3, 1) := by decide +kernel
theorem d_M_go_44 : decode b_M_go 44 = .ok (.baload, 1) := by decide +kernel
theorem d_M_go_45 : decode b_M_go 45 = .ok (.invokevirtual 172, 3) := by decide +kernel
theorem d_M_go_48 : decode b_M_go 48 = .ok (.aload_n 0, 1) := by decide +kernel
theorem d_M_go_49 : decode b_M_go 49 = .ok (.dup, 1) := by decide +kernel
theorem d_M_go_50 : decode b_M_go 50 = .ok (.getfield 97, 3) := by decide +kernel
theorem d_M_go_53 : decode b_M_go 53 = .ok (.iconst 1, 1) := by decide +kernel
theorem d_M_go_54 : decode b_M_go 54 = .ok (.iadd, 1) := by decide +kernel
theorem d_M_go_55 : decode b_M_go 55 = .ok (.putfield 97, 3) := by decide +kernel
theorem d_M_go_58 : decode b_M_go 58 = .ok (.aload_n 0, 1) := by decide +kernel
theorem d_M_go_59 : decode b_M_go 59 = .ok (.getfield 137, 3) := by decide +kernel
theorem d_M_go_62 : decode b_M_go 62 = .ok (.ifCond .gt 10, 3) := by decide +kernel
theorem d_M_go_65 : decode b_M_go 65 = .ok (.aload_n 0, 1) := by decide +kernel
theorem d_M_go_66 : decode b_M_go 66 = .ok (.getfield 140, 3) := by decide +kernel
theorem d_M_go_69 : decode b_M_go 69 = .ok (.ifCond .eq 73, 3) := by decide +kernel
theorem d_M_go_72 : decode b_M_go 72 = .ok (.aload_n 0, 1) := by decide +kernel
theorem d_M_go_73 : decode b_M_go 73 = .ok (.iload_n 3, 1) := by decide +kernel
theorem d_M_go_74 : decode b_M_go 74 = .ok (.iconst (-1), 1) := by decide +kernel
theorem d_M_go_75 : decode b_M_go 75 = .ok (.aload_n 0, 1) := by decide +kernel
theorem d_M_go_76 : decode b_M_go 76 = .ok (.getfield 137, 3) := by decide +kernel
theorem d_M_go_79 : decode b_M_go 79 = .ok (.iconst 2, 1) := by decide +kernel
theorem d_M_go_80 : decode b_M_go 80 = .ok (.if_icmp .eq 19, 3) := by decide +kernel
theorem d_M_go_83 : decode b_M_go 83 = .ok (.aload_n 0, 1) := by decide +kernel
theorem d_M_go_84 : decode b_M_go 84 = .ok (.getfield 137, 3) := by decide +kernel
theorem d_M_go_87 : decode b_M_go 87 = .ok (.iconst 3, 1) := by decide +kernel
theorem d_M_go_88 : decode b_M_go 88 = .ok (.if_icmp .eq 11, 3) := by decide +kernel
theorem d_M_go_91 : decode b_M_go 91 = .ok (.aload_n 0, 1) := by decide +kernel
theorem d_M_go_92 : decode b_M_go 92 = .ok (.getfield 137, 3) := by decide +kernel
theorem d_M_go_95 : decode b_M_go 95 = .ok (.iconst 5, 1) := by decide +kernel
theorem d_M_go_96 : decode b_M_go 96 = .ok (.if_icmp .ne 7, 3) := by decide +kernel
theorem d_M_go_99 : decode b_M_go 99 = .ok (.iconst 0, 1) := by decide +kernel
theorem d_M_go_100 : decode b_M_go 100 = .ok (.goto 7, 3) := by decide +kernel
theorem d_M_go_103 : decode b_M_go 103 = .ok (.aload_n 0, 1) := by decide +kernel
theorem d_M_go_104 : decode b_M_go 104 = .ok (.getfield 160, 3) := by decide +kernel
theorem d_M_go_107 : decode b_M_go 107 = .ok (.invokevirtual 188, 3) := by decide +kernel
theorem d_M_go_110 : decode b_M_go 110 = .ok (.aload_n 0, 1) := by decide +kernel
theorem d_M_go_111 : decode b_M_go 111 = .ok (.aload_n 0, 1) := by decide +kernel
theorem d_M_go_112 : decode b_M_go 112 = .ok (.getfield 140, 3) := by decide +kernel
theorem d_M_go_115 : decode b_M_go 115 = .ok (.putfield 179, 3) := by decide +kernel
theorem d_M_go_118 : decode b_M_go 118 = .ok (.aload_n 0, 1) := by decide +kernel
theorem d_M_go_119 : decode b_M_go 119 = .ok (.iload_n 3, 1) := by decide +kernel
theorem d_M_go_120 : decode b_M_go 120 = .ok (.putfield 192, 3) := by decide +kernel
theorem d_M_go_123 : decode b_M_go 123 = .ok (.aload_n 0, 1) := by decide +kernel
theorem d_M_go_124 : decode b_M_go 124 = .ok (.getfield 137, 3) := by decide +kernel
theorem d_M_go_127 : decode b_M_go 127 = .ok (.ifCond .le 13, 3) := by decide +kernel
theorem d_M_go_130 : decode b_M_go 130 = .ok (.bipush (-10), 2) := by decide +kernel
theorem d_M_go_132 : decode b_M_go 132 = .ok (.aload_n 0, 1) := by decide +kernel
theorem d_M_go_133 : decode b_M_go 133 = .ok (.getfield 137, 3) := by decide +kernel
theorem d_M_go_136 : decode b_M_go 136 = .ok (.isub, 1) := by decide +kernel
theorem d_M_go_137 : decode b_M_go 137 = .ok (.goto 4, 3) := by decide +kernel
theorem d_M_go_140 : decode b_M_go 140 = .ok (.iconst 0, 1) := by decide +kernel
theorem d_M_go_141 : decode b_M_go 141 = .ok (.ireturn, 1) := by decide +kernel
theorem d_M_go_142 : decode b_M_go 142 = .ok (.iconst 0, 1) := by decide +kernel
theorem d_M_go_143 : decode b_M_go 143 = .ok (.istore 4, 2) := by decide +kernel
theorem d_M_go_145 : decode b_M_go 145 = .ok (.iload 4, 2) := by decide +kernel
theorem d_M_go_147 : decode b_M_go 147 = .ok (.aload_n 0, 1) := by decide +kernel
theorem d_M_go_148 : decode b_M_go 148 = .ok (.getfield 69, 3) := by decide +kernel
theorem d_M_go_151 : decode b_M_go 151 = .ok (.if_icmp .ge 36, 3) := by decide +kernel
theorem d_M_go_154 : decode b_M_go 154 = .ok (.aload_n 0, 1) := by decide +kernel
theorem d_M_go_155 : decode b_M_go 155 = .ok (.getfield 143, 3) := by decide +kernel
theorem d_M_go_158 : decode b_M_go 158 = .ok (.iload_n 1, 1) := by decide +kernel
theorem d_M_go_159 : decode b_M_go 159 = .ok (.iconst (-1), 1) := by decide +kernel
theorem d_M_go_160 : decode b_M_go 160 = .ok (.ixor, 1) := by decide +kernel
theorem d_M_go_161 : decode b_M_go 161 = .ok (.iand, 1) := by decide +kernel
theorem d_M_go_162 : decode b_M_go 162 = .ok (.iload 4, 2) := by decide +kernel
theorem d_M_go_164 : decode b_M_go 164 = .ok (.invokestatic 114, 3) := by decide +kernel
theorem d_M_go_167 : decode b_M_go 167 = .ok (.ifCond .eq 14, 3) := by decide +kernel
theorem d_M_go_170 : decode b_M_go 170 = .ok (.aload_n 0, 1) := by decide +kernel
theorem d_M_go_171 : decode b_M_go 171 = .ok (.getfield 57, 3) := by decide +kernel
theorem d_M_go_174 : decode b_M_go 174 = .ok (.iload_n 2, 1) := by decide +kernel
theorem d_M_go_175 : decode b_M_go 175 = .ok (.iload 4, 2) := by decide +kernel
theorem d_M_go_177 : decode b_M_go 177 = .ok (.iastore, 1) := by decide +kernel
theorem d_M_go_178 : decode b_M_go 178 = .ok (.iinc 2 1, 3) := by decide +kernel
theorem d_M_go_181 : decode b_M_go 181 = .ok (.iinc 4 1, 3) := by decide +kernel
theorem d_M_go_184 : decode b_M_go 184 = .ok (.goto (-39), 3) := by decide +kernel
theorem d_M_go_187 : decode b_M_go 187 = .ok (.iload_n 1, 1) := by decide +kernel
theorem d_M_go_188 : decode b_M_go 188 = .ok (.aload_n 0, 1) := by decide +kernel
theorem d_M_go_189 : decode b_M_go 189 = .ok (.getfield 143, 3) := by decide +kernel
theorem d_M_go_192 : decode b_M_go 192 = .ok (.ior, 1) := by decide +kernel
theorem d_M_go_193 : decode b_M_go 193 = .ok (.istore_n 1, 1) := by decide +kernel
theorem d_M_go_194 : decode b_M_go 194 = .ok (.iinc 3 1, 3) := by decide +kernel
theorem d_M_go_197 : decode b_M_go 197 = .ok (.goto (-174), 3) := by decide +kernel
theorem d_M_go_200 : decode b_M_go 200 = .ok (.aload_n 0, 1) := by decide +kernel
theorem d_M_go_201 : decode b_M_go 201 = .ok (.iconst (-1), 1) := by decide +kernel
theorem d_M_go_202 : decode b_M_go 202 = .ok (.iconst (-1), 1) := by decide +kernel
theorem d_M_go_203 : decode b_M_go 203 = .ok (.iconst (-1), 1) := by decide +kernel
theorem d_M_go_204 : decode b_M_go 204 = .ok (.invokevirtual 188, 3) := by decide +kernel
theorem d_M_go_207 : decode b_M_go 207 = .ok (.iload_n 2, 1) := by decide +kernel
theorem d_M_go_208 : decode b_M_go 208 = .ok (.aload_n 0, 1) := by decide +kernel
theorem d_M_go_209 : decode b_M_go 209 = .ok (.getfield 35, 3) := by decide +kernel
theorem d_M_go_212 : decode b_M_go 212 = .ok (.if_icmp .le 6, 3) := by decide +kernel
theorem d_M_go_215 : decode b_M_go 215 = .ok (.bipush (-17), 2) := by decide +kernel
theorem d_M_go_217 : decode b_M_go 217 = .ok (.ireturn, 1) := by decide +kernel
theorem d_M_go_218 : decode b_M_go 218 = .ok (.aload_n 0, 1) := by decide +kernel
theorem d_M_go_219 : decode b_M_go 219 = .ok (.iload_n 1, 1) := by decide +kernel
theorem d_M_go_220 : decode b_M_go 220 = .ok (.putfield 124, 3) := by decide +kernel
theorem d_M_go_223 : decode b_M_go 223 = .ok (.aload_n 0, 1) := by decide +kernel
theorem d_M_go_224 : decode b_M_go 224 = .ok (.iload_n 2, 1) := by decide +kernel
theorem d_M_go_225 : decode b_M_go 225 = .ok (.putfield 195, 3) := by decide +kernel
theorem d_M_go_228 : decode b_M_go 228 = .ok (.iconst 0, 1) := by decide +kernel
theorem d_M_go_229 : decode b_M_go 229 = .ok (.istore_n 3, 1) := by decide +kernel
theorem d_M_go_230 : decode b_M_go 230 = .ok (.iload_n 3, 1) := by decide +kernel
theorem d_M_go_231 : decode b_M_go 231 = .ok (.iload_n 2, 1) := by decide +kernel
theorem d_M_go_232 : decode b_M_go 232 = .ok (.if_icmp .ge 21, 3) := by decide +kernel
theorem d_M_go_235 : decode b_M_go 235 = .ok (.aload_n 0, 1) := by decide +kernel
theorem d_M_go_236 : decode b_M_go 236 = .ok (.getfield 54, 3) := by decide +kernel
theorem d_M_go_239 : decode b_M_go 239 = .ok (.iload_n 3, 1) := by decide +kernel
theorem d_M_go_240 : decode b_M_go 240 = .ok (.aload_n 0, 1) := by decide +kernel
theorem d_M_go_241 : decode b_M_go 241 = .ok (.getfield 57, 3) := by decide +kernel
theorem d_M_go_244 : decode b_M_go 244 = .ok (.iload_n 3, 1) := by decide +kernel
theorem d_M_go_245 : decode b_M_go 245 = .ok (.iaload, 1) := by decide +kernel
theorem d_M_go_246 : decode b_M_go 246 = .ok (.iastore, 1) := by decide +kernel
theorem d_M_go_247 : decode b_M_go 247 = .ok (.iinc 3 1, 3) := by decide +kernel
theorem d_M_go_250 : decode b_M_go 250 = .ok (.goto (-20), 3) := by decide +kernel
theorem d_M_go_253 : decode b_M_go 253 = .ok (.iload_n 2, 1) := by decide +kernel
theorem d_M_go_254 : decode b_M_go 254 = .ok (.ireturn, 1) := by decide +kernel
theorem d_M_choose_0 : decode b_M_choose 0 = .ok (.aload_n 0, 1) := by decide +kernel
theorem d_M_choose_1 : decode b_M_choose 1 = .ok (.iconst 0, 1) := by decide +kernel
theorem d_M_choose_2 : decode b_M_choose 2 = .ok (.putfield 1, 3) := by decide +kernel
theorem d_M_choose_5 : decode b_M_choose 5 = .ok (.aload_n 0, 1) := by decide +kernel
theorem d_M_choose_6 : decode b_M_choose 6 = .ok (.getfield 88, 3) := by decide +kernel
theorem d_M_choose_9 : decode b_M_choose 9 = .ok (.istore_n 1, 1) := by decide +kernel
theorem d_M_choose_10 : decode b_M_choose 10 = .ok (.aload_n 0, 1) := by decide +kernel
theorem d_M_choose_11 : decode b_M_choose 11 = .ok (.iconst 0, 1) := by decide +kernel
theorem d_M_choose_12 : decode b_M_choose 12 = .ok (.putfield 88, 3) := by decide +kernel
theorem d_M_choose_15 : decode b_M_choose 15 = .ok (.aload_n 0, 1) := by decide +kernel
theorem d_M_choose_16 : decode b_M_choose 16 = .ok (.aload_n 0, 1) := by decide +kernel
theorem d_M_choose_17 : decode b_M_choose 17 = .ok (.getfield 38, 3) := by decide +kernel
theorem d_M_choose_20 : decode b_M_choose 20 = .ok (.iload_n 1, 1) := by decide +kernel
theorem d_M_choose_21 : decode b_M_choose 21 = .ok (.invokevirtual 198, 3) := by decide +kernel
theorem d_M_choose_24 : decode b_M_choose 24 = .ok (.ifCond .ne 16, 3) := by decide +kernel
theorem d_M_choose_27 : decode b_M_choose 27 = .ok (.aload_n 0, 1) := by decide +kernel
theorem d_M_choose_28 : decode b_M_choose 28 = .ok (.iconst (-1), 1) := by decide +kernel
theorem d_M_choose_29 : decode b_M_choose 29 = .ok (.aload_n 0, 1) := by decide +kernel
theorem d_M_choose_30 : decode b_M_choose 30 = .ok (.getfield 97, 3) := by decide +kernel
theorem d_M_choose_33 : decode b_M_choose 33 = .ok (.iconst (-1), 1) := by decide +kernel
theorem d_M_choose_34 : decode b_M_choose 34 = .ok (.invokevirtual 188, 3) := by decide +kernel
theorem d_M_choose_37 : decode b_M_choose 37 = .ok (.bipush (-11), 2) := by decide +kernel
theorem d_M_choose_39 : decode b_M_choose 39 = .ok (.ireturn, 1) := by decide +kernel
theorem d_M_choose_40 : decode b_M_choose 40 = .ok (.aload_n 0, 1) := by decide +kernel
theorem d_M_choose_41 : decode b_M_choose 41 = .ok (.iload_n 1, 1) := by decide +kernel
theorem d_M_choose_42 : decode b_M_choose 42 = .ok (.putfield 182, 3) := by decide +kernel
theorem d_M_choose_45 : decode b_M_choose 45 = .ok (.aload_n 0, 1) := by decide +kernel
theorem d_M_choose_46 : decode b_M_choose 46 = .ok (.aload_n 0, 1) := by decide +kernel
theorem d_M_choose_47 : decode b_M_choose 47 = .ok (.getfield 176, 3) := by decide +kernel
theorem d_M_choose_50 : decode b_M_choose 50 = .ok (.putfield 185, 3) := by decide +kernel
theorem d_M_choose_53 : decode b_M_choose 53 = .ok (.iconst 0, 1) := by decide +kernel
theorem d_M_choose_54 : decode b_M_choose 54 = .ok (.istore_n 2, 1) := by decide +kernel
theorem d_M_choose_55 : decode b_M_choose 55 = .ok (.iload_n 2, 1) := by decide +kernel
theorem d_M_choose_56 : decode b_M_choose 56 = .ok (.iload_n 1, 1) := by decide +kernel
theorem d_M_choose_57 : decode b_M_choose 57 = .ok (.if_icmp .ge 21, 3) := by decide +kernel
theorem d_M_choose_60 : decode b_M_choose 60 = .ok (.aload_n 0, 1) := by decide +kernel
theorem d_M_choose_61 : decode b_M_choose 61 = .ok (.getfield 44, 3) := by decide +kernel
theorem d_M_choose_64 : decode b_M_choose 64 = .ok (.iload_n 2, 1) := by decide +kernel
theorem d_M_choose_65 : decode b_M_choose 65 = .ok (.aload_n 0, 1) := by decide +kernel
theorem d_M_choose_66 : decode b_M_choose 66 = .ok (.getfield 38, 3) := by decide +kernel
theorem d_M_choose_69 : decode b_M_choose 69 = .ok (.iload_n 2, 1) := by decide +kernel
theorem d_M_choose_70 : decode b_M_choose 70 = .ok (.iaload, 1) := by decide +kernel
theorem d_M_choose_71 : decode b_M_choose 71 = .ok (.iastore, 1) := by decide +kernel
theorem d_M_choose_72 : decode b_M_choose 72 = .ok (.iinc 2 1, 3) := by decide +kernel
theorem d_M_choose_75 : decode b_M_choose 75 = .ok (.goto (-20), 3) := by decide +kernel
theorem d_M_choose_78 : decode b_M_choose 78 = .ok (.iconst 0, 1) := by decide +kernel
theorem d_M_choose_79 : decode b_M_choose 79 = .ok (.istore_n 2, 1) := by decide +kernel
theorem d_M_choose_80 : decode b_M_choose 80 = .ok (.iload_n 2, 1) := by decide +kernel
theorem d_M_choose_81 : decode b_M_choose 81 = .ok (.bipush 30, 2) := by decide +kernel
theorem d_M_choose_83 : decode b_M_choose 83 = .ok (.if_icmp .ge 16, 3) := by decide +kernel
theorem d_M_choose_86 : decode b_M_choose 86 = .ok (.aload_n 0, 1) := by decide +kernel
theorem d_M_choose_87 : decode b_M_choose 87 = .ok (.getfield 50, 3) := by decide +kernel
theorem d_M_choose_90 : decode b_M_choose 90 = .ok (.iload_n 2, 1) := by decide +kernel
theorem d_M_choose_91 : decode b_M_choose 91 = .ok (.iconst 0, 1) := by decide +kernel
theorem d_M_choose_92 : decode b_M_choose 92 = .ok (.bastore, 1) := by decide +kernel
theorem d_M_choose_93 : decode b_M_choose 93 = .ok (.iinc 2 1, 3) := by decide +kernel
theorem d_M_choose_96 : decode b_M_choose 96 = .ok (.goto (-16), 3) := by decide +kernel
theorem d_M_choose_99 : decode b_M_choose 99 = .ok (.aload_n 0, 1) := by decide +kernel
theorem d_M_choose_100 : decode b_M_choose 100 = .ok (.invokevirtual 202, 3) := by decide +kernel
theorem d_M_choose_103 : decode b_M_choose 103 = .ok (.ireturn, 1) := by decide +kernel
theorem d_M_reply_0 : decode b_M_reply 0 = .ok (.aload_n 0, 1) := by decide +kernel
theorem d_M_reply_1 : decode b_M_reply 1 = .ok (.iconst 0, 1) := by decide +kernel
theorem d_M_reply_2 : decode b_M_reply 2 = .ok (.putfield 1, 3) := by decide +kernel
theorem d_M_reply_5 : decode b_M_reply 5 = .ok (.aload_n 0, 1) := by decide +kernel
theorem d_M_reply_6 : decode b_M_reply 6 = .ok (.getfield 179, 3) := by decide +kernel
theorem d_M_reply_9 : decode b_M_reply 9 = .ok (.ifCond .ne 6, 3) := by decide +kernel
theorem d_M_reply_12 : decode b_M_reply 12 = .ok (.bipush (-4), 2) := by decide +kernel
theorem d_M_reply_14 : decode b_M_reply 14 = .ok (.ireturn, 1) := by decide +kernel
theorem d_M_reply_15 : decode b_M_reply 15 = .ok (.aload_n 0, 1) := by decide +kernel
theorem d_M_reply_16 : decode b_M_reply 16 = .ok (.aload_n 0, 1) := by decide +kernel
theorem d_M_reply_17 : decode b_M_reply 17 = .ok (.getfield 38, 3) := by decide +kernel
theorem d_M_reply_20 : decode b_M_reply 20 = .ok (.aload_n 0, 1) := by decide +kernel
theorem d_M_reply_21 : decode b_M_reply 21 = .ok (.getfield 88, 3) := by decide +kernel
theorem d_M_reply_24 : decode b_M_reply 24 = .ok (.invokevirtual 130, 3) := by decide +kernel
theorem d_M_reply_27 : decode b_M_reply 27 = .ok (.aload_n 0, 1) := by decide +kernel
theorem d_M_reply_28 : decode b_M_reply 28 = .ok (.iconst 0, 1) := by decide +kernel
theorem d_M_reply_29 : decode b_M_reply 29 = .ok (.putfield 88, 3) := by decide +kernel
theorem d_M_reply_32 : decode b_M_reply 32 = .ok (.iconst 0, 1) := by decide +kernel
theorem d_M_reply_33 : decode b_M_reply 33 = .ok (.istore_n 1, 1) := by decide +kernel
theorem d_M_reply_34 : decode b_M_reply 34 = .ok (.aload_n 0, 1) := by decide +kernel
theorem d_M_reply_35 : decode b_M_reply 35 = .ok (.invokevirtual 104, 3) := by decide +kernel
theorem d_M_reply_38 : decode b_M_reply 38 = .ok (.bipush 40, 2) := by decide +kernel
theorem d_M_reply_40 : decode b_M_reply 40 = .ok (.if_icmp .le 34, 3) := by decide +kernel
theorem d_M_reply_43 : decode b_M_reply 43 = .ok (.aload_n 0, 1) := by decide +kernel
theorem d_M_reply_44 : decode b_M_reply 44 = .ok (.aload_n 0, 1) := by decide +kernel
theorem d_M_reply_45 : decode b_M_reply 45 = .ok (.getfield 179, 3) := by decide +kernel
theorem d_M_reply_48 : decode b_M_reply 48 = .ok (.aload_n 0, 1) := by decide +kernel
theorem d_M_reply_49 : decode b_M_reply 49 = .ok (.invokevirtual 104, 3) := by decide +kernel
theorem d_M_reply_52 : decode b_M_reply 52 = .ok (.bipush 40, 2) := by decide +kernel
theorem d_M_reply_54 : decode b_M_reply 54 = .ok (.isub, 1) := by decide +kernel
theorem d_M_reply_55 : decode b_M_reply 55 = .ok (.iconst 1, 1) := by decide +kernel
theorem d_M_reply_56 : decode b_M_reply 56 = .ok (.isub, 1) := by decide +kernel
theorem d_M_reply_57 : decode b_M_reply 57 = .ok (.invokevirtual 208, 3) := by decide +kernel
theorem d_M_reply_60 : decode b_M_reply 60 = .ok (.istore_n 1, 1) := by decide +kernel
theorem d_M_reply_61 : decode b_M_reply 61 = .ok (.aload_n 0, 1) := by decide +kernel
theorem d_M_reply_62 : decode b_M_reply 62 = .ok (.dup, 1) := by decide +kernel
theorem d_M_reply_63 : decode b_M_reply 63 = .ok (.getfield 97, 3) := by decide +kernel
theorem d_M_reply_66 : decode b_M_reply 66 = .ok (.iconst 1, 1) := by decide +kernel
theorem d_M_reply_67 : decode b_M_reply 67 = .ok (.iadd, 1) := by decide +kernel
theorem d_M_reply_68 : decode b_M_reply 68 = .ok (.putfield 97, 3) := by decide +kernel
theorem d_M_reply_71 : decode b_M_reply 71 = .ok (.goto 108, 3) := by decide +kernel
theorem d_M_reply_74 : decode b_M_reply 74 = .ok (.aload_n 0, 1) := by decide +kernel
theorem d_M_reply_75 : decode b_M_reply 75 = .ok (.getfield 179, 3) := by decide +kernel
theorem d_M_reply_78 : decode b_M_reply 78 = .ok (.istore_n 1, 1) := by decide +kernel
theorem d_M_reply_79 : decode b_M_reply 79 = .ok (.aload_n 0, 1) := by decide +kernel
theorem d_M_reply_80 : decode b_M_reply 80 = .ok (.iconst 0, 1) := by decide +kernel
theorem d_M_reply_81 : decode b_M_reply 81 = .ok (.putfield 111, 3) := by decide +kernel
theorem d_M_reply_84 : decode b_M_reply 84 = .ok (.aload_n 0, 1) := by decide +kernel
theorem d_M_reply_85 : decode b_M_reply 85 = .ok (.invokevirtual 117, 3) := by decide +kernel
theorem d_M_reply_88 : decode b_M_reply 88 = .ok (.ifCond .eq 75, 3) := by decide +kernel
theorem d_M_reply_91 : decode b_M_reply 91 = .ok (.aload_n 0, 1) := by decide +kernel
theorem d_M_reply_92 : decode b_M_reply 92 = .ok (.getfield 111, 3) := by decide +kernel
theorem d_M_reply_95 : decode b_M_reply 95 = .ok (.bipush 6, 2) := by decide +kernel
theorem d_M_reply_97 : decode b_M_reply 97 = .ok (.if_icmp .ge 66, 3) := by decide +kernel
theorem d_M_reply_100 : decode b_M_reply 100 = .ok (.iconst 0, 1) := by decide +kernel
theorem d_M_reply_101 : decode b_M_reply 101 = .ok (.istore_n 2, 1) := by decide +kernel
theorem d_M_reply_102 : decode b_M_reply 102 = .ok (.iload_n 2, 1) := by decide +kernel
theorem d_M_reply_103 : decode b_M_reply 103 = .ok (.aload_n 0, 1) := by decide +kernel
theorem d_M_reply_104 : decode b_M_reply 104 = .ok (.getfield 69, 3) := by decide +kernel
theorem d_M_reply_107 : decode b_M_reply 107 = .ok (.if_icmp .ge 33, 3) := by decide +kernel
theorem d_M_reply_110 : decode b_M_reply 110 = .ok (.aload_n 0, 1) := by decide +kernel
theorem d_M_reply_111 : decode b_M_reply 111 = .ok (.iload_n 2, 1) := by decide +kernel
theorem d_M_reply_112 : decode b_M_reply 112 = .ok (.aload_n 0, 1) := by decide +kernel
theorem d_M_reply_113 : decode b_M_reply 113 = .ok (.invokevirtual 104, 3) := by decide +kernel
theorem d_M_reply_116 : decode b_M_reply 116 = .ok (.invokevirtual 121, 3) := by decide +kernel
theorem d_M_reply_119 : decode b_M_reply 119 = .ok (.ifCond .eq 7, 3) := by decide +kernel
theorem d_M_reply_122 : decode b_M_reply 122 = .ok (.iload_n 1, 1) := by decide +kernel
theorem d_M_reply_123 : decode b_M_reply 123 = .ok (.goto 10, 3) := by decide +kernel
theorem d_M_reply_126 : decode b_M_reply 126 = .ok (.iload_n 1, 1) := by decide +kernel
theorem d_M_reply_127 : decode b_M_reply 127 = .ok (.iconst 1, 1) := by decide +kernel
theorem d_M_reply_128 : decode b_M_reply 128 = .ok (.iload_n 2, 1) := by decide +kernel
theorem d_M_reply_129 : decode b_M_reply 129 = .ok (.ishl, 1) := by decide +kernel
theorem d_M_reply_130 : decode b_M_reply 130 = .ok (.iconst (-1), 1) := by decide +kernel
theorem d_M_reply_131 : decode b_M_reply 131 = .ok (.ixor, 1) := by decide +kernel
theorem d_M_reply_132 : decode b_M_reply 132 = .ok (.iand, 1) := by decide +kernel
theorem d_M_reply_133 : decode b_M_reply 133 = .ok (.istore_n 1, 1) := by decide +kernel
theorem d_M_reply_134 : decode b_M_reply 134 = .ok (.iinc 2 1, 3) := by decide +kernel
theorem d_M_reply_137 : decode b_M_reply 137 = .ok (.goto (-35), 3) := by decide +kernel
theorem d_M_reply_140 : decode b_M_reply 140 = .ok (.aload_n 0, 1) := by decide +kernel
theorem d_M_reply_141 : decode b_M_reply 141 = .ok (.dup, 1) := by decide +kernel
theorem d_M_reply_142 : decode b_M_reply 142 = .ok (.getfield 111, 3) := by decide +kernel
theorem d_M_reply_145 : decode b_M_reply 145 = .ok (.iconst 1, 1) := by decide +kernel
theorem d_M_reply_146 : decode b_M_reply 146 = .ok (.iadd, 1) := by decide +kernel
theorem d_M_reply_147 : decode b_M_reply 147 = .ok (.putfield 111, 3) := by decide +kernel
theorem d_M_reply_150 : decode b_M_reply 150 = .ok (.aload_n 0, 1) := by decide +kernel
theorem d_M_reply_151 : decode b_M_reply 151 = .ok (.dup, 1) := by decide +kernel
theorem d_M_reply_152 : decode b_M_reply 152 = .ok (.getfield 97, 3) := by decide +kernel
theorem d_M_reply_155 : decode b_M_reply 155 = .ok (.iconst 1, 1) := by decide +kernel
theorem d_M_reply_156 : decode b_M_reply 156 = .ok (.iadd, 1) := by decide +kernel
theorem d_M_reply_157 : decode b_M_reply 157 = .ok (.putfield 97, 3) := by decide +kernel
theorem d_M_reply_160 : decode b_M_reply 160 = .ok (.goto (-76), 3) := by decide +kernel
theorem d_M_reply_163 : decode b_M_reply 163 = .ok (.aload_n 0, 1) := by decide +kernel
theorem d_M_reply_164 : decode b_M_reply 164 = .ok (.aload_n 0, 1) := by decide +kernel
theorem d_M_reply_165 : decode b_M_reply 165 = .ok (.getfield 111, 3) := by decide +kernel
theorem d_M_reply_168 : decode b_M_reply 168 = .ok (.ifCond .ne 7, 3) := by decide +kernel
theorem d_M_reply_171 : decode b_M_reply 171 = .ok (.iconst 1, 1) := by decide +kernel
theorem d_M_reply_172 : decode b_M_reply 172 = .ok (.goto 4, 3) := by decide +kernel
theorem d_M_reply_175 : decode b_M_reply 175 = .ok (.iconst 0, 1) := by decide +kernel
theorem d_M_reply_176 : decode b_M_reply 176 = .ok (.putfield 100, 3) := by decide +kernel
theorem d_M_reply_179 : decode b_M_reply 179 = .ok (.aload_n 0, 1) := by decide +kernel
theorem d_M_reply_180 : decode b_M_reply 180 = .ok (.getfield 100, 3) := by decide +kernel
theorem d_M_reply_183 : decode b_M_reply 183 = .ok (.ifCond .ne 14, 3) := by decide +kernel
theorem d_M_reply_186 : decode b_M_reply 186 = .ok (.aload_n 0, 1) := by decide +kernel
theorem d_M_reply_187 : decode b_M_reply 187 = .ok (.getfield 97, 3) := by decide +kernel
theorem d_M_reply_190 : decode b_M_reply 190 = .ok (.aload_n 0, 1) := by decide +kernel
theorem d_M_reply_191 : decode b_M_reply 191 = .ok (.getfield 94, 3) := by decide +kernel
theorem d_M_reply_194 : decode b_M_reply 194 = .ok (.if_icmp .ge 16, 3) := by decide +kernel
theorem d_M_reply_197 : decode b_M_reply 197 = .ok (.aload_n 0, 1) := by decide +kernel
theorem d_M_reply_198 : decode b_M_reply 198 = .ok (.iconst (-1), 1) := by decide +kernel
theorem d_M_reply_199 : decode b_M_reply 199 = .ok (.aload_n 0, 1) := by decide +kernel
theorem d_M_reply_200 : decode b_M_reply 200 = .ok (.getfield 97, 3) := by decide +kernel
theorem d_M_reply_203 : decode b_M_reply 203 = .ok (.iconst (-1), 1) := by decide +kernel
theorem d_M_reply_204 : decode b_M_reply 204 = .ok (.invokevirtual 188, 3) := by decide +kernel
theorem d_M_reply_207 : decode b_M_reply 207 = .ok (.bipush (-11), 2) := by decide +kernel
theorem d_M_reply_209 : decode b_M_reply 209 = .ok (.ireturn, 1) := by decide +kernel
theorem d_M_reply_210 : decode b_M_reply 210 = .ok (.iload_n 1, 1) := by decide +kernel
theorem d_M_reply_211 : decode b_M_reply 211 = .ok (.ifCond .ne 16, 3) := by decide +kernel
theorem d_M_reply_214 : decode b_M_reply 214 = .ok (.aload_n 0, 1) := by decide +kernel
theorem d_M_reply_215 : decode b_M_reply 215 = .ok (.aload_n 0, 1) := by decide +kernel
theorem d_M_reply_216 : decode b_M_reply 216 = .ok (.getfield 192, 3) := by decide +kernel
theorem d_M_reply_219 : decode b_M_reply 219 = .ok (.iconst (-1), 1) := by decide +kernel
theorem d_M_reply_220 : decode b_M_reply 220 = .ok (.iconst (-1), 1) := by decide +kernel
theorem d_M_reply_221 : decode b_M_reply 221 = .ok (.invokevirtual 188, 3) := by decide +kernel
theorem d_M_reply_224 : decode b_M_reply 224 = .ok (.bipush (-18), 2) := by decide +kernel
theorem d_M_reply_226 : decode b_M_reply 226 = .ok (.ireturn, 1) := by decide +kernel
theorem d_M_reply_227 : decode b_M_reply 227 = .ok (.aload_n 0, 1) := by decide +kernel
theorem d_M_reply_228 : decode b_M_reply 228 = .ok (.getfield 47, 3) := by decide +kernel
theorem d_M_reply_231 : decode b_M_reply 231 = .ok (.aload_n 0, 1) := by decide +kernel
theorem d_M_reply_232 : decode b_M_reply 232 = .ok (.getfield 192, 3) := by decide +kernel
theorem d_M_reply_235 : decode b_M_reply 235 = .ok (.iload_n 1, 1) := by decide +kernel
theorem d_M_reply_236 : decode b_M_reply 236 = .ok (.iastore, 1) := by decide +kernel
theorem d_M_reply_237 : decode b_M_reply 237 = .ok (.aload_n 0, 1) := by decide +kernel
theorem d_M_reply_238 : decode b_M_reply 238 = .ok (.getfield 50, 3) := by decide +kernel
theorem d_M_reply_241 : decode b_M_reply 241 = .ok (.aload_n 0, 1) := by decide +kernel
theorem d_M_reply_242 : decode b_M_reply 242 = .ok (.getfield 192, 3) := by decide +kernel
theorem d_M_reply_245 : decode b_M_reply 245 = .ok (.iconst 1, 1) := by decide +kernel
theorem d_M_reply_246 : decode b_M_reply 246 = .ok (.bastore, 1) := by decide +kernel
theorem d_M_reply_247 : decode b_M_reply 247 = .ok (.aload_n 0, 1) := by decide +kernel
theorem d_M_reply_248 : decode b_M_reply 248 = .ok (.invokevirtual 202, 3) := by decide +kernel
theorem d_M_reply_251 : decode b_M_reply 251 = .ok (.ireturn, 1) := by decide +kernel
theorem d_M_init_0 : decode b_M_init 0 = .ok (.aload_n 0, 1) := by decide +kernel
theorem d_M_init_1 : decode b_M_init 1 = .ok (.invokespecial 7, 3) := by decide +kernel
theorem d_M_init_4 : decode b_M_init 4 = .ok (.aload_n 0, 1) := by decide +kernel
theorem d_M_init_5 : decode b_M_init 5 = .ok (.bipush 32, 2) := by decide +kernel
theorem d_M_init_7 : decode b_M_init 7 = .ok (.newarray .int, 2) := by decide +kernel
theorem d_M_init_9 : decode b_M_init 9 = .ok (.putfield 13, 3) := by decide +kernel
theorem d_M_init_12 : decode b_M_init 12 = .ok (.aload_n 0, 1) := by decide +kernel
theorem d_M_init_13 : decode b_M_init 13 = .ok (.bipush 32, 2) := by decide +kernel
theorem d_M_init_15 : decode b_M_init 15 = .ok (.newarray .int, 2) := by decide +kernel
theorem d_M_init_17 : decode b_M_init 17 = .ok (.putfield 17, 3) := by decide +kernel
theorem d_M_init_20 : decode b_M_init 20 = .ok (.aload_n 0, 1) := by decide +kernel
theorem d_M_init_21 : decode b_M_init 21 = .ok (.bipush 32, 2) := by decide +kernel
theorem d_M_init_23 : decode b_M_init 23 = .ok (.newarray .int, 2) := by decide +kernel
theorem d_M_init_25 : decode b_M_init 25 = .ok (.putfield 20, 3) := by decide +kernel
theorem d_M_init_28 : decode b_M_init 28 = .ok (.aload_n 0, 1) := by decide +kernel
theorem d_M_init_29 : decode b_M_init 29 = .ok (.bipush 32, 2) := by decide +kernel
theorem d_M_init_31 : decode b_M_init 31 = .ok (.newarray .int, 2) := by decide +kernel
theorem d_M_init_33 : decode b_M_init 33 = .ok (.putfield 23, 3) := by decide +kernel
theorem d_M_init_36 : decode b_M_init 36 = .ok (.aload_n 0, 1) := by decide +kernel
theorem d_M_init_37 : decode b_M_init 37 = .ok (.sipush 128, 3) := by decide +kernel
theorem d_M_init_40 : decode b_M_init 40 = .ok (.newarray .int, 2) := by decide +kernel
theorem d_M_init_42 : decode b_M_init 42 = .ok (.putfield 26, 3) := by decide +kernel
theorem d_M_init_45 : decode b_M_init 45 = .ok (.aload_n 0, 1) := by decide +kernel
theorem d_M_init_46 : decode b_M_init 46 = .ok (.bipush 16, 2) := by decide +kernel
theorem d_M_init_48 : decode b_M_init 48 = .ok (.newarray .int, 2) := by decide +kernel
theorem d_M_init_50 : decode b_M_init 50 = .ok (.putfield 29, 3) := by decide +kernel
theorem d_M_init_53 : decode b_M_init 53 = .ok (.aload_n 0, 1) := by decide +kernel
theorem d_M_init_54 : decode b_M_init 54 = .ok (.iconst 4, 1) := by decide +kernel
theorem d_M_init_55 : decode b_M_init 55 = .ok (.newarray .int, 2) := by decide +kernel
theorem d_M_init_57 : decode b_M_init 57 = .ok (.putfield 32, 3) := by decide +kernel
theorem d_M_init_60 : decode b_M_init 60 = .ok (.aload_n 0, 1) := by decide +kernel
theorem d_M_init_61 : decode b_M_init 61 = .ok (.bipush 32, 2) := by decide +kernel
theorem d_M_init_63 : decode b_M_init 63 = .ok (.putfield 35, 3) := by decide +kernel
theorem d_M_init_66 : decode b_M_init 66 = .ok (.aload_n 0, 1) := by decide +kernel
theorem d_M_init_67 : decode b_M_init 67 = .ok (.bipush 30, 2) := by decide +kernel
theorem d_M_init_69 : decode b_M_init 69 = .ok (.newarray .int, 2) := by decide +kernel
theorem d_M_init_71 : decode b_M_init 71 = .ok (.putfield 38, 3) := by decide +kernel
theorem d_M_init_74 : decode b_M_init 74 = .ok (.aload_n 0, 1) := by decide +kernel
theorem d_M_init_75 : decode b_M_init 75 = .ok (.bipush 6, 2) := by decide +kernel
theorem d_M_init_77 : decode b_M_init 77 = .ok (.newarray .int, 2) := by decide +kernel
theorem d_M_init_79 : decode b_M_init 79 = .ok (.putfield 41, 3) := by decide +kernel
theorem d_M_init_82 : decode b_M_init 82 = .ok (.aload_n 0, 1) := by decide +kernel
theorem d_M_init_83 : decode b_M_init 83 = .ok (.bipush 30, 2) := by decide +kernel
theorem d_M_init_85 : decode b_M_init 85 = .ok (.newarray .int, 2) := by decide +kernel
theorem d_M_init_87 : decode b_M_init 87 = .ok (.putfield 44, 3) := by decide +kernel
theorem d_M_init_90 : decode b_M_init 90 = .ok (.aload_n 0, 1) := by decide +kernel
theorem d_M_init_91 : decode b_M_init 91 = .ok (.bipush 30, 2) := by decide +kernel
theorem d_M_init_93 : decode b_M_init 93 = .ok (.newarray .int, 2) := by decide +kernel
theorem d_M_init_95 : decode b_M_init 95 = .ok (.putfield 47, 3) := by decide +kernel
theorem d_M_init_98 : decode b_M_init 98 = .ok (.aload_n 0, 1) := by decide +kernel
theorem d_M_init_99 : decode b_M_init 99 = .ok (.bipush 30, 2) := by decide +kernel
theorem d_M_init_101 : decode b_M_init 101 = .ok (.newarray .boolean, 2) := by decide +kernel
theorem d_M_init_103 : decode b_M_init 103 = .ok (.putfield 50, 3) := by decide +kernel
theorem d_M_init_106 : decode b_M_init 106 = .ok (.aload_n 0, 1) := by decide +kernel
theorem d_M_init_107 : decode b_M_init 107 = .ok (.bipush 32, 2) := by decide +kernel
theorem d_M_init_109 : decode b_M_init 109 = .ok (.newarray .int, 2) := by decide +kernel
theorem d_M_init_111 : decode b_M_init 111 = .ok (.putfield 54, 3) := by decide +kernel
theorem d_M_init_114 : decode b_M_init 114 = .ok (.aload_n 0, 1) := by decide +kernel
theorem d_M_init_115 : decode b_M_init 115 = .ok (.bipush 32, 2) := by decide +kernel
theorem d_M_init_117 : decode b_M_init 117 = .ok (.newarray .int, 2) := by decide +kernel
theorem d_M_init_119 : decode b_M_init 119 = .ok (.putfield 57, 3) := by decide +kernel
theorem d_M_init_122 : decode b_M_init 122 = .ok (.aload_n 0, 1) := by decide +kernel
theorem d_M_init_123 : decode b_M_init 123 = .ok (.iconst 0, 1) := by decide +kernel
theorem d_M_init_124 : decode b_M_init 124 = .ok (.putfield 1, 3) := by decide +kernel
theorem d_M_init_127 : decode b_M_init 127 = .ok (.iconst 0, 1) := by decide +kernel
theorem d_M_init_128 : decode b_M_init 128 = .ok (.istore_n 1, 1) := by decide +kernel
theorem d_M_init_129 : decode b_M_init 129 = .ok (.iload_n 1, 1) := by decide +kernel
theorem d_M_init_130 : decode b_M_init 130 = .ok (.bipush 16, 2) := by decide +kernel
theorem d_M_init_132 : decode b_M_init 132 = .ok (.if_icmp .ge 16, 3) := by decide +kernel
theorem d_M_init_135 : decode b_M_init 135 = .ok (.aload_n 0, 1) := by decide +kernel
theorem d_M_init_136 : decode b_M_init 136 = .ok (.getfield 29, 3) := by decide +kernel
theorem d_M_init_139 : decode b_M_init 139 = .ok (.iload_n 1, 1) := by decide +kernel
theorem d_M_init_140 : decode b_M_init 140 = .ok (.iconst (-1), 1) := by decide +kernel
theorem d_M_init_141 : decode b_M_init 141 = .ok (.iastore, 1) := by decide +kernel
theorem d_M_init_142 : decode b_M_init 142 = .ok (.iinc 1 1, 3) := by decide +kernel
theorem d_M_init_145 : decode b_M_init 145 = .ok (.goto (-16), 3) := by decide +kernel
theorem d_M_init_148 : decode b_M_init 148 = .ok (.iconst 0, 1) := by decide +kernel
theorem d_M_init_149 : decode b_M_init 149 = .ok (.istore_n 1, 1) := by decide +kernel
theorem d_M_init_150 : decode b_M_init 150 = .ok (.iload_n 1, 1) := by decide +kernel
theorem d_M_init_151 : decode b_M_init 151 = .ok (.iconst 4, 1) := by decide +kernel
theorem d_M_init_152 : decode b_M_init 152 = .ok (.if_icmp .ge 16, 3) := by decide +kernel
theorem d_M_init_155 : decode b_M_init 155 = .ok (.aload_n 0, 1) := by decide +kernel
theorem d_M_init_156 : decode b_M_init 156 = .ok (.getfield 32, 3) := by decide +kernel
theorem d_M_init_159 : decode b_M_init 159 = .ok (.iload_n 1, 1) := by decide +kernel
theorem d_M_init_160 : decode b_M_init 160 = .ok (.iconst 1, 1) := by decide +kernel
theorem d_M_init_161 : decode b_M_init 161 = .ok (.iastore, 1) := by decide +kernel
theorem d_M_init_162 : decode b_M_init 162 = .ok (.iinc 1 1, 3) := by decide +kernel
theorem d_M_init_165 : decode b_M_init 165 = .ok (.goto (-15), 3) := by decide +kernel
theorem d_M_init_168 : decode b_M_init 168 = .ok (.aload_n 0, 1) := by decide +kernel
theorem d_M_init_169 : decode b_M_init 169 = .ok (.iconst (-1), 1) := by decide +kernel
theorem d_M_init_170 : decode b_M_init 170 = .ok (.putfield 60, 3) := by decide +kernel
theorem d_M_init_173 : decode b_M_init 173 = .ok (.aload_n 0, 1) := by decide +kernel
theorem d_M_init_174 : decode b_M_init 174 = .ok (.iconst (-1), 1) := by decide +kernel
theorem d_M_init_175 : decode b_M_init 175 = .ok (.putfield 63, 3) := by decide +kernel
theorem d_M_init_178 : decode b_M_init 178 = .ok (.aload_n 0, 1) := by decide +kernel
theorem d_M_init_179 : decode b_M_init 179 = .ok (.iconst (-1), 1) := by decide +kernel
theorem d_M_init_180 : decode b_M_init 180 = .ok (.putfield 66, 3) := by decide +kernel
theorem d_M_init_183 : decode b_M_init 183 = .ok (.return_, 1) := by decide +kernel

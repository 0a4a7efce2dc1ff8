theorem d_M_in_0 : decode b_M_in 0 = .ok (.iload_n 0, 1) := by decide +kernel
theorem d_M_in_1 : decode b_M_in 1 = .ok (.iload_n 1, 1) := by decide +kernel
theorem d_M_in_2 : decode b_M_in 2 = .ok (.if_icmp .lt 12, 3) := by decide +kernel
theorem d_M_in_5 : decode b_M_in 5 = .ok (.iload_n 0, 1) := by decide +kernel
theorem d_M_in_6 : decode b_M_in 6 = .ok (.iload_n 2, 1) := by decide +kernel
theorem d_M_in_7 : decode b_M_in 7 = .ok (.if_icmp .gt 7, 3) := by decide +kernel
theorem d_M_in_10 : decode b_M_in 10 = .ok (.iconst 1, 1) := by decide +kernel
theorem d_M_in_11 : decode b_M_in 11 = .ok (.goto 4, 3) := by decide +kernel
theorem d_M_in_14 : decode b_M_in 14 = .ok (.iconst 0, 1) := by decide +kernel
theorem d_M_in_15 : decode b_M_in 15 = .ok (.ireturn, 1) := by decide +kernel
theorem d_M_has_0 : decode b_M_has 0 = .ok (.iload_n 0, 1) := by decide +kernel
theorem d_M_has_1 : decode b_M_has 1 = .ok (.iload_n 1, 1) := by decide +kernel
theorem d_M_has_2 : decode b_M_has 2 = .ok (.iushr, 1) := by decide +kernel
theorem d_M_has_3 : decode b_M_has 3 = .ok (.iconst 1, 1) := by decide +kernel
theorem d_M_has_4 : decode b_M_has 4 = .ok (.iand, 1) := by decide +kernel
theorem d_M_has_5 : decode b_M_has 5 = .ok (.iconst 1, 1) := by decide +kernel
theorem d_M_has_6 : decode b_M_has 6 = .ok (.if_icmp .ne 7, 3) := by decide +kernel
theorem d_M_has_9 : decode b_M_has 9 = .ok (.iconst 1, 1) := by decide +kernel
theorem d_M_has_10 : decode b_M_has 10 = .ok (.goto 4, 3) := by decide +kernel
theorem d_M_has_13 : decode b_M_has 13 = .ok (.iconst 0, 1) := by decide +kernel
theorem d_M_has_14 : decode b_M_has 14 = .ok (.ireturn, 1) := by decide +kernel
theorem d_M_least_0 : decode b_M_least 0 = .ok (.iload_n 0, 1) := by decide +kernel
theorem d_M_least_1 : decode b_M_least 1 = .ok (.iload_n 0, 1) := by decide +kernel
theorem d_M_least_2 : decode b_M_least 2 = .ok (.ineg, 1) := by decide +kernel
theorem d_M_least_3 : decode b_M_least 3 = .ok (.iand, 1) := by decide +kernel
theorem d_M_least_4 : decode b_M_least 4 = .ok (.ireturn, 1) := by decide +kernel
theorem d_M_noThing_0 : decode b_M_noThing 0 = .ok (.iload_n 1, 1) := by decide +kernel
theorem d_M_noThing_1 : decode b_M_noThing 1 = .ok (.iconst 0, 1) := by decide +kernel
theorem d_M_noThing_2 : decode b_M_noThing 2 = .ok (.aload_n 0, 1) := by decide +kernel
theorem d_M_noThing_3 : decode b_M_noThing 3 = .ok (.getfield 69, 3) := by decide +kernel
theorem d_M_noThing_6 : decode b_M_noThing 6 = .ok (.iconst 1, 1) := by decide +kernel
theorem d_M_noThing_7 : decode b_M_noThing 7 = .ok (.isub, 1) := by decide +kernel
theorem d_M_noThing_8 : decode b_M_noThing 8 = .ok (.invokestatic 72, 3) := by decide +kernel
theorem d_M_noThing_11 : decode b_M_noThing 11 = .ok (.ifCond .ne 7, 3) := by decide +kernel
theorem d_M_noThing_14 : decode b_M_noThing 14 = .ok (.iconst 1, 1) := by decide +kernel
theorem d_M_noThing_15 : decode b_M_noThing 15 = .ok (.goto 4, 3) := by decide +kernel
theorem d_M_noThing_18 : decode b_M_noThing 18 = .ok (.iconst 0, 1) := by decide +kernel
theorem d_M_noThing_19 : decode b_M_noThing 19 = .ok (.ireturn, 1) := by decide +kernel
theorem d_M_thing_0 : decode b_M_thing 0 = .ok (.aload_n 0, 1) := by decide +kernel
theorem d_M_thing_1 : decode b_M_thing 1 = .ok (.iconst 0, 1) := by decide +kernel
theorem d_M_thing_2 : decode b_M_thing 2 = .ok (.putfield 1, 3) := by decide +kernel
theorem d_M_thing_5 : decode b_M_thing 5 = .ok (.aload_n 0, 1) := by decide +kernel
theorem d_M_thing_6 : decode b_M_thing 6 = .ok (.getfield 69, 3) := by decide +kernel
theorem d_M_thing_9 : decode b_M_thing 9 = .ok (.bipush 32, 2) := by decide +kernel
theorem d_M_thing_11 : decode b_M_thing 11 = .ok (.if_icmp .ne 6, 3) := by decide +kernel
theorem d_M_thing_14 : decode b_M_thing 14 = .ok (.bipush (-3), 2) := by decide +kernel
theorem d_M_thing_16 : decode b_M_thing 16 = .ok (.ireturn, 1) := by decide +kernel
theorem d_M_thing_17 : decode b_M_thing 17 = .ok (.aload_n 0, 1) := by decide +kernel
theorem d_M_thing_18 : decode b_M_thing 18 = .ok (.getfield 20, 3) := by decide +kernel
theorem d_M_thing_21 : decode b_M_thing 21 = .ok (.aload_n 0, 1) := by decide +kernel
theorem d_M_thing_22 : decode b_M_thing 22 = .ok (.getfield 69, 3) := by decide +kernel
theorem d_M_thing_25 : decode b_M_thing 25 = .ok (.iconst (-1), 1) := by decide +kernel
theorem d_M_thing_26 : decode b_M_thing 26 = .ok (.iastore, 1) := by decide +kernel
theorem d_M_thing_27 : decode b_M_thing 27 = .ok (.aload_n 0, 1) := by decide +kernel
theorem d_M_thing_28 : decode b_M_thing 28 = .ok (.getfield 23, 3) := by decide +kernel
theorem d_M_thing_31 : decode b_M_thing 31 = .ok (.aload_n 0, 1) := by decide +kernel
theorem d_M_thing_32 : decode b_M_thing 32 = .ok (.getfield 69, 3) := by decide +kernel
theorem d_M_thing_35 : decode b_M_thing 35 = .ok (.iconst 1, 1) := by decide +kernel
theorem d_M_thing_36 : decode b_M_thing 36 = .ok (.iastore, 1) := by decide +kernel
theorem d_M_thing_37 : decode b_M_thing 37 = .ok (.aload_n 0, 1) := by decide +kernel
theorem d_M_thing_38 : decode b_M_thing 38 = .ok (.dup, 1) := by decide +kernel
theorem d_M_thing_39 : decode b_M_thing 39 = .ok (.getfield 69, 3) := by decide +kernel
theorem d_M_thing_42 : decode b_M_thing 42 = .ok (.iconst 1, 1) := by decide +kernel
theorem d_M_thing_43 : decode b_M_thing 43 = .ok (.iadd, 1) := by decide +kernel
theorem d_M_thing_44 : decode b_M_thing 44 = .ok (.putfield 69, 3) := by decide +kernel
theorem d_M_thing_47 : decode b_M_thing 47 = .ok (.aload_n 0, 1) := by decide +kernel
theorem d_M_thing_48 : decode b_M_thing 48 = .ok (.getfield 69, 3) := by decide +kernel
theorem d_M_thing_51 : decode b_M_thing 51 = .ok (.iconst 1, 1) := by decide +kernel
theorem d_M_thing_52 : decode b_M_thing 52 = .ok (.isub, 1) := by decide +kernel
theorem d_M_thing_53 : decode b_M_thing 53 = .ok (.ireturn, 1) := by decide +kernel
theorem d_M_word_0 : decode b_M_word 0 = .ok (.aload_n 0, 1) := by decide +kernel
theorem d_M_word_1 : decode b_M_word 1 = .ok (.iconst 0, 1) := by decide +kernel
theorem d_M_word_2 : decode b_M_word 2 = .ok (.putfield 1, 3) := by decide +kernel
theorem d_M_word_5 : decode b_M_word 5 = .ok (.aload_n 0, 1) := by decide +kernel
theorem d_M_word_6 : decode b_M_word 6 = .ok (.iload_n 1, 1) := by decide +kernel
theorem d_M_word_7 : decode b_M_word 7 = .ok (.invokevirtual 76, 3) := by decide +kernel
theorem d_M_word_10 : decode b_M_word 10 = .ok (.ifCond .ne 13, 3) := by decide +kernel
theorem d_M_word_13 : decode b_M_word 13 = .ok (.iload_n 2, 1) := by decide +kernel
theorem d_M_word_14 : decode b_M_word 14 = .ok (.iconst 0, 1) := by decide +kernel
theorem d_M_word_15 : decode b_M_word 15 = .ok (.bipush 29, 2) := by decide +kernel
theorem d_M_word_17 : decode b_M_word 17 = .ok (.invokestatic 72, 3) := by decide +kernel
theorem d_M_word_20 : decode b_M_word 20 = .ok (.ifCond .ne 5, 3) := by decide +kernel
theorem d_M_word_23 : decode b_M_word 23 = .ok (.iconst (-1), 1) := by decide +kernel
theorem d_M_word_24 : decode b_M_word 24 = .ok (.ireturn, 1) := by decide +kernel
theorem d_M_word_25 : decode b_M_word 25 = .ok (.iload_n 3, 1) := by decide +kernel
theorem d_M_word_26 : decode b_M_word 26 = .ok (.ifCond .eq 12, 3) := by decide +kernel
theorem d_M_word_29 : decode b_M_word 29 = .ok (.aload_n 0, 1) := by decide +kernel
theorem d_M_word_30 : decode b_M_word 30 = .ok (.getfield 13, 3) := by decide +kernel
theorem d_M_word_33 : decode b_M_word 33 = .ok (.iload_n 1, 1) := by decide +kernel
theorem d_M_word_34 : decode b_M_word 34 = .ok (.iaload, 1) := by decide +kernel
theorem d_M_word_35 : decode b_M_word 35 = .ok (.goto 9, 3) := by decide +kernel
theorem d_M_word_38 : decode b_M_word 38 = .ok (.aload_n 0, 1) := by decide +kernel
theorem d_M_word_39 : decode b_M_word 39 = .ok (.getfield 17, 3) := by decide +kernel
theorem d_M_word_42 : decode b_M_word 42 = .ok (.iload_n 1, 1) := by decide +kernel
theorem d_M_word_43 : decode b_M_word 43 = .ok (.iaload, 1) := by decide +kernel
theorem d_M_word_44 : decode b_M_word 44 = .ok (.istore 5, 2) := by decide +kernel
theorem d_M_word_46 : decode b_M_word 46 = .ok (.iload 4, 2) := by decide +kernel
theorem d_M_word_48 : decode b_M_word 48 = .ok (.ifCond .eq 12, 3) := by decide +kernel
theorem d_M_word_51 : decode b_M_word 51 = .ok (.iload 5, 2) := by decide +kernel
theorem d_M_word_53 : decode b_M_word 53 = .ok (.iconst 1, 1) := by decide +kernel
theorem d_M_word_54 : decode b_M_word 54 = .ok (.iload_n 2, 1) := by decide +kernel
theorem d_M_word_55 : decode b_M_word 55 = .ok (.ishl, 1) := by decide +kernel
theorem d_M_word_56 : decode b_M_word 56 = .ok (.ior, 1) := by decide +kernel
theorem d_M_word_57 : decode b_M_word 57 = .ok (.goto 11, 3) := by decide +kernel
theorem d_M_word_60 : decode b_M_word 60 = .ok (.iload 5, 2) := by decide +kernel
theorem d_M_word_62 : decode b_M_word 62 = .ok (.iconst 1, 1) := by decide +kernel
theorem d_M_word_63 : decode b_M_word 63 = .ok (.iload_n 2, 1) := by decide +kernel
theorem d_M_word_64 : decode b_M_word 64 = .ok (.ishl, 1) := by decide +kernel
theorem d_M_word_65 : decode b_M_word 65 = .ok (.iconst (-1), 1) := by decide +kernel
theorem d_M_word_66 : decode b_M_word 66 = .ok (.ixor, 1) := by decide +kernel
theorem d_M_word_67 : decode b_M_word 67 = .ok (.iand, 1) := by decide +kernel
theorem d_M_word_68 : decode b_M_word 68 = .ok (.istore 6, 2) := by decide +kernel
theorem d_M_word_70 : decode b_M_word 70 = .ok (.iload_n 3, 1) := by decide +kernel
theorem d_M_word_71 : decode b_M_word 71 = .ok (.ifCond .eq 14, 3) := by decide +kernel
theorem d_M_word_74 : decode b_M_word 74 = .ok (.aload_n 0, 1) := by decide +kernel
theorem d_M_word_75 : decode b_M_word 75 = .ok (.getfield 13, 3) := by decide +kernel
theorem d_M_word_78 : decode b_M_word 78 = .ok (.iload_n 1, 1) := by decide +kernel
theorem d_M_word_79 : decode b_M_word 79 = .ok (.iload 6, 2) := by decide +kernel
theorem d_M_word_81 : decode b_M_word 81 = .ok (.iastore, 1) := by decide +kernel
theorem d_M_word_82 : decode b_M_word 82 = .ok (.goto 11, 3) := by decide +kernel
theorem d_M_word_85 : decode b_M_word 85 = .ok (.aload_n 0, 1) := by decide +kernel
theorem d_M_word_86 : decode b_M_word 86 = .ok (.getfield 17, 3) := by decide +kernel
theorem d_M_word_89 : decode b_M_word 89 = .ok (.iload_n 1, 1) := by decide +kernel
theorem d_M_word_90 : decode b_M_word 90 = .ok (.iload 6, 2) := by decide +kernel
theorem d_M_word_92 : decode b_M_word 92 = .ok (.iastore, 1) := by decide +kernel
theorem d_M_word_93 : decode b_M_word 93 = .ok (.iload 5, 2) := by decide +kernel
theorem d_M_word_95 : decode b_M_word 95 = .ok (.iload_n 2, 1) := by decide +kernel
theorem d_M_word_96 : decode b_M_word 96 = .ok (.iushr, 1) := by decide +kernel
theorem d_M_word_97 : decode b_M_word 97 = .ok (.iconst 1, 1) := by decide +kernel
theorem d_M_word_98 : decode b_M_word 98 = .ok (.iand, 1) := by decide +kernel
theorem d_M_word_99 : decode b_M_word 99 = .ok (.ireturn, 1) := by decide +kernel
theorem d_M_kind_0 : decode b_M_kind 0 = .ok (.aload_n 0, 1) := by decide +kernel
theorem d_M_kind_1 : decode b_M_kind 1 = .ok (.iconst 0, 1) := by decide +kernel
theorem d_M_kind_2 : decode b_M_kind 2 = .ok (.putfield 1, 3) := by decide +kernel
theorem d_M_kind_5 : decode b_M_kind 5 = .ok (.aload_n 0, 1) := by decide +kernel
theorem d_M_kind_6 : decode b_M_kind 6 = .ok (.iload_n 1, 1) := by decide +kernel
theorem d_M_kind_7 : decode b_M_kind 7 = .ok (.invokevirtual 76, 3) := by decide +kernel
theorem d_M_kind_10 : decode b_M_kind 10 = .ok (.ifCond .ne 13, 3) := by decide +kernel
theorem d_M_kind_13 : decode b_M_kind 13 = .ok (.iload_n 2, 1) := by decide +kernel
theorem d_M_kind_14 : decode b_M_kind 14 = .ok (.iconst (-1), 1) := by decide +kernel
theorem d_M_kind_15 : decode b_M_kind 15 = .ok (.bipush 15, 2) := by decide +kernel
theorem d_M_kind_17 : decode b_M_kind 17 = .ok (.invokestatic 72, 3) := by decide +kernel
theorem d_M_kind_20 : decode b_M_kind 20 = .ok (.ifCond .ne 5, 3) := by decide +kernel
theorem d_M_kind_23 : decode b_M_kind 23 = .ok (.iconst (-1), 1) := by decide +kernel
theorem d_M_kind_24 : decode b_M_kind 24 = .ok (.ireturn, 1) := by decide +kernel
theorem d_M_kind_25 : decode b_M_kind 25 = .ok (.aload_n 0, 1) := by decide +kernel
theorem d_M_kind_26 : decode b_M_kind 26 = .ok (.getfield 20, 3) := by decide +kernel
theorem d_M_kind_29 : decode b_M_kind 29 = .ok (.iload_n 1, 1) := by decide +kernel
theorem d_M_kind_30 : decode b_M_kind 30 = .ok (.iaload, 1) := by decide +kernel
theorem d_M_kind_31 : decode b_M_kind 31 = .ok (.iconst 1, 1) := by decide +kernel
theorem d_M_kind_32 : decode b_M_kind 32 = .ok (.iadd, 1) := by decide +kernel
theorem d_M_kind_33 : decode b_M_kind 33 = .ok (.istore_n 3, 1) := by decide +kernel
theorem d_M_kind_34 : decode b_M_kind 34 = .ok (.aload_n 0, 1) := by decide +kernel
theorem d_M_kind_35 : decode b_M_kind 35 = .ok (.getfield 20, 3) := by decide +kernel
theorem d_M_kind_38 : decode b_M_kind 38 = .ok (.iload_n 1, 1) := by decide +kernel
theorem d_M_kind_39 : decode b_M_kind 39 = .ok (.iload_n 2, 1) := by decide +kernel
theorem d_M_kind_40 : decode b_M_kind 40 = .ok (.iastore, 1) := by decide +kernel
theorem d_M_kind_41 : decode b_M_kind 41 = .ok (.iload_n 3, 1) := by decide +kernel
theorem d_M_kind_42 : decode b_M_kind 42 = .ok (.ireturn, 1) := by decide +kernel
theorem d_M_place_0 : decode b_M_place 0 = .ok (.aload_n 0, 1) := by decide +kernel
theorem d_M_place_1 : decode b_M_place 1 = .ok (.iconst 0, 1) := by decide +kernel
theorem d_M_place_2 : decode b_M_place 2 = .ok (.putfield 1, 3) := by decide +kernel
theorem d_M_place_5 : decode b_M_place 5 = .ok (.aload_n 0, 1) := by decide +kernel
theorem d_M_place_6 : decode b_M_place 6 = .ok (.iload_n 1, 1) := by decide +kernel
theorem d_M_place_7 : decode b_M_place 7 = .ok (.invokevirtual 76, 3) := by decide +kernel
theorem d_M_place_10 : decode b_M_place 10 = .ok (.ifCond .ne 12, 3) := by decide +kernel
theorem d_M_place_13 : decode b_M_place 13 = .ok (.iload_n 2, 1) := by decide +kernel
theorem d_M_place_14 : decode b_M_place 14 = .ok (.iconst 0, 1) := by decide +kernel
theorem d_M_place_15 : decode b_M_place 15 = .ok (.iconst 3, 1) := by decide +kernel
theorem d_M_place_16 : decode b_M_place 16 = .ok (.invokestatic 72, 3) := by decide +kernel
theorem d_M_place_19 : decode b_M_place 19 = .ok (.ifCond .ne 5, 3) := by decide +kernel
theorem d_M_place_22 : decode b_M_place 22 = .ok (.iconst (-1), 1) := by decide +kernel
theorem d_M_place_23 : decode b_M_place 23 = .ok (.ireturn, 1) := by decide +kernel
theorem d_M_place_24 : decode b_M_place 24 = .ok (.aload_n 0, 1) := by decide +kernel
theorem d_M_place_25 : decode b_M_place 25 = .ok (.getfield 23, 3) := by decide +kernel
theorem d_M_place_28 : decode b_M_place 28 = .ok (.iload_n 1, 1) := by decide +kernel
theorem d_M_place_29 : decode b_M_place 29 = .ok (.iaload, 1) := by decide +kernel
theorem d_M_place_30 : decode b_M_place 30 = .ok (.istore_n 3, 1) := by decide +kernel
theorem d_M_place_31 : decode b_M_place 31 = .ok (.aload_n 0, 1) := by decide +kernel
theorem d_M_place_32 : decode b_M_place 32 = .ok (.getfield 23, 3) := by decide +kernel
theorem d_M_place_35 : decode b_M_place 35 = .ok (.iload_n 1, 1) := by decide +kernel
theorem d_M_place_36 : decode b_M_place 36 = .ok (.iload_n 2, 1) := by decide +kernel
theorem d_M_place_37 : decode b_M_place 37 = .ok (.iastore, 1) := by decide +kernel
theorem d_M_place_38 : decode b_M_place 38 = .ok (.iload_n 3, 1) := by decide +kernel
theorem d_M_place_39 : decode b_M_place 39 = .ok (.ireturn, 1) := by decide +kernel
theorem d_M_mark_0 : decode b_M_mark 0 = .ok (.aload_n 0, 1) := by decide +kernel
theorem d_M_mark_1 : decode b_M_mark 1 = .ok (.iconst 0, 1) := by decide +kernel
theorem d_M_mark_2 : decode b_M_mark 2 = .ok (.putfield 1, 3) := by decide +kernel
theorem d_M_mark_5 : decode b_M_mark 5 = .ok (.aload_n 0, 1) := by decide +kernel
theorem d_M_mark_6 : decode b_M_mark 6 = .ok (.iload_n 1, 1) := by decide +kernel
theorem d_M_mark_7 : decode b_M_mark 7 = .ok (.invokevirtual 76, 3) := by decide +kernel
theorem d_M_mark_10 : decode b_M_mark 10 = .ok (.ifCond .ne 23, 3) := by decide +kernel
theorem d_M_mark_13 : decode b_M_mark 13 = .ok (.iload_n 2, 1) := by decide +kernel
theorem d_M_mark_14 : decode b_M_mark 14 = .ok (.iconst 0, 1) := by decide +kernel
theorem d_M_mark_15 : decode b_M_mark 15 = .ok (.iconst 3, 1) := by decide +kernel
theorem d_M_mark_16 : decode b_M_mark 16 = .ok (.invokestatic 72, 3) := by decide +kernel
theorem d_M_mark_19 : decode b_M_mark 19 = .ok (.ifCond .eq 14, 3) := by decide +kernel
theorem d_M_mark_22 : decode b_M_mark 22 = .ok (.iload_n 3, 1) := by decide +kernel
theorem d_M_mark_23 : decode b_M_mark 23 = .ok (.bipush (-9), 2) := by decide +kernel
theorem d_M_mark_25 : decode b_M_mark 25 = .ok (.bipush 9, 2) := by decide +kernel
theorem d_M_mark_27 : decode b_M_mark 27 = .ok (.invokestatic 72, 3) := by decide +kernel
theorem d_M_mark_30 : decode b_M_mark 30 = .ok (.ifCond .ne 5, 3) := by decide +kernel
theorem d_M_mark_33 : decode b_M_mark 33 = .ok (.iconst (-1), 1) := by decide +kernel
theorem d_M_mark_34 : decode b_M_mark 34 = .ok (.ireturn, 1) := by decide +kernel
theorem d_M_mark_35 : decode b_M_mark 35 = .ok (.aload_n 0, 1) := by decide +kernel
theorem d_M_mark_36 : decode b_M_mark 36 = .ok (.getfield 26, 3) := by decide +kernel
theorem d_M_mark_39 : decode b_M_mark 39 = .ok (.iconst 4, 1) := by decide +kernel
theorem d_M_mark_40 : decode b_M_mark 40 = .ok (.iload_n 1, 1) := by decide +kernel
theorem d_M_mark_41 : decode b_M_mark 41 = .ok (.imul, 1) := by decide +kernel
theorem d_M_mark_42 : decode b_M_mark 42 = .ok (.iload_n 2, 1) := by decide +kernel
theorem d_M_mark_43 : decode b_M_mark 43 = .ok (.iadd, 1) := by decide +kernel
theorem d_M_mark_44 : decode b_M_mark 44 = .ok (.iaload, 1) := by decide +kernel
theorem d_M_mark_45 : decode b_M_mark 45 = .ok (.bipush 9, 2) := by decide +kernel
theorem d_M_mark_47 : decode b_M_mark 47 = .ok (.iadd, 1) := by decide +kernel
theorem d_M_mark_48 : decode b_M_mark 48 = .ok (.istore 4, 2) := by decide +kernel
theorem d_M_mark_50 : decode b_M_mark 50 = .ok (.aload_n 0, 1) := by decide +kernel
theorem d_M_mark_51 : decode b_M_mark 51 = .ok (.getfield 26, 3) := by decide +kernel
theorem d_M_mark_54 : decode b_M_mark 54 = .ok (.iconst 4, 1) := by decide +kernel
theorem d_M_mark_55 : decode b_M_mark 55 = .ok (.iload_n 1, 1) := by decide +kernel
theorem d_M_mark_56 : decode b_M_mark 56 = .ok (.imul, 1) := by decide +kernel
theorem d_M_mark_57 : decode b_M_mark 57 = .ok (.iload_n 2, 1) := by decide +kernel
theorem d_M_mark_58 : decode b_M_mark 58 = .ok (.iadd, 1) := by decide +kernel
theorem d_M_mark_59 : decode b_M_mark 59 = .ok (.iload_n 3, 1) := by decide +kernel
theorem d_M_mark_60 : decode b_M_mark 60 = .ok (.iastore, 1) := by decide +kernel
theorem d_M_mark_61 : decode b_M_mark 61 = .ok (.iload 4, 2) := by decide +kernel
theorem d_M_mark_63 : decode b_M_mark 63 = .ok (.ireturn, 1) := by decide +kernel
theorem d_M_plural_0 : decode b_M_plural 0 = .ok (.aload_n 0, 1) := by decide +kernel
theorem d_M_plural_1 : decode b_M_plural 1 = .ok (.iconst 0, 1) := by decide +kernel
theorem d_M_plural_2 : decode b_M_plural 2 = .ok (.putfield 1, 3) := by decide +kernel
theorem d_M_plural_5 : decode b_M_plural 5 = .ok (.iload_n 1, 1) := by decide +kernel
theorem d_M_plural_6 : decode b_M_plural 6 = .ok (.iconst 0, 1) := by decide +kernel
theorem d_M_plural_7 : decode b_M_plural 7 = .ok (.bipush 15, 2) := by decide +kernel
theorem d_M_plural_9 : decode b_M_plural 9 = .ok (.invokestatic 72, 3) := by decide +kernel
theorem d_M_plural_12 : decode b_M_plural 12 = .ok (.ifCond .eq 13, 3) := by decide +kernel
theorem d_M_plural_15 : decode b_M_plural 15 = .ok (.iload_n 2, 1) := by decide +kernel
theorem d_M_plural_16 : decode b_M_plural 16 = .ok (.iconst (-1), 1) := by decide +kernel
theorem d_M_plural_17 : decode b_M_plural 17 = .ok (.bipush 29, 2) := by decide +kernel
theorem d_M_plural_19 : decode b_M_plural 19 = .ok (.invokestatic 72, 3) := by decide +kernel
theorem d_M_plural_22 : decode b_M_plural 22 = .ok (.ifCond .ne 5, 3) := by decide +kernel
theorem d_M_plural_25 : decode b_M_plural 25 = .ok (.iconst (-1), 1) := by decide +kernel
theorem d_M_plural_26 : decode b_M_plural 26 = .ok (.ireturn, 1) := by decide +kernel
theorem d_M_plural_27 : decode b_M_plural 27 = .ok (.aload_n 0, 1) := by decide +kernel
theorem d_M_plural_28 : decode b_M_plural 28 = .ok (.getfield 29, 3) := by decide +kernel
theorem d_M_plural_31 : decode b_M_plural 31 = .ok (.iload_n 1, 1) := by decide +kernel
theorem d_M_plural_32 : decode b_M_plural 32 = .ok (.iaload, 1) := by decide +kernel
theorem d_M_plural_33 : decode b_M_plural 33 = .ok (.iconst 1, 1) := by decide +kernel
theorem d_M_plural_34 : decode b_M_plural 34 = .ok (.iadd, 1) := by decide +kernel
theorem d_M_plural_35 : decode b_M_plural 35 = .ok (.istore_n 3, 1) := by decide +kernel
theorem d_M_plural_36 : decode b_M_plural 36 = .ok (.aload_n 0, 1) := by decide +kernel
theorem d_M_plural_37 : decode b_M_plural 37 = .ok (.getfield 29, 3) := by decide +kernel
theorem d_M_plural_40 : decode b_M_plural 40 = .ok (.iload_n 1, 1) := by decide +kernel
theorem d_M_plural_41 : decode b_M_plural 41 = .ok (.iload_n 2, 1) := by decide +kernel
theorem d_M_plural_42 : decode b_M_plural 42 = .ok (.iastore, 1) := by decide +kernel
theorem d_M_plural_43 : decode b_M_plural 43 = .ok (.iload_n 3, 1) := by decide +kernel
theorem d_M_plural_44 : decode b_M_plural 44 = .ok (.ireturn, 1) := by decide +kernel
theorem d_M_weight_0 : decode b_M_weight 0 = .ok (.aload_n 0, 1) := by decide +kernel
theorem d_M_weight_1 : decode b_M_weight 1 = .ok (.iconst 0, 1) := by decide +kernel
theorem d_M_weight_2 : decode b_M_weight 2 = .ok (.putfield 1, 3) := by decide +kernel
theorem d_M_weight_5 : decode b_M_weight 5 = .ok (.iload_n 1, 1) := by decide +kernel
theorem d_M_weight_6 : decode b_M_weight 6 = .ok (.iconst 0, 1) := by decide +kernel
theorem d_M_weight_7 : decode b_M_weight 7 = .ok (.iconst 3, 1) := by decide +kernel
theorem d_M_weight_8 : decode b_M_weight 8 = .ok (.invokestatic 72, 3) := by decide +kernel
theorem d_M_weight_11 : decode b_M_weight 11 = .ok (.ifCond .eq 13, 3) := by decide +kernel
theorem d_M_weight_14 : decode b_M_weight 14 = .ok (.iload_n 2, 1) := by decide +kernel
theorem d_M_weight_15 : decode b_M_weight 15 = .ok (.iconst 0, 1) := by decide +kernel
theorem d_M_weight_16 : decode b_M_weight 16 = .ok (.bipush 9, 2) := by decide +kernel
theorem d_M_weight_18 : decode b_M_weight 18 = .ok (.invokestatic 72, 3) := by decide +kernel
theorem d_M_weight_21 : decode b_M_weight 21 = .ok (.ifCond .ne 5, 3) := by decide +kernel
theorem d_M_weight_24 : decode b_M_weight 24 = .ok (.iconst (-1), 1) := by decide +kernel
theorem d_M_weight_25 : decode b_M_weight 25 = .ok (.ireturn, 1) := by decide +kernel
theorem d_M_weight_26 : decode b_M_weight 26 = .ok (.aload_n 0, 1) := by decide +kernel
theorem d_M_weight_27 : decode b_M_weight 27 = .ok (.getfield 32, 3) := by decide +kernel
theorem d_M_weight_30 : decode b_M_weight 30 = .ok (.iload_n 1, 1) := by decide +kernel
theorem d_M_weight_31 : decode b_M_weight 31 = .ok (.iaload, 1) := by decide +kernel
theorem d_M_weight_32 : decode b_M_weight 32 = .ok (.istore_n 3, 1) := by decide +kernel
theorem d_M_weight_33 : decode b_M_weight 33 = .ok (.aload_n 0, 1) := by decide +kernel
theorem d_M_weight_34 : decode b_M_weight 34 = .ok (.getfield 32, 3) := by decide +kernel
theorem d_M_weight_37 : decode b_M_weight 37 = .ok (.iload_n 1, 1) := by decide +kernel
theorem d_M_weight_38 : decode b_M_weight 38 = .ok (.iload_n 2, 1) := by decide +kernel
theorem d_M_weight_39 : decode b_M_weight 39 = .ok (.iastore, 1) := by decide +kernel
theorem d_M_weight_40 : decode b_M_weight 40 = .ok (.iload_n 3, 1) := by decide +kernel
theorem d_M_weight_41 : decode b_M_weight 41 = .ok (.ireturn, 1) := by decide +kernel
theorem d_M_limit_0 : decode b_M_limit 0 = .ok (.aload_n 0, 1) := by decide +kernel
theorem d_M_limit_1 : decode b_M_limit 1 = .ok (.iconst 0, 1) := by decide +kernel
theorem d_M_limit_2 : decode b_M_limit 2 = .ok (.putfield 1, 3) := by decide +kernel
theorem d_M_limit_5 : decode b_M_limit 5 = .ok (.iload_n 1, 1) := by decide +kernel
theorem d_M_limit_6 : decode b_M_limit 6 = .ok (.iconst 0, 1) := by decide +kernel
theorem d_M_limit_7 : decode b_M_limit 7 = .ok (.bipush 32, 2) := by decide +kernel
theorem d_M_limit_9 : decode b_M_limit 9 = .ok (.invokestatic 72, 3) := by decide +kernel
theorem d_M_limit_12 : decode b_M_limit 12 = .ok (.ifCond .ne 5, 3) := by decide +kernel
theorem d_M_limit_15 : decode b_M_limit 15 = .ok (.iconst (-1), 1) := by decide +kernel
theorem d_M_limit_16 : decode b_M_limit 16 = .ok (.ireturn, 1) := by decide +kernel
theorem d_M_limit_17 : decode b_M_limit 17 = .ok (.aload_n 0, 1) := by decide +kernel
theorem d_M_limit_18 : decode b_M_limit 18 = .ok (.getfield 35, 3) := by decide +kernel
theorem d_M_limit_21 : decode b_M_limit 21 = .ok (.istore_n 2, 1) := by decide +kernel
theorem d_M_limit_22 : decode b_M_limit 22 = .ok (.aload_n 0, 1) := by decide +kernel
theorem d_M_limit_23 : decode b_M_limit 23 = .ok (.iload_n 1, 1) := by decide +kernel
theorem d_M_limit_24 : decode b_M_limit 24 = .ok (.putfield 35, 3) := by decide +kernel
theorem d_M_limit_27 : decode b_M_limit 27 = .ok (.iload_n 2, 1) := by decide +kernel
theorem d_M_limit_28 : decode b_M_limit 28 = .ok (.ireturn, 1) := by decide +kernel
theorem d_M_scoreOf_0 : decode b_M_scoreOf 0 = .ok (.iconst 0, 1) := by decide +kernel
theorem d_M_scoreOf_1 : decode b_M_scoreOf 1 = .ok (.istore_n 2, 1) := by decide +kernel
theorem d_M_scoreOf_2 : decode b_M_scoreOf 2 = .ok (.iconst 0, 1) := by decide +kernel
theorem d_M_scoreOf_3 : decode b_M_scoreOf 3 = .ok (.istore_n 3, 1) := by decide +kernel
theorem d_M_scoreOf_4 : decode b_M_scoreOf 4 = .ok (.iload_n 3, 1) := by decide +kernel
theorem d_M_scoreOf_5 : decode b_M_scoreOf 5 = .ok (.iconst 4, 1) := by decide +kernel
theorem d_M_scoreOf_6 : decode b_M_scoreOf 6 = .ok (.if_icmp .ge 29, 3) := by decide +kernel
theorem d_M_scoreOf_9 : decode b_M_scoreOf 9 = .ok (.iload_n 2, 1) := by decide +kernel
theorem d_M_scoreOf_10 : decode b_M_scoreOf 10 = .ok (.aload_n 0, 1) := by decide +kernel
theorem d_M_scoreOf_11 : decode b_M_scoreOf 11 = .ok (.getfield 32, 3) := by decide +kernel
theorem d_M_scoreOf_14 : decode b_M_scoreOf 14 = .ok (.iload_n 3, 1) := by decide +kernel
theorem d_M_scoreOf_15 : decode b_M_scoreOf 15 = .ok (.iaload, 1) := by decide +kernel
theorem d_M_scoreOf_16 : decode b_M_scoreOf 16 = .ok (.aload_n 0, 1) := by decide +kernel
theorem d_M_scoreOf_17 : decode b_M_scoreOf 17 = .ok (.getfield 26, 3) := by decide +kernel
theorem d_M_scoreOf_20 : decode b_M_scoreOf 20 = .ok (.iconst 4, 1) := by decide +kernel
theorem d_M_scoreOf_21 : decode b_M_scoreOf 21 = .ok (.iload_n 1, 1) := by decide +kernel
theorem d_M_scoreOf_22 : decode b_M_scoreOf 22 = .ok (.imul, 1) := by decide +kernel
theorem d_M_scoreOf_23 : decode b_M_scoreOf 23 = .ok (.iload_n 3, 1) := by decide +kernel
theorem d_M_scoreOf_24 : decode b_M_scoreOf 24 = .ok (.iadd, 1) := by decide +kernel
theorem d_M_scoreOf_25 : decode b_M_scoreOf 25 = .ok (.iaload, 1) := by decide +kernel
theorem d_M_scoreOf_26 : decode b_M_scoreOf 26 = .ok (.imul, 1) := by decide +kernel
theorem d_M_scoreOf_27 : decode b_M_scoreOf 27 = .ok (.iadd, 1) := by decide +kernel
theorem d_M_scoreOf_28 : decode b_M_scoreOf 28 = .ok (.istore_n 2, 1) := by decide +kernel
theorem d_M_scoreOf_29 : decode b_M_scoreOf 29 = .ok (.iinc 3 1, 3) := by decide +kernel
theorem d_M_scoreOf_32 : decode b_M_scoreOf 32 = .ok (.goto (-28), 3) := by decide +kernel
theorem d_M_scoreOf_35 : decode b_M_scoreOf 35 = .ok (.iload_n 2, 1) := by decide +kernel
theorem d_M_scoreOf_36 : decode b_M_scoreOf 36 = .ok (.ireturn, 1) := by decide +kernel
theorem d_M_score_0 : decode b_M_score 0 = .ok (.aload_n 0, 1) := by decide +kernel
theorem d_M_score_1 : decode b_M_score 1 = .ok (.iconst 0, 1) := by decide +kernel
theorem d_M_score_2 : decode b_M_score 2 = .ok (.putfield 1, 3) := by decide +kernel
theorem d_M_score_5 : decode b_M_score 5 = .ok (.aload_n 0, 1) := by decide +kernel
theorem d_M_score_6 : decode b_M_score 6 = .ok (.iload_n 1, 1) := by decide +kernel
theorem d_M_score_7 : decode b_M_score 7 = .ok (.invokevirtual 76, 3) := by decide +kernel
theorem d_M_score_10 : decode b_M_score 10 = .ok (.ifCond .eq 7, 3) := by decide +kernel
theorem d_M_score_13 : decode b_M_score 13 = .ok (.iconst (-1), 1) := by decide +kernel
theorem d_M_score_14 : decode b_M_score 14 = .ok (.goto 12, 3) := by decide +kernel
theorem d_M_score_17 : decode b_M_score 17 = .ok (.sipush 1000, 3) := by decide +kernel
theorem d_M_score_20 : decode b_M_score 20 = .ok (.aload_n 0, 1) := by decide +kernel
theorem d_M_score_21 : decode b_M_score 21 = .ok (.iload_n 1, 1) := by decide +kernel
theorem d_M_score_22 : decode b_M_score 22 = .ok (.invokevirtual 80, 3) := by decide +kernel
theorem d_M_score_25 : decode b_M_score 25 = .ok (.iadd, 1) := by decide +kernel
theorem d_M_score_26 : decode b_M_score 26 = .ok (.ireturn, 1) := by decide +kernel
theorem d_M_isAlike_0 : decode b_M_isAlike 0 = .ok (.aload_n 0, 1) := by decide +kernel
theorem d_M_isAlike_1 : decode b_M_isAlike 1 = .ok (.getfield 20, 3) := by decide +kernel
theorem d_M_isAlike_4 : decode b_M_isAlike 4 = .ok (.iload_n 1, 1) := by decide +kernel
theorem d_M_isAlike_5 : decode b_M_isAlike 5 = .ok (.iaload, 1) := by decide +kernel
theorem d_M_isAlike_6 : decode b_M_isAlike 6 = .ok (.aload_n 0, 1) := by decide +kernel
theorem d_M_isAlike_7 : decode b_M_isAlike 7 = .ok (.getfield 20, 3) := by decide +kernel
theorem d_M_isAlike_10 : decode b_M_isAlike 10 = .ok (.iload_n 2, 1) := by decide +kernel
theorem d_M_isAlike_11 : decode b_M_isAlike 11 = .ok (.iaload, 1) := by decide +kernel
theorem d_M_isAlike_12 : decode b_M_isAlike 12 = .ok (.if_icmp .ne 61, 3) := by decide +kernel
theorem d_M_isAlike_15 : decode b_M_isAlike 15 = .ok (.aload_n 0, 1) := by decide +kernel
theorem d_M_isAlike_16 : decode b_M_isAlike 16 = .ok (.getfield 20, 3) := by decide +kernel
theorem d_M_isAlike_19 : decode b_M_isAlike 19 = .ok (.iload_n 1, 1) := by decide +kernel
theorem d_M_isAlike_20 : decode b_M_isAlike 20 = .ok (.iaload, 1) := by decide +kernel
theorem d_M_isAlike_21 : decode b_M_isAlike 21 = .ok (.ifCond .lt 52, 3) := by decide +kernel
theorem d_M_isAlike_24 : decode b_M_isAlike 24 = .ok (.aload_n 0, 1) := by decide +kernel
theorem d_M_isAlike_25 : decode b_M_isAlike 25 = .ok (.getfield 13, 3) := by decide +kernel
theorem d_M_isAlike_28 : decode b_M_isAlike 28 = .ok (.iload_n 1, 1) := by decide +kernel
theorem d_M_isAlike_29 : decode b_M_isAlike 29 = .ok (.iaload, 1) := by decide +kernel
theorem d_M_isAlike_30 : decode b_M_isAlike 30 = .ok (.aload_n 0, 1) := by decide +kernel
theorem d_M_isAlike_31 : decode b_M_isAlike 31 = .ok (.getfield 13, 3) := by decide +kernel
theorem d_M_isAlike_34 : decode b_M_isAlike 34 = .ok (.iload_n 2, 1) := by decide +kernel
theorem d_M_isAlike_35 : decode b_M_isAlike 35 = .ok (.iaload, 1) := by decide +kernel
theorem d_M_isAlike_36 : decode b_M_isAlike 36 = .ok (.if_icmp .ne 37, 3) := by decide +kernel
theorem d_M_isAlike_39 : decode b_M_isAlike 39 = .ok (.aload_n 0, 1) := by decide +kernel
theorem d_M_isAlike_40 : decode b_M_isAlike 40 = .ok (.getfield 17, 3) := by decide +kernel
theorem d_M_isAlike_43 : decode b_M_isAlike 43 = .ok (.iload_n 1, 1) := by decide +kernel
theorem d_M_isAlike_44 : decode b_M_isAlike 44 = .ok (.iaload, 1) := by decide +kernel
theorem d_M_isAlike_45 : decode b_M_isAlike 45 = .ok (.aload_n 0, 1) := by decide +kernel
theorem d_M_isAlike_46 : decode b_M_isAlike 46 = .ok (.getfield 17, 3) := by decide +kernel
theorem d_M_isAlike_49 : decode b_M_isAlike 49 = .ok (.iload_n 2, 1) := by decide +kernel
theorem d_M_isAlike_50 : decode b_M_isAlike 50 = .ok (.iaload, 1) := by decide +kernel
theorem d_M_isAlike_51 : decode b_M_isAlike 51 = .ok (.if_icmp .ne 22, 3) := by decide +kernel
theorem d_M_isAlike_54 : decode b_M_isAlike 54 = .ok (.aload_n 0, 1) := by decide +kernel
theorem d_M_isAlike_55 : decode b_M_isAlike 55 = .ok (.getfield 23, 3) := by decide +kernel
theorem d_M_isAlike_58 : decode b_M_isAlike 58 = .ok (.iload_n 1, 1) := by decide +kernel
theorem d_M_isAlike_59 : decode b_M_isAlike 59 = .ok (.iaload, 1) := by decide +kernel
theorem d_M_isAlike_60 : decode b_M_isAlike 60 = .ok (.aload_n 0, 1) := by decide +kernel
theorem d_M_isAlike_61 : decode b_M_isAlike 61 = .ok (.getfield 23, 3) := by decide +kernel
theorem d_M_isAlike_64 : decode b_M_isAlike 64 = .ok (.iload_n 2, 1) := by decide +kernel
theorem d_M_isAlike_65 : decode b_M_isAlike 65 = .ok (.iaload, 1) := by decide +kernel
theorem d_M_isAlike_66 : decode b_M_isAlike 66 = .ok (.if_icmp .ne 7, 3) := by decide +kernel
theorem d_M_isAlike_69 : decode b_M_isAlike 69 = .ok (.iconst 1, 1) := by decide +kernel
theorem d_M_isAlike_70 : decode b_M_isAlike 70 = .ok (.goto 4, 3) := by decide +kernel
theorem d_M_isAlike_73 : decode b_M_isAlike 73 = .ok (.iconst 0, 1) := by decide +kernel
theorem d_M_isAlike_74 : decode b_M_isAlike 74 = .ok (.istore_n 3, 1) := by decide +kernel
theorem d_M_isAlike_75 : decode b_M_isAlike 75 = .ok (.iconst 0, 1) := by decide +kernel
theorem d_M_isAlike_76 : decode b_M_isAlike 76 = .ok (.istore 4, 2) := by decide +kernel
theorem d_M_isAlike_78 : decode b_M_isAlike 78 = .ok (.iload 4, 2) := by decide +kernel
theorem d_M_isAlike_80 : decode b_M_isAlike 80 = .ok (.iconst 4, 1) := by decide +kernel
theorem d_M_isAlike_81 : decode b_M_isAlike 81 = .ok (.if_icmp .ge 44, 3) := by decide +kernel
theorem d_M_isAlike_84 : decode b_M_isAlike 84 = .ok (.iload_n 3, 1) := by decide +kernel
theorem d_M_isAlike_85 : decode b_M_isAlike 85 = .ok (.ifCond .eq 32, 3) := by decide +kernel
theorem d_M_isAlike_88 : decode b_M_isAlike 88 = .ok (.aload_n 0, 1) := by decide +kernel
theorem d_M_isAlike_89 : decode b_M_isAlike 89 = .ok (.getfield 26, 3) := by decide +kernel
theorem d_M_isAlike_92 : decode b_M_isAlike 92 = .ok (.iconst 4, 1) := by decide +kernel
theorem d_M_isAlike_93 : decode b_M_isAlike 93 = .ok (.iload_n 1, 1) := by decide +kernel
theorem d_M_isAlike_94 : decode b_M_isAlike 94 = .ok (.imul, 1) := by decide +kernel
theorem d_M_isAlike_95 : decode b_M_isAlike 95 = .ok (.iload 4, 2) := by decide +kernel
theorem d_M_isAlike_97 : decode b_M_isAlike 97 = .ok (.iadd, 1) := by decide +kernel
theorem d_M_isAlike_98 : decode b_M_isAlike 98 = .ok (.iaload, 1) := by decide +kernel
theorem d_M_isAlike_99 : decode b_M_isAlike 99 = .ok (.aload_n 0, 1) := by decide +kernel
theorem d_M_isAlike_100 : decode b_M_isAlike 100 = .ok (.getfield 26, 3) := by decide +kernel
theorem d_M_isAlike_103 : decode b_M_isAlike 103 = .ok (.iconst 4, 1) := by decide +kernel
theorem d_M_isAlike_104 : decode b_M_isAlike 104 = .ok (.iload_n 2, 1) := by decide +kernel
theorem d_M_isAlike_105 : decode b_M_isAlike 105 = .ok (.imul, 1) := by decide +kernel
theorem d_M_isAlike_106 : decode b_M_isAlike 106 = .ok (.iload 4, 2) := by decide +kernel
theorem d_M_isAlike_108 : decode b_M_isAlike 108 = .ok (.iadd, 1) := by decide +kernel
theorem d_M_isAlike_109 : decode b_M_isAlike 109 = .ok (.iaload, 1) := by decide +kernel
theorem d_M_isAlike_110 : decode b_M_isAlike 110 = .ok (.if_icmp .ne 7, 3) := by decide +kernel
theorem d_M_isAlike_113 : decode b_M_isAlike 113 = .ok (.iconst 1, 1) := by decide +kernel
theorem d_M_isAlike_114 : decode b_M_isAlike 114 = .ok (.goto 4, 3) := by decide +kernel
theorem d_M_isAlike_117 : decode b_M_isAlike 117 = .ok (.iconst 0, 1) := by decide +kernel
theorem d_M_isAlike_118 : decode b_M_isAlike 118 = .ok (.istore_n 3, 1) := by decide +kernel
theorem d_M_isAlike_119 : decode b_M_isAlike 119 = .ok (.iinc 4 1, 3) := by decide +kernel
theorem d_M_isAlike_122 : decode b_M_isAlike 122 = .ok (.goto (-44), 3) := by decide +kernel
theorem d_M_isAlike_125 : decode b_M_isAlike 125 = .ok (.iload_n 3, 1) := by decide +kernel
theorem d_M_isAlike_126 : decode b_M_isAlike 126 = .ok (.ireturn, 1) := by decide +kernel
theorem d_M_alike_0 : decode b_M_alike 0 = .ok (.aload_n 0, 1) := by decide +kernel
theorem d_M_alike_1 : decode b_M_alike 1 = .ok (.iconst 0, 1) := by decide +kernel
theorem d_M_alike_2 : decode b_M_alike 2 = .ok (.putfield 1, 3) := by decide +kernel
theorem d_M_alike_5 : decode b_M_alike 5 = .ok (.aload_n 0, 1) := by decide +kernel
theorem d_M_alike_6 : decode b_M_alike 6 = .ok (.iload_n 1, 1) := by decide +kernel
theorem d_M_alike_7 : decode b_M_alike 7 = .ok (.invokevirtual 76, 3) := by decide +kernel
theorem d_M_alike_10 : decode b_M_alike 10 = .ok (.ifCond .ne 11, 3) := by decide +kernel
theorem d_M_alike_13 : decode b_M_alike 13 = .ok (.aload_n 0, 1) := by decide +kernel
theorem d_M_alike_14 : decode b_M_alike 14 = .ok (.iload_n 2, 1) := by decide +kernel
theorem d_M_alike_15 : decode b_M_alike 15 = .ok (.invokevirtual 76, 3) := by decide +kernel
theorem d_M_alike_18 : decode b_M_alike 18 = .ok (.ifCond .eq 7, 3) := by decide +kernel
theorem d_M_alike_21 : decode b_M_alike 21 = .ok (.iconst (-1), 1) := by decide +kernel
theorem d_M_alike_22 : decode b_M_alike 22 = .ok (.goto 17, 3) := by decide +kernel
theorem d_M_alike_25 : decode b_M_alike 25 = .ok (.aload_n 0, 1) := by decide +kernel
theorem d_M_alike_26 : decode b_M_alike 26 = .ok (.iload_n 1, 1) := by decide +kernel
theorem d_M_alike_27 : decode b_M_alike 27 = .ok (.iload_n 2, 1) := by decide +kernel
theorem d_M_alike_28 : decode b_M_alike 28 = .ok (.invokevirtual 84, 3) := by decide +kernel
theorem d_M_alike_31 : decode b_M_alike 31 = .ok (.ifCond .eq 7, 3) := by decide +kernel
theorem d_M_alike_34 : decode b_M_alike 34 = .ok (.iconst 1, 1) := by decide +kernel
theorem d_M_alike_35 : decode b_M_alike 35 = .ok (.goto 4, 3) := by decide +kernel
theorem d_M_alike_38 : decode b_M_alike 38 = .ok (.iconst 0, 1) := by decide +kernel
theorem d_M_alike_39 : decode b_M_alike 39 = .ok (.ireturn, 1) := by decide +kernel
theorem d_M_type_0 : decode b_M_type 0 = .ok (.aload_n 0, 1) := by decide +kernel
theorem d_M_type_1 : decode b_M_type 1 = .ok (.iconst 0, 1) := by decide +kernel
theorem d_M_type_2 : decode b_M_type 2 = .ok (.putfield 1, 3) := by decide +kernel
theorem d_M_type_5 : decode b_M_type 5 = .ok (.iload_n 1, 1) := by decide +kernel
theorem d_M_type_6 : decode b_M_type 6 = .ok (.iconst 0, 1) := by decide +kernel
theorem d_M_type_7 : decode b_M_type 7 = .ok (.bipush 37, 2) := by decide +kernel
theorem d_M_type_9 : decode b_M_type 9 = .ok (.invokestatic 72, 3) := by decide +kernel
theorem d_M_type_12 : decode b_M_type 12 = .ok (.ifCond .ne 16, 3) := by decide +kernel
theorem d_M_type_15 : decode b_M_type 15 = .ok (.iload_n 1, 1) := by decide +kernel
theorem d_M_type_16 : decode b_M_type 16 = .ok (.bipush 41, 2) := by decide +kernel
theorem d_M_type_18 : decode b_M_type 18 = .ok (.bipush 60, 2) := by decide +kernel
theorem d_M_type_20 : decode b_M_type 20 = .ok (.invokestatic 72, 3) := by decide +kernel
theorem d_M_type_23 : decode b_M_type 23 = .ok (.ifCond .ne 5, 3) := by decide +kernel
theorem d_M_type_26 : decode b_M_type 26 = .ok (.iconst (-1), 1) := by decide +kernel
theorem d_M_type_27 : decode b_M_type 27 = .ok (.ireturn, 1) := by decide +kernel
theorem d_M_type_28 : decode b_M_type 28 = .ok (.aload_n 0, 1) := by decide +kernel
theorem d_M_type_29 : decode b_M_type 29 = .ok (.getfield 88, 3) := by decide +kernel
theorem d_M_type_32 : decode b_M_type 32 = .ok (.bipush 30, 2) := by decide +kernel
theorem d_M_type_34 : decode b_M_type 34 = .ok (.if_icmp .ne 6, 3) := by decide +kernel
theorem d_M_type_37 : decode b_M_type 37 = .ok (.bipush (-3), 2) := by decide +kernel
theorem d_M_type_39 : decode b_M_type 39 = .ok (.ireturn, 1) := by decide +kernel
theorem d_M_type_40 : decode b_M_type 40 = .ok (.aload_n 0, 1) := by decide +kernel
theorem d_M_type_41 : decode b_M_type 41 = .ok (.getfield 38, 3) := by decide +kernel
theorem d_M_type_44 : decode b_M_type 44 = .ok (.aload_n 0, 1) := by decide +kernel
theorem d_M_type_45 : decode b_M_type 45 = .ok (.getfield 88, 3) := by decide +kernel
theorem d_M_type_48 : decode b_M_type 48 = .ok (.iload_n 1, 1) := by decide +kernel
theorem d_M_type_49 : decode b_M_type 49 = .ok (.iastore, 1) := by decide +kernel
theorem d_M_type_50 : decode b_M_type 50 = .ok (.aload_n 0, 1) := by decide +kernel
theorem d_M_type_51 : decode b_M_type 51 = .ok (.dup, 1) := by decide +kernel
theorem d_M_type_52 : decode b_M_type 52 = .ok (.getfield 88, 3) := by decide +kernel
theorem d_M_type_55 : decode b_M_type 55 = .ok (.iconst 1, 1) := by decide +kernel
theorem d_M_type_56 : decode b_M_type 56 = .ok (.iadd, 1) := by decide +kernel
theorem d_M_type_57 : decode b_M_type 57 = .ok (.putfield 88, 3) := by decide +kernel
theorem d_M_type_60 : decode b_M_type 60 = .ok (.aload_n 0, 1) := by decide +kernel
theorem d_M_type_61 : decode b_M_type 61 = .ok (.getfield 88, 3) := by decide +kernel
theorem d_M_type_64 : decode b_M_type 64 = .ok (.ireturn, 1) := by decide +kernel
theorem d_M_wipe_0 : decode b_M_wipe 0 = .ok (.aload_n 0, 1) := by decide +kernel
theorem d_M_wipe_1 : decode b_M_wipe 1 = .ok (.iconst 0, 1) := by decide +kernel
theorem d_M_wipe_2 : decode b_M_wipe 2 = .ok (.putfield 1, 3) := by decide +kernel
theorem d_M_wipe_5 : decode b_M_wipe 5 = .ok (.aload_n 0, 1) := by decide +kernel
theorem d_M_wipe_6 : decode b_M_wipe 6 = .ok (.getfield 88, 3) := by decide +kernel
theorem d_M_wipe_9 : decode b_M_wipe 9 = .ok (.istore_n 1, 1) := by decide +kernel
theorem d_M_wipe_10 : decode b_M_wipe 10 = .ok (.aload_n 0, 1) := by decide +kernel
theorem d_M_wipe_11 : decode b_M_wipe 11 = .ok (.iconst 0, 1) := by decide +kernel
theorem d_M_wipe_12 : decode b_M_wipe 12 = .ok (.putfield 88, 3) := by decide +kernel
theorem d_M_wipe_15 : decode b_M_wipe 15 = .ok (.iload_n 1, 1) := by decide +kernel
theorem d_M_wipe_16 : decode b_M_wipe 16 = .ok (.ireturn, 1) := by decide +kernel
theorem d_M_told_0 : decode b_M_told 0 = .ok (.aload_n 0, 1) := by decide +kernel
theorem d_M_told_1 : decode b_M_told 1 = .ok (.iconst 0, 1) := by decide +kernel
theorem d_M_told_2 : decode b_M_told 2 = .ok (.putfield 1, 3) := by decide +kernel
theorem d_M_told_5 : decode b_M_told 5 = .ok (.iload_n 1, 1) := by decide +kernel
theorem d_M_told_6 : decode b_M_told 6 = .ok (.ifCond .ne 10, 3) := by decide +kernel
theorem d_M_told_9 : decode b_M_told 9 = .ok (.aload_n 0, 1) := by decide +kernel
theorem d_M_told_10 : decode b_M_told 10 = .ok (.getfield 60, 3) := by decide +kernel
theorem d_M_told_13 : decode b_M_told 13 = .ok (.goto 28, 3) := by decide +kernel
theorem d_M_told_16 : decode b_M_told 16 = .ok (.iload_n 1, 1) := by decide +kernel
theorem d_M_told_17 : decode b_M_told 17 = .ok (.iconst 1, 1) := by decide +kernel
theorem d_M_told_18 : decode b_M_told 18 = .ok (.if_icmp .ne 10, 3) := by decide +kernel
theorem d_M_told_21 : decode b_M_told 21 = .ok (.aload_n 0, 1) := by decide +kernel
theorem d_M_told_22 : decode b_M_told 22 = .ok (.getfield 63, 3) := by decide +kernel
theorem d_M_told_25 : decode b_M_told 25 = .ok (.goto 16, 3) := by decide +kernel
theorem d_M_told_28 : decode b_M_told 28 = .ok (.iload_n 1, 1) := by decide +kernel
theorem d_M_told_29 : decode b_M_told 29 = .ok (.iconst 2, 1) := by decide +kernel
theorem d_M_told_30 : decode b_M_told 30 = .ok (.if_icmp .ne 10, 3) := by decide +kernel
theorem d_M_told_33 : decode b_M_told 33 = .ok (.aload_n 0, 1) := by decide +kernel
theorem d_M_told_34 : decode b_M_told 34 = .ok (.getfield 66, 3) := by decide +kernel
theorem d_M_told_37 : decode b_M_told 37 = .ok (.goto 4, 3) := by decide +kernel
theorem d_M_told_40 : decode b_M_told 40 = .ok (.iconst (-1), 1) := by decide +kernel
theorem d_M_told_41 : decode b_M_told 41 = .ok (.ireturn, 1) := by decide +kernel
theorem d_M_chosen_0 : decode b_M_chosen 0 = .ok (.aload_n 0, 1) := by decide +kernel
theorem d_M_chosen_1 : decode b_M_chosen 1 = .ok (.iconst 0, 1) := by decide +kernel
theorem d_M_chosen_2 : decode b_M_chosen 2 = .ok (.putfield 1, 3) := by decide +kernel
theorem d_M_chosen_5 : decode b_M_chosen 5 = .ok (.iload_n 1, 1) := by decide +kernel
theorem d_M_chosen_6 : decode b_M_chosen 6 = .ok (.iconst (-1), 1) := by decide +kernel
theorem d_M_chosen_7 : decode b_M_chosen 7 = .ok (.aload_n 0, 1) := by decide +kernel
theorem d_M_chosen_8 : decode b_M_chosen 8 = .ok (.getfield 195, 3) := by decide +kernel
theorem d_M_chosen_11 : decode b_M_chosen 11 = .ok (.iconst 1, 1) := by decide +kernel
theorem d_M_chosen_12 : decode b_M_chosen 12 = .ok (.isub, 1) := by decide +kernel
theorem d_M_chosen_13 : decode b_M_chosen 13 = .ok (.invokestatic 72, 3) := by decide +kernel
theorem d_M_chosen_16 : decode b_M_chosen 16 = .ok (.ifCond .ne 7, 3) := by decide +kernel
theorem d_M_chosen_19 : decode b_M_chosen 19 = .ok (.iconst (-1), 1) := by decide +kernel
theorem d_M_chosen_20 : decode b_M_chosen 20 = .ok (.goto 20, 3) := by decide +kernel
theorem d_M_chosen_23 : decode b_M_chosen 23 = .ok (.iload_n 1, 1) := by decide +kernel
theorem d_M_chosen_24 : decode b_M_chosen 24 = .ok (.ifCond .ge 10, 3) := by decide +kernel
theorem d_M_chosen_27 : decode b_M_chosen 27 = .ok (.aload_n 0, 1) := by decide +kernel
theorem d_M_chosen_28 : decode b_M_chosen 28 = .ok (.getfield 195, 3) := by decide +kernel
theorem d_M_chosen_31 : decode b_M_chosen 31 = .ok (.goto 9, 3) := by decide +kernel
theorem d_M_chosen_34 : decode b_M_chosen 34 = .ok (.aload_n 0, 1) := by decide +kernel
theorem d_M_chosen_35 : decode b_M_chosen 35 = .ok (.getfield 54, 3) := by decide +kernel
theorem d_M_chosen_38 : decode b_M_chosen 38 = .ok (.iload_n 1, 1) := by decide +kernel
theorem d_M_chosen_39 : decode b_M_chosen 39 = .ok (.iaload, 1) := by decide +kernel
theorem d_M_chosen_40 : decode b_M_chosen 40 = .ok (.ireturn, 1) := by decide +kernel
theorem d_M_begin_0 : decode b_M_begin 0 = .ok (.aload_n 0, 1) := by decide +kernel
theorem d_M_begin_1 : decode b_M_begin 1 = .ok (.aload_n 1, 1) := by decide +kernel
theorem d_M_begin_2 : decode b_M_begin 2 = .ok (.putfield 91, 3) := by decide +kernel
theorem d_M_begin_5 : decode b_M_begin 5 = .ok (.aload_n 0, 1) := by decide +kernel
theorem d_M_begin_6 : decode b_M_begin 6 = .ok (.iload_n 2, 1) := by decide +kernel
theorem d_M_begin_7 : decode b_M_begin 7 = .ok (.putfield 94, 3) := by decide +kernel
theorem d_M_begin_10 : decode b_M_begin 10 = .ok (.aload_n 0, 1) := by decide +kernel
theorem d_M_begin_11 : decode b_M_begin 11 = .ok (.iconst 0, 1) := by decide +kernel
theorem d_M_begin_12 : decode b_M_begin 12 = .ok (.putfield 97, 3) := by decide +kernel
theorem d_M_begin_15 : decode b_M_begin 15 = .ok (.aload_n 0, 1) := by decide +kernel
theorem d_M_begin_16 : decode b_M_begin 16 = .ok (.iconst 0, 1) := by decide +kernel
theorem d_M_begin_17 : decode b_M_begin 17 = .ok (.putfield 100, 3) := by decide +kernel
theorem d_M_begin_20 : decode b_M_begin 20 = .ok (.return_, 1) := by decide +kernel
theorem d_M_here_0 : decode b_M_here 0 = .ok (.aload_n 0, 1) := by decide +kernel
theorem d_M_here_1 : decode b_M_here 1 = .ok (.getfield 97, 3) := by decide +kernel
theorem d_M_here_4 : decode b_M_here 4 = .ok (.aload_n 0, 1) := by decide +kernel
theorem d_M_here_5 : decode b_M_here 5 = .ok (.getfield 94, 3) := by decide +kernel
theorem d_M_here_8 : decode b_M_here 8 = .ok (.if_icmp .ge 15, 3) := by decide +kernel
theorem d_M_here_11 : decode b_M_here 11 = .ok (.aload_n 0, 1) := by decide +kernel
theorem d_M_here_12 : decode b_M_here 12 = .ok (.getfield 91, 3) := by decide +kernel
theorem d_M_here_15 : decode b_M_here 15 = .ok (.aload_n 0, 1) := by decide +kernel
theorem d_M_here_16 : decode b_M_here 16 = .ok (.getfield 97, 3) := by decide +kernel
theorem d_M_here_19 : decode b_M_here 19 = .ok (.iaload, 1) := by decide +kernel
theorem d_M_here_20 : decode b_M_here 20 = .ok (.goto 4, 3) := by decide +kernel
theorem d_M_here_23 : decode b_M_here 23 = .ok (.iconst (-1), 1) := by decide +kernel
theorem d_M_here_24 : decode b_M_here 24 = .ok (.ireturn, 1) := by decide +kernel
theorem d_M_isWord_0 : decode b_M_isWord 0 = .ok (.aload_n 0, 1) := by decide +kernel
theorem d_M_isWord_1 : decode b_M_isWord 1 = .ok (.invokevirtual 104, 3) := by decide +kernel
theorem d_M_isWord_4 : decode b_M_isWord 4 = .ok (.iconst 0, 1) := by decide +kernel
theorem d_M_isWord_5 : decode b_M_isWord 5 = .ok (.bipush 29, 2) := by decide +kernel
theorem d_M_isWord_7 : decode b_M_isWord 7 = .ok (.invokestatic 72, 3) := by decide +kernel
theorem d_M_isWord_10 : decode b_M_isWord 10 = .ok (.ireturn, 1) := by decide +kernel
theorem d_M_readDescription_0 : decode b_M_readDescription 0 = .ok (.aload_n 0, 1) := by decide +kernel
theorem d_M_readDescription_1 : decode b_M_readDescription 1 = .ok (.iconst 0, 1) := by decide +kernel
theorem d_M_readDescription_2 : decode b_M_readDescription 2 = .ok (.putfield 108, 3) := by decide +kernel
theorem d_M_readDescription_5 : decode b_M_readDescription 5 = .ok (.aload_n 0, 1) := by decide +kernel
theorem d_M_readDescription_6 : decode b_M_readDescription 6 = .ok (.iconst 0, 1) := by decide +kernel
theorem d_M_readDescription_7 : decode b_M_readDescription 7 = .ok (.putfield 111, 3) := by decide +kernel
theorem d_M_readDescription_10 : decode b_M_readDescription 10 = .ok (.aload_n 0, 1) := by decide +kernel
theorem d_M_readDescription_11 : decode b_M_readDescription 11 = .ok (.invokevirtual 104, 3) := by decide +kernel
theorem d_M_readDescription_14 : decode b_M_readDescription 14 = .ok (.bipush 30, 2) := by decide +kernel
theorem d_M_readDescription_16 : decode b_M_readDescription 16 = .ok (.bipush 33, 2) := by decide +kernel
theorem d_M_readDescription_18 : decode b_M_readDescription 18 = .ok (.invokestatic 72, 3) := by decide +kernel
theorem d_M_readDescription_21 : decode b_M_readDescription 21 = .ok (.ifCond .eq 51, 3) := by decide +kernel
theorem d_M_readDescription_24 : decode b_M_readDescription 24 = .ok (.aload_n 0, 1) := by decide +kernel
theorem d_M_readDescription_25 : decode b_M_readDescription 25 = .ok (.getfield 108, 3) := by decide +kernel
theorem d_M_readDescription_28 : decode b_M_readDescription 28 = .ok (.aload_n 0, 1) := by decide +kernel
theorem d_M_readDescription_29 : decode b_M_readDescription 29 = .ok (.invokevirtual 104, 3) := by decide +kernel
theorem d_M_readDescription_32 : decode b_M_readDescription 32 = .ok (.bipush 30, 2) := by decide +kernel
theorem d_M_readDescription_34 : decode b_M_readDescription 34 = .ok (.isub, 1) := by decide +kernel
theorem d_M_readDescription_35 : decode b_M_readDescription 35 = .ok (.invokestatic 114, 3) := by decide +kernel
theorem d_M_readDescription_38 : decode b_M_readDescription 38 = .ok (.ifCond .ne 34, 3) := by decide +kernel
theorem d_M_readDescription_41 : decode b_M_readDescription 41 = .ok (.aload_n 0, 1) := by decide +kernel
theorem d_M_readDescription_42 : decode b_M_readDescription 42 = .ok (.aload_n 0, 1) := by decide +kernel
theorem d_M_readDescription_43 : decode b_M_readDescription 43 = .ok (.getfield 108, 3) := by decide +kernel
theorem d_M_readDescription_46 : decode b_M_readDescription 46 = .ok (.iconst 1, 1) := by decide +kernel
theorem d_M_readDescription_47 : decode b_M_readDescription 47 = .ok (.aload_n 0, 1) := by decide +kernel
theorem d_M_readDescription_48 : decode b_M_readDescription 48 = .ok (.invokevirtual 104, 3) := by decide +kernel
theorem d_M_readDescription_51 : decode b_M_readDescription 51 = .ok (.bipush 30, 2) := by decide +kernel
theorem d_M_readDescription_53 : decode b_M_readDescription 53 = .ok (.isub, 1) := by decide +kernel
theorem d_M_readDescription_54 : decode b_M_readDescription 54 = .ok (.ishl, 1) := by decide +kernel
theorem d_M_readDescription_55 : decode b_M_readDescription 55 = .ok (.ior, 1) := by decide +kernel
theorem d_M_readDescription_56 : decode b_M_readDescription 56 = .ok (.putfield 108, 3) := by decide +kernel
theorem d_M_readDescription_59 : decode b_M_readDescription 59 = .ok (.aload_n 0, 1) := by decide +kernel
theorem d_M_readDescription_60 : decode b_M_readDescription 60 = .ok (.dup, 1) := by decide +kernel
theorem d_M_readDescription_61 : decode b_M_readDescription 61 = .ok (.getfield 97, 3) := by decide +kernel
theorem d_M_readDescription_64 : decode b_M_readDescription 64 = .ok (.iconst 1, 1) := by decide +kernel
theorem d_M_readDescription_65 : decode b_M_readDescription 65 = .ok (.iadd, 1) := by decide +kernel
theorem d_M_readDescription_66 : decode b_M_readDescription 66 = .ok (.putfield 97, 3) := by decide +kernel
theorem d_M_readDescription_69 : decode b_M_readDescription 69 = .ok (.goto (-59), 3) := by decide +kernel
theorem d_M_readDescription_72 : decode b_M_readDescription 72 = .ok (.aload_n 0, 1) := by decide +kernel
theorem d_M_readDescription_73 : decode b_M_readDescription 73 = .ok (.aload_n 0, 1) := by decide +kernel
theorem d_M_readDescription_74 : decode b_M_readDescription 74 = .ok (.invokevirtual 117, 3) := by decide +kernel
theorem d_M_readDescription_77 : decode b_M_readDescription 77 = .ok (.ifCond .ne 7, 3) := by decide +kernel
theorem d_M_readDescription_80 : decode b_M_readDescription 80 = .ok (.iconst 1, 1) := by decide +kernel
theorem d_M_readDescription_81 : decode b_M_readDescription 81 = .ok (.goto 4, 3) := by decide +kernel
theorem d_M_readDescription_84 : decode b_M_readDescription 84 = .ok (.iconst 0, 1) := by decide +kernel
theorem d_M_readDescription_85 : decode b_M_readDescription 85 = .ok (.putfield 100, 3) := by decide +kernel
theorem d_M_readDescription_88 : decode b_M_readDescription 88 = .ok (.aload_n 0, 1) := by decide +kernel
theorem d_M_readDescription_89 : decode b_M_readDescription 89 = .ok (.getfield 100, 3) := by decide +kernel
theorem d_M_readDescription_92 : decode b_M_readDescription 92 = .ok (.ifCond .ne 55, 3) := by decide +kernel
theorem d_M_readDescription_95 : decode b_M_readDescription 95 = .ok (.aload_n 0, 1) := by decide +kernel
theorem d_M_readDescription_96 : decode b_M_readDescription 96 = .ok (.invokevirtual 117, 3) := by decide +kernel
theorem d_M_readDescription_99 : decode b_M_readDescription 99 = .ok (.ifCond .eq 48, 3) := by decide +kernel
theorem d_M_readDescription_102 : decode b_M_readDescription 102 = .ok (.aload_n 0, 1) := by decide +kernel
theorem d_M_readDescription_103 : decode b_M_readDescription 103 = .ok (.getfield 111, 3) := by decide +kernel
theorem d_M_readDescription_106 : decode b_M_readDescription 106 = .ok (.bipush 6, 2) := by decide +kernel
theorem d_M_readDescription_108 : decode b_M_readDescription 108 = .ok (.if_icmp .ge 39, 3) := by decide +kernel
theorem d_M_readDescription_111 : decode b_M_readDescription 111 = .ok (.aload_n 0, 1) := by decide +kernel
theorem d_M_readDescription_112 : decode b_M_readDescription 112 = .ok (.getfield 41, 3) := by decide +kernel
theorem d_M_readDescription_115 : decode b_M_readDescription 115 = .ok (.aload_n 0, 1) := by decide +kernel
theorem d_M_readDescription_116 : decode b_M_readDescription 116 = .ok (.getfield 111, 3) := by decide +kernel
theorem d_M_readDescription_119 : decode b_M_readDescription 119 = .ok (.aload_n 0, 1) := by decide +kernel
theorem d_M_readDescription_120 : decode b_M_readDescription 120 = .ok (.invokevirtual 104, 3) := by decide +kernel
theorem d_M_readDescription_123 : decode b_M_readDescription 123 = .ok (.iastore, 1) := by decide +kernel
theorem d_M_readDescription_124 : decode b_M_readDescription 124 = .ok (.aload_n 0, 1) := by decide +kernel
theorem d_M_readDescription_125 : decode b_M_readDescription 125 = .ok (.dup, 1) := by decide +kernel
theorem d_M_readDescription_126 : decode b_M_readDescription 126 = .ok (.getfield 111, 3) := by decide +kernel
theorem d_M_readDescription_129 : decode b_M_readDescription 129 = .ok (.iconst 1, 1) := by decide +kernel
theorem d_M_readDescription_130 : decode b_M_readDescription 130 = .ok (.iadd, 1) := by decide +kernel
theorem d_M_readDescription_131 : decode b_M_readDescription 131 = .ok (.putfield 111, 3) := by decide +kernel
theorem d_M_readDescription_134 : decode b_M_readDescription 134 = .ok (.aload_n 0, 1) := by decide +kernel
theorem d_M_readDescription_135 : decode b_M_readDescription 135 = .ok (.dup, 1) := by decide +kernel
theorem d_M_readDescription_136 : decode b_M_readDescription 136 = .ok (.getfield 97, 3) := by decide +kernel
theorem d_M_readDescription_139 : decode b_M_readDescription 139 = .ok (.iconst 1, 1) := by decide +kernel
theorem d_M_readDescription_140 : decode b_M_readDescription 140 = .ok (.iadd, 1) := by decide +kernel
theorem d_M_readDescription_141 : decode b_M_readDescription 141 = .ok (.putfield 97, 3) := by decide +kernel
theorem d_M_readDescription_144 : decode b_M_readDescription 144 = .ok (.goto (-56), 3) := by decide +kernel
theorem d_M_readDescription_147 : decode b_M_readDescription 147 = .ok (.return_, 1) := by decide +kernel
theorem d_M_hasWord_0 : decode b_M_hasWord 0 = .ok (.aload_n 0, 1) := by decide +kernel
theorem d_M_hasWord_1 : decode b_M_hasWord 1 = .ok (.getfield 13, 3) := by decide +kernel
theorem d_M_hasWord_4 : decode b_M_hasWord 4 = .ok (.iload_n 1, 1) := by decide +kernel
theorem d_M_hasWord_5 : decode b_M_hasWord 5 = .ok (.iaload, 1) := by decide +kernel
theorem d_M_hasWord_6 : decode b_M_hasWord 6 = .ok (.aload_n 0, 1) := by decide +kernel
theorem d_M_hasWord_7 : decode b_M_hasWord 7 = .ok (.getfield 17, 3) := by decide +kernel
theorem d_M_hasWord_10 : decode b_M_hasWord 10 = .ok (.iload_n 1, 1) := by decide +kernel
theorem d_M_hasWord_11 : decode b_M_hasWord 11 = .ok (.iaload, 1) := by decide +kernel
theorem d_M_hasWord_12 : decode b_M_hasWord 12 = .ok (.ior, 1) := by decide +kernel
theorem d_M_hasWord_13 : decode b_M_hasWord 13 = .ok (.iload_n 2, 1) := by decide +kernel
theorem d_M_hasWord_14 : decode b_M_hasWord 14 = .ok (.invokestatic 114, 3) := by decide +kernel
theorem d_M_hasWord_17 : decode b_M_hasWord 17 = .ok (.ireturn, 1) := by decide +kernel
theorem d_M_fit_0 : decode b_M_fit 0 = .ok (.iconst 1, 1) := by decide +kernel
theorem d_M_fit_1 : decode b_M_fit 1 = .ok (.istore_n 2, 1) := by decide +kernel
theorem d_M_fit_2 : decode b_M_fit 2 = .ok (.iconst 0, 1) := by decide +kernel
theorem d_M_fit_3 : decode b_M_fit 3 = .ok (.istore_n 3, 1) := by decide +kernel
theorem d_M_fit_4 : decode b_M_fit 4 = .ok (.iload_n 3, 1) := by decide +kernel
theorem d_M_fit_5 : decode b_M_fit 5 = .ok (.aload_n 0, 1) := by decide +kernel
theorem d_M_fit_6 : decode b_M_fit 6 = .ok (.getfield 111, 3) := by decide +kernel
theorem d_M_fit_9 : decode b_M_fit 9 = .ok (.iconst 1, 1) := by decide +kernel
theorem d_M_fit_10 : decode b_M_fit 10 = .ok (.isub, 1) := by decide +kernel
theorem d_M_fit_11 : decode b_M_fit 11 = .ok (.if_icmp .ge 33, 3) := by decide +kernel
theorem d_M_fit_14 : decode b_M_fit 14 = .ok (.iload_n 2, 1) := by decide +kernel
theorem d_M_fit_15 : decode b_M_fit 15 = .ok (.ifCond .eq 21, 3) := by decide +kernel
theorem d_M_fit_18 : decode b_M_fit 18 = .ok (.aload_n 0, 1) := by decide +kernel
theorem d_M_fit_19 : decode b_M_fit 19 = .ok (.iload_n 1, 1) := by decide +kernel
theorem d_M_fit_20 : decode b_M_fit 20 = .ok (.aload_n 0, 1) := by decide +kernel
theorem d_M_fit_21 : decode b_M_fit 21 = .ok (.getfield 41, 3) := by decide +kernel
theorem d_M_fit_24 : decode b_M_fit 24 = .ok (.iload_n 3, 1) := by decide +kernel
theorem d_M_fit_25 : decode b_M_fit 25 = .ok (.iaload, 1) := by decide +kernel
theorem d_M_fit_26 : decode b_M_fit 26 = .ok (.invokevirtual 121, 3) := by decide +kernel
theorem d_M_fit_29 : decode b_M_fit 29 = .ok (.ifCond .eq 7, 3) := by decide +kernel
theorem d_M_fit_32 : decode b_M_fit 32 = .ok (.iconst 1, 1) := by decide +kernel
theorem d_M_fit_33 : decode b_M_fit 33 = .ok (.goto 4, 3) := by decide +kernel
theorem d_M_fit_36 : decode b_M_fit 36 = .ok (.iconst 0, 1) := by decide +kernel
theorem d_M_fit_37 : decode b_M_fit 37 = .ok (.istore_n 2, 1) := by decide +kernel
theorem d_M_fit_38 : decode b_M_fit 38 = .ok (.iinc 3 1, 3) := by decide +kernel
theorem d_M_fit_41 : decode b_M_fit 41 = .ok (.goto (-37), 3) := by decide +kernel
theorem d_M_fit_44 : decode b_M_fit 44 = .ok (.aload_n 0, 1) := by decide +kernel
theorem d_M_fit_45 : decode b_M_fit 45 = .ok (.getfield 108, 3) := by decide +kernel
theorem d_M_fit_48 : decode b_M_fit 48 = .ok (.iconst 2, 1) := by decide +kernel
theorem d_M_fit_49 : decode b_M_fit 49 = .ok (.invokestatic 114, 3) := by decide +kernel
theorem d_M_fit_52 : decode b_M_fit 52 = .ok (.ifCond .eq 13, 3) := by decide +kernel
theorem d_M_fit_55 : decode b_M_fit 55 = .ok (.aload_n 0, 1) := by decide +kernel
theorem d_M_fit_56 : decode b_M_fit 56 = .ok (.getfield 23, 3) := by decide +kernel
theorem d_M_fit_59 : decode b_M_fit 59 = .ok (.iload_n 1, 1) := by decide +kernel
theorem d_M_fit_60 : decode b_M_fit 60 = .ok (.iaload, 1) := by decide +kernel
theorem d_M_fit_61 : decode b_M_fit 61 = .ok (.iconst 2, 1) := by decide +kernel
theorem d_M_fit_62 : decode b_M_fit 62 = .ok (.if_icmp .ne 7, 3) := by decide +kernel
theorem d_M_fit_65 : decode b_M_fit 65 = .ok (.iconst 1, 1) := by decide +kernel
theorem d_M_fit_66 : decode b_M_fit 66 = .ok (.goto 4, 3) := by decide +kernel
theorem d_M_fit_69 : decode b_M_fit 69 = .ok (.iconst 0, 1) := by decide +kernel
theorem d_M_fit_70 : decode b_M_fit 70 = .ok (.istore_n 3, 1) := by decide +kernel
theorem d_M_fit_71 : decode b_M_fit 71 = .ok (.aload_n 0, 1) := by decide +kernel
theorem d_M_fit_72 : decode b_M_fit 72 = .ok (.getfield 108, 3) := by decide +kernel
theorem d_M_fit_75 : decode b_M_fit 75 = .ok (.iconst 3, 1) := by decide +kernel
theorem d_M_fit_76 : decode b_M_fit 76 = .ok (.invokestatic 114, 3) := by decide +kernel
theorem d_M_fit_79 : decode b_M_fit 79 = .ok (.ifCond .eq 14, 3) := by decide +kernel
theorem d_M_fit_82 : decode b_M_fit 82 = .ok (.aload_n 0, 1) := by decide +kernel
theorem d_M_fit_83 : decode b_M_fit 83 = .ok (.getfield 124, 3) := by decide +kernel
theorem d_M_fit_86 : decode b_M_fit 86 = .ok (.iload_n 1, 1) := by decide +kernel
theorem d_M_fit_87 : decode b_M_fit 87 = .ok (.invokestatic 114, 3) := by decide +kernel
theorem d_M_fit_90 : decode b_M_fit 90 = .ok (.ifCond .ne 7, 3) := by decide +kernel
theorem d_M_fit_93 : decode b_M_fit 93 = .ok (.iconst 1, 1) := by decide +kernel
theorem d_M_fit_94 : decode b_M_fit 94 = .ok (.goto 4, 3) := by decide +kernel
theorem d_M_fit_97 : decode b_M_fit 97 = .ok (.iconst 0, 1) := by decide +kernel
theorem d_M_fit_98 : decode b_M_fit 98 = .ok (.istore 4, 2) := by decide +kernel
theorem d_M_fit_100 : decode b_M_fit 100 = .ok (.iload_n 2, 1) := by decide +kernel
theorem d_M_fit_101 : decode b_M_fit 101 = .ok (.ifCond .eq 12, 3) := by decide +kernel
theorem d_M_fit_104 : decode b_M_fit 104 = .ok (.iload_n 3, 1) := by decide +kernel
theorem d_M_fit_105 : decode b_M_fit 105 = .ok (.ifCond .eq 8, 3) := by decide +kernel
theorem d_M_fit_108 : decode b_M_fit 108 = .ok (.iload 4, 2) := by decide +kernel
theorem d_M_fit_110 : decode b_M_fit 110 = .ok (.ifCond .ne 5, 3) := by decide +kernel
theorem d_M_fit_113 : decode b_M_fit 113 = .ok (.iconst 0, 1) := by decide +kernel
theorem d_M_fit_114 : decode b_M_fit 114 = .ok (.ireturn, 1) := by decide +kernel
theorem d_M_fit_115 : decode b_M_fit 115 = .ok (.aload_n 0, 1) := by decide +kernel
theorem d_M_fit_116 : decode b_M_fit 116 = .ok (.getfield 41, 3) := by decide +kernel
theorem d_M_fit_119 : decode b_M_fit 119 = .ok (.aload_n 0, 1) := by decide +kernel
theorem d_M_fit_120 : decode b_M_fit 120 = .ok (.getfield 111, 3) := by decide +kernel
theorem d_M_fit_123 : decode b_M_fit 123 = .ok (.iconst 1, 1) := by decide +kernel
theorem d_M_fit_124 : decode b_M_fit 124 = .ok (.isub, 1) := by decide +kernel
theorem d_M_fit_125 : decode b_M_fit 125 = .ok (.iaload, 1) := by decide +kernel
theorem d_M_fit_126 : decode b_M_fit 126 = .ok (.istore 5, 2) := by decide +kernel
theorem d_M_fit_128 : decode b_M_fit 128 = .ok (.aload_n 0, 1) := by decide +kernel
theorem d_M_fit_129 : decode b_M_fit 129 = .ok (.getfield 13, 3) := by decide +kernel
theorem d_M_fit_132 : decode b_M_fit 132 = .ok (.iload_n 1, 1) := by decide +kernel
theorem d_M_fit_133 : decode b_M_fit 133 = .ok (.iaload, 1) := by decide +kernel
theorem d_M_fit_134 : decode b_M_fit 134 = .ok (.iload 5, 2) := by decide +kernel
theorem d_M_fit_136 : decode b_M_fit 136 = .ok (.invokestatic 114, 3) := by decide +kernel
theorem d_M_fit_139 : decode b_M_fit 139 = .ok (.ifCond .eq 7, 3) := by decide +kernel
theorem d_M_fit_142 : decode b_M_fit 142 = .ok (.iconst 1, 1) := by decide +kernel
theorem d_M_fit_143 : decode b_M_fit 143 = .ok (.goto 4, 3) := by decide +kernel
theorem d_M_fit_146 : decode b_M_fit 146 = .ok (.iconst 0, 1) := by decide +kernel
theorem d_M_fit_147 : decode b_M_fit 147 = .ok (.aload_n 0, 1) := by decide +kernel
theorem d_M_fit_148 : decode b_M_fit 148 = .ok (.getfield 20, 3) := by decide +kernel
theorem d_M_fit_151 : decode b_M_fit 151 = .ok (.iload_n 1, 1) := by decide +kernel
theorem d_M_fit_152 : decode b_M_fit 152 = .ok (.iaload, 1) := by decide +kernel
theorem d_M_fit_153 : decode b_M_fit 153 = .ok (.ifCond .lt 23, 3) := by decide +kernel
theorem d_M_fit_156 : decode b_M_fit 156 = .ok (.aload_n 0, 1) := by decide +kernel
theorem d_M_fit_157 : decode b_M_fit 157 = .ok (.getfield 29, 3) := by decide +kernel
theorem d_M_fit_160 : decode b_M_fit 160 = .ok (.aload_n 0, 1) := by decide +kernel
theorem d_M_fit_161 : decode b_M_fit 161 = .ok (.getfield 20, 3) := by decide +kernel
theorem d_M_fit_164 : decode b_M_fit 164 = .ok (.iload_n 1, 1) := by decide +kernel
theorem d_M_fit_165 : decode b_M_fit 165 = .ok (.iaload, 1) := by decide +kernel
theorem d_M_fit_166 : decode b_M_fit 166 = .ok (.iaload, 1) := by decide +kernel
theorem d_M_fit_167 : decode b_M_fit 167 = .ok (.iload 5, 2) := by decide +kernel
theorem d_M_fit_169 : decode b_M_fit 169 = .ok (.if_icmp .ne 7, 3) := by decide +kernel
theorem d_M_fit_172 : decode b_M_fit 172 = .ok (.iconst 2, 1) := by decide +kernel
theorem d_M_fit_173 : decode b_M_fit 173 = .ok (.goto 4, 3) := by decide +kernel
theorem d_M_fit_176 : decode b_M_fit 176 = .ok (.iconst 0, 1) := by decide +kernel
theorem d_M_fit_177 : decode b_M_fit 177 = .ok (.iadd, 1) := by decide +kernel
theorem d_M_fit_178 : decode b_M_fit 178 = .ok (.ireturn, 1) := by decide +kernel
theorem d_M_fitting_0 : decode b_M_fitting 0 = .ok (.iconst 0, 1) := by decide +kernel
theorem d_M_fitting_1 : decode b_M_fitting 1 = .ok (.istore_n 2, 1) := by decide +kernel
theorem d_M_fitting_2 : decode b_M_fitting 2 = .ok (.iconst 0, 1) := by decide +kernel
theorem d_M_fitting_3 : decode b_M_fitting 3 = .ok (.istore_n 3, 1) := by decide +kernel
theorem d_M_fitting_4 : decode b_M_fitting 4 = .ok (.iload_n 3, 1) := by decide +kernel
theorem d_M_fitting_5 : decode b_M_fitting 5 = .ok (.aload_n 0, 1) := by decide +kernel
theorem d_M_fitting_6 : decode b_M_fitting 6 = .ok (.getfield 69, 3) := by decide +kernel
theorem d_M_fitting_9 : decode b_M_fitting 9 = .ok (.if_icmp .ge 29, 3) := by decide +kernel
theorem d_M_fitting_12 : decode b_M_fitting 12 = .ok (.aload_n 0, 1) := by decide +kernel
theorem d_M_fitting_13 : decode b_M_fitting 13 = .ok (.iload_n 3, 1) := by decide +kernel
theorem d_M_fitting_14 : decode b_M_fitting 14 = .ok (.invokevirtual 127, 3) := by decide +kernel
theorem d_M_fitting_17 : decode b_M_fitting 17 = .ok (.iload_n 1, 1) := by decide +kernel
theorem d_M_fitting_18 : decode b_M_fitting 18 = .ok (.iand, 1) := by decide +kernel
theorem d_M_fitting_19 : decode b_M_fitting 19 = .ok (.ifCond .eq 11, 3) := by decide +kernel
theorem d_M_fitting_22 : decode b_M_fitting 22 = .ok (.iload_n 2, 1) := by decide +kernel
theorem d_M_fitting_23 : decode b_M_fitting 23 = .ok (.iconst 1, 1) := by decide +kernel
theorem d_M_fitting_24 : decode b_M_fitting 24 = .ok (.iload_n 3, 1) := by decide +kernel
theorem d_M_fitting_25 : decode b_M_fitting 25 = .ok (.ishl, 1) := by decide +kernel
theorem d_M_fitting_26 : decode b_M_fitting 26 = .ok (.ior, 1) := by decide +kernel
theorem d_M_fitting_27 : decode b_M_fitting 27 = .ok (.goto 4, 3) := by decide +kernel
theorem d_M_fitting_30 : decode b_M_fitting 30 = .ok (.iload_n 2, 1) := by decide +kernel
theorem d_M_fitting_31 : decode b_M_fitting 31 = .ok (.istore_n 2, 1) := by decide +kernel
theorem d_M_fitting_32 : decode b_M_fitting 32 = .ok (.iinc 3 1, 3) := by decide +kernel
theorem d_M_fitting_35 : decode b_M_fitting 35 = .ok (.goto (-31), 3) := by decide +kernel
theorem d_M_fitting_38 : decode b_M_fitting 38 = .ok (.iload_n 2, 1) := by decide +kernel
theorem d_M_fitting_39 : decode b_M_fitting 39 = .ok (.ireturn, 1) := by decide +kernel
theorem d_M_there_0 : decode b_M_there 0 = .ok (.iconst 0, 1) := by decide +kernel
theorem d_M_there_1 : decode b_M_there 1 = .ok (.istore_n 1, 1) := by decide +kernel
theorem d_M_there_2 : decode b_M_there 2 = .ok (.iconst 0, 1) := by decide +kernel
theorem d_M_there_3 : decode b_M_there 3 = .ok (.istore_n 2, 1) := by decide +kernel
theorem d_M_there_4 : decode b_M_there 4 = .ok (.iload_n 2, 1) := by decide +kernel
theorem d_M_there_5 : decode b_M_there 5 = .ok (.aload_n 0, 1) := by decide +kernel
theorem d_M_there_6 : decode b_M_there 6 = .ok (.getfield 69, 3) := by decide +kernel
theorem d_M_there_9 : decode b_M_there 9 = .ok (.if_icmp .ge 39, 3) := by decide +kernel
theorem d_M_there_12 : decode b_M_there 12 = .ok (.aload_n 0, 1) := by decide +kernel
theorem d_M_there_13 : decode b_M_there 13 = .ok (.getfield 23, 3) := by decide +kernel
theorem d_M_there_16 : decode b_M_there 16 = .ok (.iload_n 2, 1) := by decide +kernel
theorem d_M_there_17 : decode b_M_there 17 = .ok (.iaload, 1) := by decide +kernel
theorem d_M_there_18 : decode b_M_there 18 = .ok (.iconst 1, 1) := by decide +kernel
theorem d_M_there_19 : decode b_M_there 19 = .ok (.if_icmp .eq 13, 3) := by decide +kernel
theorem d_M_there_22 : decode b_M_there 22 = .ok (.aload_n 0, 1) := by decide +kernel
theorem d_M_there_23 : decode b_M_there 23 = .ok (.getfield 23, 3) := by decide +kernel
theorem d_M_there_26 : decode b_M_there 26 = .ok (.iload_n 2, 1) := by decide +kernel
theorem d_M_there_27 : decode b_M_there 27 = .ok (.iaload, 1) := by decide +kernel
theorem d_M_there_28 : decode b_M_there 28 = .ok (.iconst 2, 1) := by decide +kernel
theorem d_M_there_29 : decode b_M_there 29 = .ok (.if_icmp .ne 11, 3) := by decide +kernel
theorem d_M_there_32 : decode b_M_there 32 = .ok (.iload_n 1, 1) := by decide +kernel
theorem d_M_there_33 : decode b_M_there 33 = .ok (.iconst 1, 1) := by decide +kernel
theorem d_M_there_34 : decode b_M_there 34 = .ok (.iload_n 2, 1) := by decide +kernel
theorem d_M_there_35 : decode b_M_there 35 = .ok (.ishl, 1) := by decide +kernel
theorem d_M_there_36 : decode b_M_there 36 = .ok (.ior, 1) := by decide +kernel
theorem d_M_there_37 : decode b_M_there 37 = .ok (.goto 4, 3) := by decide +kernel
theorem d_M_there_40 : decode b_M_there 40 = .ok (.iload_n 1, 1) := by decide +kernel
theorem d_M_there_41 : decode b_M_there 41 = .ok (.istore_n 1, 1) := by decide +kernel
theorem d_M_there_42 : decode b_M_there 42 = .ok (.iinc 2 1, 3) := by decide +kernel
theorem d_M_there_45 : decode b_M_there 45 = .ok (.goto (-41), 3) := by decide +kernel
theorem d_M_there_48 : decode b_M_there 48 = .ok (.iload_n 1, 1) := by decide +kernel
theorem d_M_there_49 : decode b_M_there 49 = .ok (.ireturn, 1) := by decide +kernel
theorem d_M_everything_0 : decode b_M_everything 0 = .ok (.aload_n 0, 1) := by decide +kernel
theorem d_M_everything_1 : decode b_M_everything 1 = .ok (.getfield 69, 3) := by decide +kernel
theorem d_M_everything_4 : decode b_M_everything 4 = .ok (.bipush 32, 2) := by decide +kernel
theorem d_M_everything_6 : decode b_M_everything 6 = .ok (.if_icmp .ne 7, 3) := by decide +kernel
theorem d_M_everything_9 : decode b_M_everything 9 = .ok (.iconst (-1), 1) := by decide +kernel
theorem d_M_everything_10 : decode b_M_everything 10 = .ok (.goto 11, 3) := by decide +kernel
theorem d_M_everything_13 : decode b_M_everything 13 = .ok (.iconst 1, 1) := by decide +kernel
theorem d_M_everything_14 : decode b_M_everything 14 = .ok (.aload_n 0, 1) := by decide +kernel
theorem d_M_everything_15 : decode b_M_everything 15 = .ok (.getfield 69, 3) := by decide +kernel
theorem d_M_everything_18 : decode b_M_everything 18 = .ok (.ishl, 1) := by decide +kernel
theorem d_M_everything_19 : decode b_M_everything 19 = .ok (.iconst 1, 1) := by decide +kernel
theorem d_M_everything_20 : decode b_M_everything 20 = .ok (.isub, 1) := by decide +kernel
theorem d_M_everything_21 : decode b_M_everything 21 = .ok (.ireturn, 1) := by decide +kernel
theorem d_M_likeliest_0 : decode b_M_likeliest 0 = .ok (.iconst 0, 1) := by decide +kernel
theorem d_M_likeliest_1 : decode b_M_likeliest 1 = .ok (.istore_n 2, 1) := by decide +kernel
theorem d_M_likeliest_2 : decode b_M_likeliest 2 = .ok (.sipush (-10000), 3) := by decide +kernel
theorem d_M_likeliest_5 : decode b_M_likeliest 5 = .ok (.istore_n 3, 1) := by decide +kernel
theorem d_M_likeliest_6 : decode b_M_likeliest 6 = .ok (.iconst 0, 1) := by decide +kernel
theorem d_M_likeliest_7 : decode b_M_likeliest 7 = .ok (.istore 4, 2) := by decide +kernel
theorem d_M_likeliest_9 : decode b_M_likeliest 9 = .ok (.iload 4, 2) := by decide +kernel
theorem d_M_likeliest_11 : decode b_M_likeliest 11 = .ok (.aload_n 0, 1) := by decide +kernel
theorem d_M_likeliest_12 : decode b_M_likeliest 12 = .ok (.getfield 69, 3) := by decide +kernel
theorem d_M_likeliest_15 : decode b_M_likeliest 15 = .ok (.if_icmp .ge 58, 3) := by decide +kernel
theorem d_M_likeliest_18 : decode b_M_likeliest 18 = .ok (.iload_n 1, 1) := by decide +kernel
theorem d_M_likeliest_19 : decode b_M_likeliest 19 = .ok (.iload 4, 2) := by decide +kernel
theorem d_M_likeliest_21 : decode b_M_likeliest 21 = .ok (.invokestatic 114, 3) := by decide +kernel
theorem d_M_likeliest_24 : decode b_M_likeliest 24 = .ok (.ifCond .eq 43, 3) := by decide +kernel
theorem d_M_likeliest_27 : decode b_M_likeliest 27 = .ok (.aload_n 0, 1) := by decide +kernel
theorem d_M_likeliest_28 : decode b_M_likeliest 28 = .ok (.iload 4, 2) := by decide +kernel
theorem d_M_likeliest_30 : decode b_M_likeliest 30 = .ok (.invokevirtual 80, 3) := by decide +kernel
theorem d_M_likeliest_33 : decode b_M_likeliest 33 = .ok (.iload_n 3, 1) := by decide +kernel
theorem d_M_likeliest_34 : decode b_M_likeliest 34 = .ok (.if_icmp .lt 33, 3) := by decide +kernel
theorem d_M_likeliest_37 : decode b_M_likeliest 37 = .ok (.aload_n 0, 1) := by decide +kernel
theorem d_M_likeliest_38 : decode b_M_likeliest 38 = .ok (.iload 4, 2) := by decide +kernel
theorem d_M_likeliest_40 : decode b_M_likeliest 40 = .ok (.invokevirtual 80, 3) := by decide +kernel
theorem d_M_likeliest_43 : decode b_M_likeliest 43 = .ok (.iload_n 3, 1) := by decide +kernel
theorem d_M_likeliest_44 : decode b_M_likeliest 44 = .ok (.if_icmp .le 7, 3) := by decide +kernel
theorem d_M_likeliest_47 : decode b_M_likeliest 47 = .ok (.iconst 0, 1) := by decide +kernel
theorem d_M_likeliest_48 : decode b_M_likeliest 48 = .ok (.goto 4, 3) := by decide +kernel
theorem d_M_likeliest_51 : decode b_M_likeliest 51 = .ok (.iload_n 2, 1) := by decide +kernel
theorem d_M_likeliest_52 : decode b_M_likeliest 52 = .ok (.istore_n 2, 1) := by decide +kernel
theorem d_M_likeliest_53 : decode b_M_likeliest 53 = .ok (.aload_n 0, 1) := by decide +kernel
theorem d_M_likeliest_54 : decode b_M_likeliest 54 = .ok (.iload 4, 2) := by decide +kernel
theorem d_M_likeliest_56 : decode b_M_likeliest 56 = .ok (.invokevirtual 80, 3) := by decide +kernel
theorem d_M_likeliest_59 : decode b_M_likeliest 59 = .ok (.istore_n 3, 1) := by decide +kernel
theorem d_M_likeliest_60 : decode b_M_likeliest 60 = .ok (.iload_n 2, 1) := by decide +kernel
theorem d_M_likeliest_61 : decode b_M_likeliest 61 = .ok (.iconst 1, 1) := by decide +kernel
theorem d_M_likeliest_62 : decode b_M_likeliest 62 = .ok (.iload 4, 2) := by decide +kernel
theorem d_M_likeliest_64 : decode b_M_likeliest 64 = .ok (.ishl, 1) := by decide +kernel
theorem d_M_likeliest_65 : decode b_M_likeliest 65 = .ok (.ior, 1) := by decide +kernel
theorem d_M_likeliest_66 : decode b_M_likeliest 66 = .ok (.istore_n 2, 1) := by decide +kernel
theorem d_M_likeliest_67 : decode b_M_likeliest 67 = .ok (.iinc 4 1, 3) := by decide +kernel
theorem d_M_likeliest_70 : decode b_M_likeliest 70 = .ok (.goto (-61), 3) := by decide +kernel
theorem d_M_likeliest_73 : decode b_M_likeliest 73 = .ok (.iload_n 2, 1) := by decide +kernel
theorem d_M_likeliest_74 : decode b_M_likeliest 74 = .ok (.ireturn, 1) := by decide +kernel
theorem d_M_areAlike_0 : decode b_M_areAlike 0 = .ok (.iconst 1, 1) := by decide +kernel
theorem d_M_areAlike_1 : decode b_M_areAlike 1 = .ok (.istore_n 2, 1) := by decide +kernel
theorem d_M_areAlike_2 : decode b_M_areAlike 2 = .ok (.iconst 0, 1) := by decide +kernel
theorem d_M_areAlike_3 : decode b_M_areAlike 3 = .ok (.istore_n 3, 1) := by decide +kernel
theorem d_M_areAlike_4 : decode b_M_areAlike 4 = .ok (.iload_n 3, 1) := by decide +kernel
theorem d_M_areAlike_5 : decode b_M_areAlike 5 = .ok (.aload_n 0, 1) := by decide +kernel
theorem d_M_areAlike_6 : decode b_M_areAlike 6 = .ok (.getfield 69, 3) := by decide +kernel
theorem d_M_areAlike_9 : decode b_M_areAlike 9 = .ok (.if_icmp .ge 61, 3) := by decide +kernel
theorem d_M_areAlike_12 : decode b_M_areAlike 12 = .ok (.iconst 0, 1) := by decide +kernel
theorem d_M_areAlike_13 : decode b_M_areAlike 13 = .ok (.istore 4, 2) := by decide +kernel
theorem d_M_areAlike_15 : decode b_M_areAlike 15 = .ok (.iload 4, 2) := by decide +kernel
theorem d_M_areAlike_17 : decode b_M_areAlike 17 = .ok (.iload_n 3, 1) := by decide +kernel
theorem d_M_areAlike_18 : decode b_M_areAlike 18 = .ok (.if_icmp .ge 46, 3) := by decide +kernel
theorem d_M_areAlike_21 : decode b_M_areAlike 21 = .ok (.iload_n 2, 1) := by decide +kernel
theorem d_M_areAlike_22 : decode b_M_areAlike 22 = .ok (.ifCond .eq 34, 3) := by decide +kernel
theorem d_M_areAlike_25 : decode b_M_areAlike 25 = .ok (.iload_n 1, 1) := by decide +kernel
theorem d_M_areAlike_26 : decode b_M_areAlike 26 = .ok (.iload_n 3, 1) := by decide +kernel
theorem d_M_areAlike_27 : decode b_M_areAlike 27 = .ok (.invokestatic 114, 3) := by decide +kernel
theorem d_M_areAlike_30 : decode b_M_areAlike 30 = .ok (.ifCond .eq 22, 3) := by decide +kernel
theorem d_M_areAlike_33 : decode b_M_areAlike 33 = .ok (.iload_n 1, 1) := by decide +kernel
theorem d_M_areAlike_34 : decode b_M_areAlike 34 = .ok (.iload 4, 2) := by decide +kernel
theorem d_M_areAlike_36 : decode b_M_areAlike 36 = .ok (.invokestatic 114, 3) := by decide +kernel
theorem d_M_areAlike_39 : decode b_M_areAlike 39 = .ok (.ifCond .eq 13, 3) := by decide +kernel
theorem d_M_areAlike_42 : decode b_M_areAlike 42 = .ok (.aload_n 0, 1) := by decide +kernel
theorem d_M_areAlike_43 : decode b_M_areAlike 43 = .ok (.iload_n 3, 1) := by decide +kernel
theorem d_M_areAlike_44 : decode b_M_areAlike 44 = .ok (.iload 4, 2) := by decide +kernel
theorem d_M_areAlike_46 : decode b_M_areAlike 46 = .ok (.invokevirtual 84, 3) := by decide +kernel
theorem d_M_areAlike_49 : decode b_M_areAlike 49 = .ok (.ifCond .eq 7, 3) := by decide +kernel
theorem d_M_areAlike_52 : decode b_M_areAlike 52 = .ok (.iconst 1, 1) := by decide +kernel
theorem d_M_areAlike_53 : decode b_M_areAlike 53 = .ok (.goto 4, 3) := by decide +kernel
theorem d_M_areAlike_56 : decode b_M_areAlike 56 = .ok (.iconst 0, 1) := by decide +kernel
theorem d_M_areAlike_57 : decode b_M_areAlike 57 = .ok (.istore_n 2, 1) := by decide +kernel
theorem d_M_areAlike_58 : decode b_M_areAlike 58 = .ok (.iinc 4 1, 3) := by decide +kernel
theorem d_M_areAlike_61 : decode b_M_areAlike 61 = .ok (.goto (-46), 3) := by decide +kernel
theorem d_M_areAlike_64 : decode b_M_areAlike 64 = .ok (.iinc 3 1, 3) := by decide +kernel
theorem d_M_areAlike_67 : decode b_M_areAlike 67 = .ok (.goto (-63), 3) := by decide +kernel
theorem d_M_areAlike_70 : decode b_M_areAlike 70 = .ok (.iload_n 2, 1) := by decide +kernel
theorem d_M_areAlike_71 : decode b_M_areAlike 71 = .ok (.ireturn, 1) := by decide +kernel
theorem d_M_tell_0 : decode b_M_tell 0 = .ok (.aload_n 0, 1) := by decide +kernel
theorem d_M_tell_1 : decode b_M_tell 1 = .ok (.iload_n 1, 1) := by decide +kernel
theorem d_M_tell_2 : decode b_M_tell 2 = .ok (.putfield 60, 3) := by decide +kernel
theorem d_M_tell_5 : decode b_M_tell 5 = .ok (.aload_n 0, 1) := by decide +kernel
theorem d_M_tell_6 : decode b_M_tell 6 = .ok (.iload_n 2, 1) := by decide +kernel
theorem d_M_tell_7 : decode b_M_tell 7 = .ok (.putfield 63, 3) := by decide +kernel
theorem d_M_tell_10 : decode b_M_tell 10 = .ok (.aload_n 0, 1) := by decide +kernel
theorem d_M_tell_11 : decode b_M_tell 11 = .ok (.iload_n 3, 1) := by decide +kernel
theorem d_M_tell_12 : decode b_M_tell 12 = .ok (.putfield 66, 3) := by decide +kernel
theorem d_M_tell_15 : decode b_M_tell 15 = .ok (.return_, 1) := by decide +kernel
theorem d_M_fits_0 : decode b_M_fits 0 = .ok (.aload_n 0, 1) := by decide +kernel
theorem d_M_fits_1 : decode b_M_fits 1 = .ok (.iconst 0, 1) := by decide +kernel
theorem d_M_fits_2 : decode b_M_fits 2 = .ok (.putfield 1, 3) := by decide +kernel
theorem d_M_fits_5 : decode b_M_fits 5 = .ok (.aload_n 0, 1) := by decide +kernel
theorem d_M_fits_6 : decode b_M_fits 6 = .ok (.iload_n 1, 1) := by decide +kernel
theorem d_M_fits_7 : decode b_M_fits 7 = .ok (.invokevirtual 76, 3) := by decide +kernel
theorem d_M_fits_10 : decode b_M_fits 10 = .ok (.ifCond .eq 5, 3) := by decide +kernel
theorem d_M_fits_13 : decode b_M_fits 13 = .ok (.iconst (-1), 1) := by decide +kernel
theorem d_M_fits_14 : decode b_M_fits 14 = .ok (.ireturn, 1) := by decide +kernel
theorem d_M_fits_15 : decode b_M_fits 15 = .ok (.aload_n 0, 1) := by decide +kernel
theorem d_M_fits_16 : decode b_M_fits 16 = .ok (.aload_n 0, 1) := by decide +kernel
theorem d_M_fits_17 : decode b_M_fits 17 = .ok (.getfield 38, 3) := by decide +kernel
theorem d_M_fits_20 : decode b_M_fits 20 = .ok (.aload_n 0, 1) := by decide +kernel
theorem d_M_fits_21 : decode b_M_fits 21 = .ok (.getfield 88, 3) := by decide +kernel
theorem d_M_fits_24 : decode b_M_fits 24 = .ok (.invokevirtual 130, 3) := by decide +kernel
theorem d_M_fits_27 : decode b_M_fits 27 = .ok (.aload_n 0, 1) := by decide +kernel
theorem d_M_fits_28 : decode b_M_fits 28 = .ok (.invokevirtual 134, 3) := by decide +kernel
theorem d_M_fits_31 : decode b_M_fits 31 = .ok (.aload_n 0, 1) := by decide +kernel
theorem d_M_fits_32 : decode b_M_fits 32 = .ok (.getfield 100, 3) := by decide +kernel
theorem d_M_fits_35 : decode b_M_fits 35 = .ok (.ifCond .ne 14, 3) := by decide +kernel
theorem d_M_fits_38 : decode b_M_fits 38 = .ok (.aload_n 0, 1) := by decide +kernel
theorem d_M_fits_39 : decode b_M_fits 39 = .ok (.getfield 97, 3) := by decide +kernel
theorem d_M_fits_42 : decode b_M_fits 42 = .ok (.aload_n 0, 1) := by decide +kernel
theorem d_M_fits_43 : decode b_M_fits 43 = .ok (.getfield 94, 3) := by decide +kernel
theorem d_M_fits_46 : decode b_M_fits 46 = .ok (.if_icmp .ge 8, 3) := by decide +kernel
theorem d_M_fits_49 : decode b_M_fits 49 = .ok (.bipush (-2), 2) := by decide +kernel
theorem d_M_fits_51 : decode b_M_fits 51 = .ok (.goto 8, 3) := by decide +kernel
theorem d_M_fits_54 : decode b_M_fits 54 = .ok (.aload_n 0, 1) := by decide +kernel
theorem d_M_fits_55 : decode b_M_fits 55 = .ok (.iload_n 1, 1) := by decide +kernel
theorem d_M_fits_56 : decode b_M_fits 56 = .ok (.invokevirtual 127, 3) := by decide +kernel
theorem d_M_fits_59 : decode b_M_fits 59 = .ok (.ireturn, 1) := by decide +kernel
theorem d_M_isPhrase_0 : decode b_M_isPhrase 0 = .ok (.aload_n 0, 1) := by decide +kernel
theorem d_M_isPhrase_1 : decode b_M_isPhrase 1 = .ok (.aload_n 1, 1) := by decide +kernel
theorem d_M_isPhrase_2 : decode b_M_isPhrase 2 = .ok (.iload_n 2, 1) := by decide +kernel
theorem d_M_isPhrase_3 : decode b_M_isPhrase 3 = .ok (.invokevirtual 130, 3) := by decide +kernel
theorem d_M_isPhrase_6 : decode b_M_isPhrase 6 = .ok (.iconst 0, 1) := by decide +kernel
theorem d_M_isPhrase_7 : decode b_M_isPhrase 7 = .ok (.istore_n 3, 1) := by decide +kernel
theorem d_M_isPhrase_8 : decode b_M_isPhrase 8 = .ok (.iconst 1, 1) := by decide +kernel
theorem d_M_isPhrase_9 : decode b_M_isPhrase 9 = .ok (.istore 4, 2) := by decide +kernel
theorem d_M_isPhrase_11 : decode b_M_isPhrase 11 = .ok (.iload 4, 2) := by decide +kernel
theorem d_M_isPhrase_13 : decode b_M_isPhrase 13 = .ok (.ifCond .eq 63, 3) := by decide +kernel
theorem d_M_isPhrase_16 : decode b_M_isPhrase 16 = .ok (.aload_n 0, 1) := by decide +kernel
theorem d_M_isPhrase_17 : decode b_M_isPhrase 17 = .ok (.iconst 0, 1) := by decide +kernel
theorem d_M_isPhrase_18 : decode b_M_isPhrase 18 = .ok (.iconst 0, 1) := by decide +kernel
theorem d_M_isPhrase_19 : decode b_M_isPhrase 19 = .ok (.iconst 0, 1) := by decide +kernel
theorem d_M_isPhrase_20 : decode b_M_isPhrase 20 = .ok (.invokevirtual 172, 3) := by decide +kernel
theorem d_M_isPhrase_23 : decode b_M_isPhrase 23 = .ok (.iinc 3 1, 3) := by decide +kernel
theorem d_M_isPhrase_26 : decode b_M_isPhrase 26 = .ok (.aload_n 0, 1) := by decide +kernel
theorem d_M_isPhrase_27 : decode b_M_isPhrase 27 = .ok (.getfield 100, 3) := by decide +kernel
theorem d_M_isPhrase_30 : decode b_M_isPhrase 30 = .ok (.ifCond .eq 5, 3) := by decide +kernel
theorem d_M_isPhrase_33 : decode b_M_isPhrase 33 = .ok (.iconst 0, 1) := by decide +kernel
theorem d_M_isPhrase_34 : decode b_M_isPhrase 34 = .ok (.ireturn, 1) := by decide +kernel
theorem d_M_isPhrase_35 : decode b_M_isPhrase 35 = .ok (.aload_n 0, 1) := by decide +kernel
theorem d_M_isPhrase_36 : decode b_M_isPhrase 36 = .ok (.invokevirtual 104, 3) := by decide +kernel
theorem d_M_isPhrase_39 : decode b_M_isPhrase 39 = .ok (.bipush 36, 2) := by decide +kernel
theorem d_M_isPhrase_41 : decode b_M_isPhrase 41 = .ok (.if_icmp .ne 7, 3) := by decide +kernel
theorem d_M_isPhrase_44 : decode b_M_isPhrase 44 = .ok (.iconst 1, 1) := by decide +kernel
theorem d_M_isPhrase_45 : decode b_M_isPhrase 45 = .ok (.goto 4, 3) := by decide +kernel
theorem d_M_isPhrase_48 : decode b_M_isPhrase 48 = .ok (.iconst 0, 1) := by decide +kernel
theorem d_M_isPhrase_49 : decode b_M_isPhrase 49 = .ok (.istore 4, 2) := by decide +kernel
theorem d_M_isPhrase_51 : decode b_M_isPhrase 51 = .ok (.aload_n 0, 1) := by decide +kernel
theorem d_M_isPhrase_52 : decode b_M_isPhrase 52 = .ok (.iload 4, 2) := by decide +kernel
theorem d_M_isPhrase_54 : decode b_M_isPhrase 54 = .ok (.ifCond .eq 12, 3) := by decide +kernel
theorem d_M_isPhrase_57 : decode b_M_isPhrase 57 = .ok (.aload_n 0, 1) := by decide +kernel
theorem d_M_isPhrase_58 : decode b_M_isPhrase 58 = .ok (.getfield 97, 3) := by decide +kernel
theorem d_M_isPhrase_61 : decode b_M_isPhrase 61 = .ok (.iconst 1, 1) := by decide +kernel
theorem d_M_isPhrase_62 : decode b_M_isPhrase 62 = .ok (.iadd, 1) := by decide +kernel
theorem d_M_isPhrase_63 : decode b_M_isPhrase 63 = .ok (.goto 7, 3) := by decide +kernel
theorem d_M_isPhrase_66 : decode b_M_isPhrase 66 = .ok (.aload_n 0, 1) := by decide +kernel
theorem d_M_isPhrase_67 : decode b_M_isPhrase 67 = .ok (.getfield 97, 3) := by decide +kernel
theorem d_M_isPhrase_70 : decode b_M_isPhrase 70 = .ok (.putfield 97, 3) := by decide +kernel
theorem d_M_isPhrase_73 : decode b_M_isPhrase 73 = .ok (.goto (-62), 3) := by decide +kernel
theorem d_M_isPhrase_76 : decode b_M_isPhrase 76 = .ok (.aload_n 0, 1) := by decide +kernel
theorem d_M_isPhrase_77 : decode b_M_isPhrase 77 = .ok (.iload_n 3, 1) := by decide +kernel
theorem d_M_isPhrase_78 : decode b_M_isPhrase 78 = .ok (.putfield 176, 3) := by decide +kernel
theorem d_M_isPhrase_81 : decode b_M_isPhrase 81 = .ok (.aload_n 0, 1) := by decide +kernel
theorem d_M_isPhrase_82 : decode b_M_isPhrase 82 = .ok (.getfield 97, 3) := by decide +kernel
theorem d_M_isPhrase_85 : decode b_M_isPhrase 85 = .ok (.aload_n 0, 1) := by decide +kernel
theorem d_M_isPhrase_86 : decode b_M_isPhrase 86 = .ok (.getfield 94, 3) := by decide +kernel
theorem d_M_isPhrase_89 : decode b_M_isPhrase 89 = .ok (.if_icmp .ne 7, 3) := by decide +kernel
theorem d_M_isPhrase_92 : decode b_M_isPhrase 92 = .ok (.iconst 1, 1) := by decide +kernel
theorem d_M_isPhrase_93 : decode b_M_isPhrase 93 = .ok (.goto 4, 3) := by decide +kernel
theorem d_M_isPhrase_96 : decode b_M_isPhrase 96 = .ok (.iconst 0, 1) := by decide +kernel
theorem d_M_isPhrase_97 : decode b_M_isPhrase 97 = .ok (.ireturn, 1) := by decide +kernel

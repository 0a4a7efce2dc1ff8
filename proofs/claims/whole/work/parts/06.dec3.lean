theorem d_NC_isWord_0 : decode b_NC_isWord 0 = .ok (.iload_n 0, 1) := by decide +kernel
theorem d_NC_isWord_1 : decode b_NC_isWord 1 = .ok (.ifCond .lt 13, 3) := by decide +kernel
theorem d_NC_isWord_4 : decode b_NC_isWord 4 = .ok (.iload_n 0, 1) := by decide +kernel
theorem d_NC_isWord_5 : decode b_NC_isWord 5 = .ok (.bipush 30, 2) := by decide +kernel
theorem d_NC_isWord_7 : decode b_NC_isWord 7 = .ok (.if_icmp .ge 7, 3) := by decide +kernel
theorem d_NC_isWord_10 : decode b_NC_isWord 10 = .ok (.iconst 1, 1) := by decide +kernel
theorem d_NC_isWord_11 : decode b_NC_isWord 11 = .ok (.goto 4, 3) := by decide +kernel
theorem d_NC_isWord_14 : decode b_NC_isWord 14 = .ok (.iconst 0, 1) := by decide +kernel
theorem d_NC_isWord_15 : decode b_NC_isWord 15 = .ok (.ireturn, 1) := by decide +kernel
theorem d_NC_isArticle_0 : decode b_NC_isArticle 0 = .ok (.iload_n 0, 1) := by decide +kernel
theorem d_NC_isArticle_1 : decode b_NC_isArticle 1 = .ok (.bipush 30, 2) := by decide +kernel
theorem d_NC_isArticle_3 : decode b_NC_isArticle 3 = .ok (.if_icmp .lt 13, 3) := by decide +kernel
theorem d_NC_isArticle_6 : decode b_NC_isArticle 6 = .ok (.iload_n 0, 1) := by decide +kernel
theorem d_NC_isArticle_7 : decode b_NC_isArticle 7 = .ok (.bipush 33, 2) := by decide +kernel
theorem d_NC_isArticle_9 : decode b_NC_isArticle 9 = .ok (.if_icmp .gt 7, 3) := by decide +kernel
theorem d_NC_isArticle_12 : decode b_NC_isArticle 12 = .ok (.iconst 1, 1) := by decide +kernel
theorem d_NC_isArticle_13 : decode b_NC_isArticle 13 = .ok (.goto 4, 3) := by decide +kernel
theorem d_NC_isArticle_16 : decode b_NC_isArticle 16 = .ok (.iconst 0, 1) := by decide +kernel
theorem d_NC_isArticle_17 : decode b_NC_isArticle 17 = .ok (.ireturn, 1) := by decide +kernel
theorem d_NC_isNumber_0 : decode b_NC_isNumber 0 = .ok (.iload_n 0, 1) := by decide +kernel
theorem d_NC_isNumber_1 : decode b_NC_isNumber 1 = .ok (.bipush 40, 2) := by decide +kernel
theorem d_NC_isNumber_3 : decode b_NC_isNumber 3 = .ok (.if_icmp .le 13, 3) := by decide +kernel
theorem d_NC_isNumber_6 : decode b_NC_isNumber 6 = .ok (.iload_n 0, 1) := by decide +kernel
theorem d_NC_isNumber_7 : decode b_NC_isNumber 7 = .ok (.bipush 60, 2) := by decide +kernel
theorem d_NC_isNumber_9 : decode b_NC_isNumber 9 = .ok (.if_icmp .gt 7, 3) := by decide +kernel
theorem d_NC_isNumber_12 : decode b_NC_isNumber 12 = .ok (.iconst 1, 1) := by decide +kernel
theorem d_NC_isNumber_13 : decode b_NC_isNumber 13 = .ok (.goto 4, 3) := by decide +kernel
theorem d_NC_isNumber_16 : decode b_NC_isNumber 16 = .ok (.iconst 0, 1) := by decide +kernel
theorem d_NC_isNumber_17 : decode b_NC_isNumber 17 = .ok (.ireturn, 1) := by decide +kernel
theorem d_NC_isToken_0 : decode b_NC_isToken 0 = .ok (.iload_n 0, 1) := by decide +kernel
theorem d_NC_isToken_1 : decode b_NC_isToken 1 = .ok (.ifCond .lt 9, 3) := by decide +kernel
theorem d_NC_isToken_4 : decode b_NC_isToken 4 = .ok (.iload_n 0, 1) := by decide +kernel
theorem d_NC_isToken_5 : decode b_NC_isToken 5 = .ok (.bipush 37, 2) := by decide +kernel
theorem d_NC_isToken_7 : decode b_NC_isToken 7 = .ok (.if_icmp .le 10, 3) := by decide +kernel
theorem d_NC_isToken_10 : decode b_NC_isToken 10 = .ok (.iload_n 0, 1) := by decide +kernel
theorem d_NC_isToken_11 : decode b_NC_isToken 11 = .ok (.invokestatic 177, 3) := by decide +kernel
theorem d_NC_isToken_14 : decode b_NC_isToken 14 = .ok (.ifCond .eq 7, 3) := by decide +kernel
theorem d_NC_isToken_17 : decode b_NC_isToken 17 = .ok (.iconst 1, 1) := by decide +kernel
theorem d_NC_isToken_18 : decode b_NC_isToken 18 = .ok (.goto 4, 3) := by decide +kernel
theorem d_NC_isToken_21 : decode b_NC_isToken 21 = .ok (.iconst 0, 1) := by decide +kernel
theorem d_NC_isToken_22 : decode b_NC_isToken 22 = .ok (.ireturn, 1) := by decide +kernel
theorem d_NC_holds_0 : decode b_NC_holds 0 = .ok (.iload_n 0, 1) := by decide +kernel
theorem d_NC_holds_1 : decode b_NC_holds 1 = .ok (.iload_n 1, 1) := by decide +kernel
theorem d_NC_holds_2 : decode b_NC_holds 2 = .ok (.iushr, 1) := by decide +kernel
theorem d_NC_holds_3 : decode b_NC_holds 3 = .ok (.iconst 1, 1) := by decide +kernel
theorem d_NC_holds_4 : decode b_NC_holds 4 = .ok (.iand, 1) := by decide +kernel
theorem d_NC_holds_5 : decode b_NC_holds 5 = .ok (.ifCond .eq 7, 3) := by decide +kernel
theorem d_NC_holds_8 : decode b_NC_holds 8 = .ok (.iconst 1, 1) := by decide +kernel
theorem d_NC_holds_9 : decode b_NC_holds 9 = .ok (.goto 4, 3) := by decide +kernel
theorem d_NC_holds_12 : decode b_NC_holds 12 = .ok (.iconst 0, 1) := by decide +kernel
theorem d_NC_holds_13 : decode b_NC_holds 13 = .ok (.ireturn, 1) := by decide +kernel
theorem d_NC_leastOf_0 : decode b_NC_leastOf 0 = .ok (.iload_n 0, 1) := by decide +kernel
theorem d_NC_leastOf_1 : decode b_NC_leastOf 1 = .ok (.iload_n 0, 1) := by decide +kernel
theorem d_NC_leastOf_2 : decode b_NC_leastOf 2 = .ok (.ineg, 1) := by decide +kernel
theorem d_NC_leastOf_3 : decode b_NC_leastOf 3 = .ok (.iand, 1) := by decide +kernel
theorem d_NC_leastOf_4 : decode b_NC_leastOf 4 = .ok (.ireturn, 1) := by decide +kernel
theorem d_NC_memberAt_0 : decode b_NC_memberAt 0 = .ok (.iconst 0, 1) := by decide +kernel
theorem d_NC_memberAt_1 : decode b_NC_memberAt 1 = .ok (.istore_n 2, 1) := by decide +kernel
theorem d_NC_memberAt_2 : decode b_NC_memberAt 2 = .ok (.iconst 0, 1) := by decide +kernel
theorem d_NC_memberAt_3 : decode b_NC_memberAt 3 = .ok (.istore_n 3, 1) := by decide +kernel
theorem d_NC_memberAt_4 : decode b_NC_memberAt 4 = .ok (.iload_n 3, 1) := by decide +kernel
theorem d_NC_memberAt_5 : decode b_NC_memberAt 5 = .ok (.bipush 32, 2) := by decide +kernel
theorem d_NC_memberAt_7 : decode b_NC_memberAt 7 = .ok (.if_icmp .ge 27, 3) := by decide +kernel
theorem d_NC_memberAt_10 : decode b_NC_memberAt 10 = .ok (.iload_n 0, 1) := by decide +kernel
theorem d_NC_memberAt_11 : decode b_NC_memberAt 11 = .ok (.iload_n 3, 1) := by decide +kernel
theorem d_NC_memberAt_12 : decode b_NC_memberAt 12 = .ok (.invokestatic 126, 3) := by decide +kernel
theorem d_NC_memberAt_15 : decode b_NC_memberAt 15 = .ok (.ifCond .eq 13, 3) := by decide +kernel
theorem d_NC_memberAt_18 : decode b_NC_memberAt 18 = .ok (.iload_n 2, 1) := by decide +kernel
theorem d_NC_memberAt_19 : decode b_NC_memberAt 19 = .ok (.iload_n 1, 1) := by decide +kernel
theorem d_NC_memberAt_20 : decode b_NC_memberAt 20 = .ok (.if_icmp .ne 5, 3) := by decide +kernel
theorem d_NC_memberAt_23 : decode b_NC_memberAt 23 = .ok (.iload_n 3, 1) := by decide +kernel
theorem d_NC_memberAt_24 : decode b_NC_memberAt 24 = .ok (.ireturn, 1) := by decide +kernel
theorem d_NC_memberAt_25 : decode b_NC_memberAt 25 = .ok (.iinc 2 1, 3) := by decide +kernel
theorem d_NC_memberAt_28 : decode b_NC_memberAt 28 = .ok (.iinc 3 1, 3) := by decide +kernel
theorem d_NC_memberAt_31 : decode b_NC_memberAt 31 = .ok (.goto (-27), 3) := by decide +kernel
theorem d_NC_memberAt_34 : decode b_NC_memberAt 34 = .ok (.iconst (-1), 1) := by decide +kernel
theorem d_NC_memberAt_35 : decode b_NC_memberAt 35 = .ok (.ireturn, 1) := by decide +kernel
theorem d_NC_leadersOf_0 : decode b_NC_leadersOf 0 = .ok (.iconst 0, 1) := by decide +kernel
theorem d_NC_leadersOf_1 : decode b_NC_leadersOf 1 = .ok (.istore_n 2, 1) := by decide +kernel
theorem d_NC_leadersOf_2 : decode b_NC_leadersOf 2 = .ok (.iconst 0, 1) := by decide +kernel
theorem d_NC_leadersOf_3 : decode b_NC_leadersOf 3 = .ok (.istore_n 3, 1) := by decide +kernel
theorem d_NC_leadersOf_4 : decode b_NC_leadersOf 4 = .ok (.iload_n 3, 1) := by decide +kernel
theorem d_NC_leadersOf_5 : decode b_NC_leadersOf 5 = .ok (.aload_n 0, 1) := by decide +kernel
theorem d_NC_leadersOf_6 : decode b_NC_leadersOf 6 = .ok (.getfield 10, 3) := by decide +kernel
theorem d_NC_leadersOf_9 : decode b_NC_leadersOf 9 = .ok (.getfield 165, 3) := by decide +kernel
theorem d_NC_leadersOf_12 : decode b_NC_leadersOf 12 = .ok (.if_icmp .ge 76, 3) := by decide +kernel
theorem d_NC_leadersOf_15 : decode b_NC_leadersOf 15 = .ok (.iload_n 1, 1) := by decide +kernel
theorem d_NC_leadersOf_16 : decode b_NC_leadersOf 16 = .ok (.iload_n 3, 1) := by decide +kernel
theorem d_NC_leadersOf_17 : decode b_NC_leadersOf 17 = .ok (.invokestatic 126, 3) := by decide +kernel
theorem d_NC_leadersOf_20 : decode b_NC_leadersOf 20 = .ok (.istore 4, 2) := by decide +kernel
theorem d_NC_leadersOf_22 : decode b_NC_leadersOf 22 = .ok (.iconst 0, 1) := by decide +kernel
theorem d_NC_leadersOf_23 : decode b_NC_leadersOf 23 = .ok (.istore 5, 2) := by decide +kernel
theorem d_NC_leadersOf_25 : decode b_NC_leadersOf 25 = .ok (.iload 4, 2) := by decide +kernel
theorem d_NC_leadersOf_27 : decode b_NC_leadersOf 27 = .ok (.ifCond .eq 44, 3) := by decide +kernel
theorem d_NC_leadersOf_30 : decode b_NC_leadersOf 30 = .ok (.iload 5, 2) := by decide +kernel
theorem d_NC_leadersOf_32 : decode b_NC_leadersOf 32 = .ok (.iload_n 3, 1) := by decide +kernel
theorem d_NC_leadersOf_33 : decode b_NC_leadersOf 33 = .ok (.if_icmp .ge 38, 3) := by decide +kernel
theorem d_NC_leadersOf_36 : decode b_NC_leadersOf 36 = .ok (.iload_n 2, 1) := by decide +kernel
theorem d_NC_leadersOf_37 : decode b_NC_leadersOf 37 = .ok (.iload 5, 2) := by decide +kernel
theorem d_NC_leadersOf_39 : decode b_NC_leadersOf 39 = .ok (.invokestatic 126, 3) := by decide +kernel
theorem d_NC_leadersOf_42 : decode b_NC_leadersOf 42 = .ok (.ifCond .eq 16, 3) := by decide +kernel
theorem d_NC_leadersOf_45 : decode b_NC_leadersOf 45 = .ok (.aload_n 0, 1) := by decide +kernel
theorem d_NC_leadersOf_46 : decode b_NC_leadersOf 46 = .ok (.getfield 10, 3) := by decide +kernel
theorem d_NC_leadersOf_49 : decode b_NC_leadersOf 49 = .ok (.iload 5, 2) := by decide +kernel
theorem d_NC_leadersOf_51 : decode b_NC_leadersOf 51 = .ok (.iload_n 3, 1) := by decide +kernel
theorem d_NC_leadersOf_52 : decode b_NC_leadersOf 52 = .ok (.invokevirtual 107, 3) := by decide +kernel
theorem d_NC_leadersOf_55 : decode b_NC_leadersOf 55 = .ok (.ifCond .ne 7, 3) := by decide +kernel
theorem d_NC_leadersOf_58 : decode b_NC_leadersOf 58 = .ok (.iconst 1, 1) := by decide +kernel
theorem d_NC_leadersOf_59 : decode b_NC_leadersOf 59 = .ok (.goto 4, 3) := by decide +kernel
theorem d_NC_leadersOf_62 : decode b_NC_leadersOf 62 = .ok (.iconst 0, 1) := by decide +kernel
theorem d_NC_leadersOf_63 : decode b_NC_leadersOf 63 = .ok (.istore 4, 2) := by decide +kernel
theorem d_NC_leadersOf_65 : decode b_NC_leadersOf 65 = .ok (.iinc 5 1, 3) := by decide +kernel
theorem d_NC_leadersOf_68 : decode b_NC_leadersOf 68 = .ok (.goto (-43), 3) := by decide +kernel
theorem d_NC_leadersOf_71 : decode b_NC_leadersOf 71 = .ok (.iload 4, 2) := by decide +kernel
theorem d_NC_leadersOf_73 : decode b_NC_leadersOf 73 = .ok (.ifCond .eq 9, 3) := by decide +kernel
theorem d_NC_leadersOf_76 : decode b_NC_leadersOf 76 = .ok (.iload_n 2, 1) := by decide +kernel
theorem d_NC_leadersOf_77 : decode b_NC_leadersOf 77 = .ok (.iconst 1, 1) := by decide +kernel
theorem d_NC_leadersOf_78 : decode b_NC_leadersOf 78 = .ok (.iload_n 3, 1) := by decide +kernel
theorem d_NC_leadersOf_79 : decode b_NC_leadersOf 79 = .ok (.ishl, 1) := by decide +kernel
theorem d_NC_leadersOf_80 : decode b_NC_leadersOf 80 = .ok (.ior, 1) := by decide +kernel
theorem d_NC_leadersOf_81 : decode b_NC_leadersOf 81 = .ok (.istore_n 2, 1) := by decide +kernel
theorem d_NC_leadersOf_82 : decode b_NC_leadersOf 82 = .ok (.iinc 3 1, 3) := by decide +kernel
theorem d_NC_leadersOf_85 : decode b_NC_leadersOf 85 = .ok (.goto (-81), 3) := by decide +kernel
theorem d_NC_leadersOf_88 : decode b_NC_leadersOf 88 = .ok (.iload_n 2, 1) := by decide +kernel
theorem d_NC_leadersOf_89 : decode b_NC_leadersOf 89 = .ok (.ireturn, 1) := by decide +kernel
theorem d_NC_groupAt_0 : decode b_NC_groupAt 0 = .ok (.aload_n 0, 1) := by decide +kernel
theorem d_NC_groupAt_1 : decode b_NC_groupAt 1 = .ok (.aload_n 0, 1) := by decide +kernel
theorem d_NC_groupAt_2 : decode b_NC_groupAt 2 = .ok (.getfield 53, 3) := by decide +kernel
theorem d_NC_groupAt_5 : decode b_NC_groupAt 5 = .ok (.invokevirtual 151, 3) := by decide +kernel
theorem d_NC_groupAt_8 : decode b_NC_groupAt 8 = .ok (.iload_n 1, 1) := by decide +kernel
theorem d_NC_groupAt_9 : decode b_NC_groupAt 9 = .ok (.invokestatic 162, 3) := by decide +kernel
theorem d_NC_groupAt_12 : decode b_NC_groupAt 12 = .ok (.istore_n 2, 1) := by decide +kernel
theorem d_NC_groupAt_13 : decode b_NC_groupAt 13 = .ok (.iload_n 2, 1) := by decide +kernel
theorem d_NC_groupAt_14 : decode b_NC_groupAt 14 = .ok (.iconst (-1), 1) := by decide +kernel
theorem d_NC_groupAt_15 : decode b_NC_groupAt 15 = .ok (.if_icmp .ne 5, 3) := by decide +kernel
theorem d_NC_groupAt_18 : decode b_NC_groupAt 18 = .ok (.iconst 0, 1) := by decide +kernel
theorem d_NC_groupAt_19 : decode b_NC_groupAt 19 = .ok (.ireturn, 1) := by decide +kernel
theorem d_NC_groupAt_20 : decode b_NC_groupAt 20 = .ok (.iconst 1, 1) := by decide +kernel
theorem d_NC_groupAt_21 : decode b_NC_groupAt 21 = .ok (.iload_n 2, 1) := by decide +kernel
theorem d_NC_groupAt_22 : decode b_NC_groupAt 22 = .ok (.ishl, 1) := by decide +kernel
theorem d_NC_groupAt_23 : decode b_NC_groupAt 23 = .ok (.istore_n 3, 1) := by decide +kernel
theorem d_NC_groupAt_24 : decode b_NC_groupAt 24 = .ok (.iconst 0, 1) := by decide +kernel
theorem d_NC_groupAt_25 : decode b_NC_groupAt 25 = .ok (.istore 4, 2) := by decide +kernel
theorem d_NC_groupAt_27 : decode b_NC_groupAt 27 = .ok (.iload 4, 2) := by decide +kernel
theorem d_NC_groupAt_29 : decode b_NC_groupAt 29 = .ok (.aload_n 0, 1) := by decide +kernel
theorem d_NC_groupAt_30 : decode b_NC_groupAt 30 = .ok (.getfield 10, 3) := by decide +kernel
theorem d_NC_groupAt_33 : decode b_NC_groupAt 33 = .ok (.getfield 165, 3) := by decide +kernel
theorem d_NC_groupAt_36 : decode b_NC_groupAt 36 = .ok (.if_icmp .ge 41, 3) := by decide +kernel
theorem d_NC_groupAt_39 : decode b_NC_groupAt 39 = .ok (.aload_n 0, 1) := by decide +kernel
theorem d_NC_groupAt_40 : decode b_NC_groupAt 40 = .ok (.getfield 53, 3) := by decide +kernel
theorem d_NC_groupAt_43 : decode b_NC_groupAt 43 = .ok (.iload 4, 2) := by decide +kernel
theorem d_NC_groupAt_45 : decode b_NC_groupAt 45 = .ok (.invokestatic 126, 3) := by decide +kernel
theorem d_NC_groupAt_48 : decode b_NC_groupAt 48 = .ok (.ifCond .eq 23, 3) := by decide +kernel
theorem d_NC_groupAt_51 : decode b_NC_groupAt 51 = .ok (.aload_n 0, 1) := by decide +kernel
theorem d_NC_groupAt_52 : decode b_NC_groupAt 52 = .ok (.getfield 10, 3) := by decide +kernel
theorem d_NC_groupAt_55 : decode b_NC_groupAt 55 = .ok (.iload_n 2, 1) := by decide +kernel
theorem d_NC_groupAt_56 : decode b_NC_groupAt 56 = .ok (.iload 4, 2) := by decide +kernel
theorem d_NC_groupAt_58 : decode b_NC_groupAt 58 = .ok (.invokevirtual 107, 3) := by decide +kernel
theorem d_NC_groupAt_61 : decode b_NC_groupAt 61 = .ok (.ifCond .eq 10, 3) := by decide +kernel
theorem d_NC_groupAt_64 : decode b_NC_groupAt 64 = .ok (.iload_n 3, 1) := by decide +kernel
theorem d_NC_groupAt_65 : decode b_NC_groupAt 65 = .ok (.iconst 1, 1) := by decide +kernel
theorem d_NC_groupAt_66 : decode b_NC_groupAt 66 = .ok (.iload 4, 2) := by decide +kernel
theorem d_NC_groupAt_68 : decode b_NC_groupAt 68 = .ok (.ishl, 1) := by decide +kernel
theorem d_NC_groupAt_69 : decode b_NC_groupAt 69 = .ok (.ior, 1) := by decide +kernel
theorem d_NC_groupAt_70 : decode b_NC_groupAt 70 = .ok (.istore_n 3, 1) := by decide +kernel
theorem d_NC_groupAt_71 : decode b_NC_groupAt 71 = .ok (.iinc 4 1, 3) := by decide +kernel
theorem d_NC_groupAt_74 : decode b_NC_groupAt 74 = .ok (.goto (-47), 3) := by decide +kernel
theorem d_NC_groupAt_77 : decode b_NC_groupAt 77 = .ok (.iload_n 3, 1) := by decide +kernel
theorem d_NC_groupAt_78 : decode b_NC_groupAt 78 = .ok (.ireturn, 1) := by decide +kernel
theorem d_NC_tell_0 : decode b_NC_tell 0 = .ok (.aload_n 0, 1) := by decide +kernel
theorem d_NC_tell_1 : decode b_NC_tell 1 = .ok (.iload_n 1, 1) := by decide +kernel
theorem d_NC_tell_2 : decode b_NC_tell 2 = .ok (.putfield 59, 3) := by decide +kernel
theorem d_NC_tell_5 : decode b_NC_tell 5 = .ok (.aload_n 0, 1) := by decide +kernel
theorem d_NC_tell_6 : decode b_NC_tell 6 = .ok (.iload_n 2, 1) := by decide +kernel
theorem d_NC_tell_7 : decode b_NC_tell 7 = .ok (.putfield 62, 3) := by decide +kernel
theorem d_NC_tell_10 : decode b_NC_tell 10 = .ok (.aload_n 0, 1) := by decide +kernel
theorem d_NC_tell_11 : decode b_NC_tell 11 = .ok (.iload_n 3, 1) := by decide +kernel
theorem d_NC_tell_12 : decode b_NC_tell 12 = .ok (.putfield 65, 3) := by decide +kernel
theorem d_NC_tell_15 : decode b_NC_tell 15 = .ok (.return_, 1) := by decide +kernel
theorem d_NC_refuseRow_0 : decode b_NC_refuseRow 0 = .ok (.aload_n 0, 1) := by decide +kernel
theorem d_NC_refuseRow_1 : decode b_NC_refuseRow 1 = .ok (.iconst 0, 1) := by decide +kernel
theorem d_NC_refuseRow_2 : decode b_NC_refuseRow 2 = .ok (.putfield 20, 3) := by decide +kernel
theorem d_NC_refuseRow_5 : decode b_NC_refuseRow 5 = .ok (.aload_n 0, 1) := by decide +kernel
theorem d_NC_refuseRow_6 : decode b_NC_refuseRow 6 = .ok (.iconst (-1), 1) := by decide +kernel
theorem d_NC_refuseRow_7 : decode b_NC_refuseRow 7 = .ok (.iload_n 1, 1) := by decide +kernel
theorem d_NC_refuseRow_8 : decode b_NC_refuseRow 8 = .ok (.iconst (-1), 1) := by decide +kernel
theorem d_NC_refuseRow_9 : decode b_NC_refuseRow 9 = .ok (.invokevirtual 141, 3) := by decide +kernel
theorem d_NC_refuseRow_12 : decode b_NC_refuseRow 12 = .ok (.bipush (-11), 2) := by decide +kernel
theorem d_NC_refuseRow_14 : decode b_NC_refuseRow 14 = .ok (.ireturn, 1) := by decide +kernel
theorem d_NC_bestOf_0 : decode b_NC_bestOf 0 = .ok (.iconst 0, 1) := by decide +kernel
theorem d_NC_bestOf_1 : decode b_NC_bestOf 1 = .ok (.istore_n 2, 1) := by decide +kernel
theorem d_NC_bestOf_2 : decode b_NC_bestOf 2 = .ok (.ldc 225, 2) := by decide +kernel
theorem d_NC_bestOf_4 : decode b_NC_bestOf 4 = .ok (.istore_n 3, 1) := by decide +kernel
theorem d_NC_bestOf_5 : decode b_NC_bestOf 5 = .ok (.iconst 0, 1) := by decide +kernel
theorem d_NC_bestOf_6 : decode b_NC_bestOf 6 = .ok (.istore 4, 2) := by decide +kernel
theorem d_NC_bestOf_8 : decode b_NC_bestOf 8 = .ok (.iload 4, 2) := by decide +kernel
theorem d_NC_bestOf_10 : decode b_NC_bestOf 10 = .ok (.aload_n 0, 1) := by decide +kernel
theorem d_NC_bestOf_11 : decode b_NC_bestOf 11 = .ok (.getfield 10, 3) := by decide +kernel
theorem d_NC_bestOf_14 : decode b_NC_bestOf 14 = .ok (.getfield 165, 3) := by decide +kernel
theorem d_NC_bestOf_17 : decode b_NC_bestOf 17 = .ok (.if_icmp .ge 53, 3) := by decide +kernel
theorem d_NC_bestOf_20 : decode b_NC_bestOf 20 = .ok (.iload_n 1, 1) := by decide +kernel
theorem d_NC_bestOf_21 : decode b_NC_bestOf 21 = .ok (.iload 4, 2) := by decide +kernel
theorem d_NC_bestOf_23 : decode b_NC_bestOf 23 = .ok (.invokestatic 126, 3) := by decide +kernel
theorem d_NC_bestOf_26 : decode b_NC_bestOf 26 = .ok (.ifCond .eq 38, 3) := by decide +kernel
theorem d_NC_bestOf_29 : decode b_NC_bestOf 29 = .ok (.aload_n 0, 1) := by decide +kernel
theorem d_NC_bestOf_30 : decode b_NC_bestOf 30 = .ok (.getfield 10, 3) := by decide +kernel
theorem d_NC_bestOf_33 : decode b_NC_bestOf 33 = .ok (.iload 4, 2) := by decide +kernel
theorem d_NC_bestOf_35 : decode b_NC_bestOf 35 = .ok (.invokevirtual 103, 3) := by decide +kernel
theorem d_NC_bestOf_38 : decode b_NC_bestOf 38 = .ok (.istore 5, 2) := by decide +kernel
theorem d_NC_bestOf_40 : decode b_NC_bestOf 40 = .ok (.iload 5, 2) := by decide +kernel
theorem d_NC_bestOf_42 : decode b_NC_bestOf 42 = .ok (.iload_n 3, 1) := by decide +kernel
theorem d_NC_bestOf_43 : decode b_NC_bestOf 43 = .ok (.if_icmp .le 8, 3) := by decide +kernel
theorem d_NC_bestOf_46 : decode b_NC_bestOf 46 = .ok (.iload 5, 2) := by decide +kernel
theorem d_NC_bestOf_48 : decode b_NC_bestOf 48 = .ok (.istore_n 3, 1) := by decide +kernel
theorem d_NC_bestOf_49 : decode b_NC_bestOf 49 = .ok (.iconst 0, 1) := by decide +kernel
theorem d_NC_bestOf_50 : decode b_NC_bestOf 50 = .ok (.istore_n 2, 1) := by decide +kernel
theorem d_NC_bestOf_51 : decode b_NC_bestOf 51 = .ok (.iload 5, 2) := by decide +kernel
theorem d_NC_bestOf_53 : decode b_NC_bestOf 53 = .ok (.iload_n 3, 1) := by decide +kernel
theorem d_NC_bestOf_54 : decode b_NC_bestOf 54 = .ok (.if_icmp .ne 10, 3) := by decide +kernel
theorem d_NC_bestOf_57 : decode b_NC_bestOf 57 = .ok (.iload_n 2, 1) := by decide +kernel
theorem d_NC_bestOf_58 : decode b_NC_bestOf 58 = .ok (.iconst 1, 1) := by decide +kernel
theorem d_NC_bestOf_59 : decode b_NC_bestOf 59 = .ok (.iload 4, 2) := by decide +kernel
theorem d_NC_bestOf_61 : decode b_NC_bestOf 61 = .ok (.ishl, 1) := by decide +kernel
theorem d_NC_bestOf_62 : decode b_NC_bestOf 62 = .ok (.ior, 1) := by decide +kernel
theorem d_NC_bestOf_63 : decode b_NC_bestOf 63 = .ok (.istore_n 2, 1) := by decide +kernel
theorem d_NC_bestOf_64 : decode b_NC_bestOf 64 = .ok (.iinc 4 1, 3) := by decide +kernel
theorem d_NC_bestOf_67 : decode b_NC_bestOf 67 = .ok (.goto (-59), 3) := by decide +kernel
theorem d_NC_bestOf_70 : decode b_NC_bestOf 70 = .ok (.iload_n 2, 1) := by decide +kernel
theorem d_NC_bestOf_71 : decode b_NC_bestOf 71 = .ok (.ireturn, 1) := by decide +kernel
theorem d_NC_fittingSet_0 : decode b_NC_fittingSet 0 = .ok (.aload_n 1, 1) := by decide +kernel
theorem d_NC_fittingSet_1 : decode b_NC_fittingSet 1 = .ok (.iload_n 2, 1) := by decide +kernel
theorem d_NC_fittingSet_2 : decode b_NC_fittingSet 2 = .ok (.invokevirtual 226, 3) := by decide +kernel
theorem d_NC_fittingSet_5 : decode b_NC_fittingSet 5 = .ok (.istore 4, 2) := by decide +kernel
theorem d_NC_fittingSet_7 : decode b_NC_fittingSet 7 = .ok (.aload_n 1, 1) := by decide +kernel
theorem d_NC_fittingSet_8 : decode b_NC_fittingSet 8 = .ok (.iload_n 2, 1) := by decide +kernel
theorem d_NC_fittingSet_9 : decode b_NC_fittingSet 9 = .ok (.invokevirtual 229, 3) := by decide +kernel
theorem d_NC_fittingSet_12 : decode b_NC_fittingSet 12 = .ok (.istore 5, 2) := by decide +kernel
theorem d_NC_fittingSet_14 : decode b_NC_fittingSet 14 = .ok (.iconst 0, 1) := by decide +kernel
theorem d_NC_fittingSet_15 : decode b_NC_fittingSet 15 = .ok (.istore 6, 2) := by decide +kernel
theorem d_NC_fittingSet_17 : decode b_NC_fittingSet 17 = .ok (.iconst 0, 1) := by decide +kernel
theorem d_NC_fittingSet_18 : decode b_NC_fittingSet 18 = .ok (.istore 7, 2) := by decide +kernel
theorem d_NC_fittingSet_20 : decode b_NC_fittingSet 20 = .ok (.iload 7, 2) := by decide +kernel
theorem d_NC_fittingSet_22 : decode b_NC_fittingSet 22 = .ok (.aload_n 0, 1) := by decide +kernel
theorem d_NC_fittingSet_23 : decode b_NC_fittingSet 23 = .ok (.getfield 10, 3) := by decide +kernel
theorem d_NC_fittingSet_26 : decode b_NC_fittingSet 26 = .ok (.getfield 165, 3) := by decide +kernel
theorem d_NC_fittingSet_29 : decode b_NC_fittingSet 29 = .ok (.if_icmp .ge 36, 3) := by decide +kernel
theorem d_NC_fittingSet_32 : decode b_NC_fittingSet 32 = .ok (.aload_n 0, 1) := by decide +kernel
theorem d_NC_fittingSet_33 : decode b_NC_fittingSet 33 = .ok (.getfield 10, 3) := by decide +kernel
theorem d_NC_fittingSet_36 : decode b_NC_fittingSet 36 = .ok (.iload 7, 2) := by decide +kernel
theorem d_NC_fittingSet_38 : decode b_NC_fittingSet 38 = .ok (.iload 4, 2) := by decide +kernel
theorem d_NC_fittingSet_40 : decode b_NC_fittingSet 40 = .ok (.iload 5, 2) := by decide +kernel
theorem d_NC_fittingSet_42 : decode b_NC_fittingSet 42 = .ok (.invokevirtual 232, 3) := by decide +kernel
theorem d_NC_fittingSet_45 : decode b_NC_fittingSet 45 = .ok (.iload_n 3, 1) := by decide +kernel
theorem d_NC_fittingSet_46 : decode b_NC_fittingSet 46 = .ok (.iand, 1) := by decide +kernel
theorem d_NC_fittingSet_47 : decode b_NC_fittingSet 47 = .ok (.ifCond .eq 12, 3) := by decide +kernel
theorem d_NC_fittingSet_50 : decode b_NC_fittingSet 50 = .ok (.iload 6, 2) := by decide +kernel
theorem d_NC_fittingSet_52 : decode b_NC_fittingSet 52 = .ok (.iconst 1, 1) := by decide +kernel
theorem d_NC_fittingSet_53 : decode b_NC_fittingSet 53 = .ok (.iload 7, 2) := by decide +kernel
theorem d_NC_fittingSet_55 : decode b_NC_fittingSet 55 = .ok (.ishl, 1) := by decide +kernel
theorem d_NC_fittingSet_56 : decode b_NC_fittingSet 56 = .ok (.ior, 1) := by decide +kernel
theorem d_NC_fittingSet_57 : decode b_NC_fittingSet 57 = .ok (.istore 6, 2) := by decide +kernel
theorem d_NC_fittingSet_59 : decode b_NC_fittingSet 59 = .ok (.iinc 7 1, 3) := by decide +kernel
theorem d_NC_fittingSet_62 : decode b_NC_fittingSet 62 = .ok (.goto (-42), 3) := by decide +kernel
theorem d_NC_fittingSet_65 : decode b_NC_fittingSet 65 = .ok (.aload_n 1, 1) := by decide +kernel
theorem d_NC_fittingSet_66 : decode b_NC_fittingSet 66 = .ok (.iload_n 2, 1) := by decide +kernel
theorem d_NC_fittingSet_67 : decode b_NC_fittingSet 67 = .ok (.bipush 32, 2) := by decide +kernel
theorem d_NC_fittingSet_69 : decode b_NC_fittingSet 69 = .ok (.invokevirtual 222, 3) := by decide +kernel
theorem d_NC_fittingSet_72 : decode b_NC_fittingSet 72 = .ok (.ifCond .eq 16, 3) := by decide +kernel
theorem d_NC_fittingSet_75 : decode b_NC_fittingSet 75 = .ok (.iload 6, 2) := by decide +kernel
theorem d_NC_fittingSet_77 : decode b_NC_fittingSet 77 = .ok (.aload_n 0, 1) := by decide +kernel
theorem d_NC_fittingSet_78 : decode b_NC_fittingSet 78 = .ok (.getfield 10, 3) := by decide +kernel
theorem d_NC_fittingSet_81 : decode b_NC_fittingSet 81 = .ok (.iconst 2, 1) := by decide +kernel
theorem d_NC_fittingSet_82 : decode b_NC_fittingSet 82 = .ok (.invokevirtual 171, 3) := by decide +kernel
theorem d_NC_fittingSet_85 : decode b_NC_fittingSet 85 = .ok (.iand, 1) := by decide +kernel
theorem d_NC_fittingSet_86 : decode b_NC_fittingSet 86 = .ok (.istore 6, 2) := by decide +kernel
theorem d_NC_fittingSet_88 : decode b_NC_fittingSet 88 = .ok (.aload_n 1, 1) := by decide +kernel
theorem d_NC_fittingSet_89 : decode b_NC_fittingSet 89 = .ok (.iload_n 2, 1) := by decide +kernel
theorem d_NC_fittingSet_90 : decode b_NC_fittingSet 90 = .ok (.bipush 33, 2) := by decide +kernel
theorem d_NC_fittingSet_92 : decode b_NC_fittingSet 92 = .ok (.invokevirtual 222, 3) := by decide +kernel
theorem d_NC_fittingSet_95 : decode b_NC_fittingSet 95 = .ok (.ifCond .eq 17, 3) := by decide +kernel
theorem d_NC_fittingSet_98 : decode b_NC_fittingSet 98 = .ok (.iload 6, 2) := by decide +kernel
theorem d_NC_fittingSet_100 : decode b_NC_fittingSet 100 = .ok (.aload_n 0, 1) := by decide +kernel
theorem d_NC_fittingSet_101 : decode b_NC_fittingSet 101 = .ok (.getfield 43, 3) := by decide +kernel
theorem d_NC_fittingSet_104 : decode b_NC_fittingSet 104 = .ok (.getfield 235, 3) := by decide +kernel
theorem d_NC_fittingSet_107 : decode b_NC_fittingSet 107 = .ok (.iconst (-1), 1) := by decide +kernel
theorem d_NC_fittingSet_108 : decode b_NC_fittingSet 108 = .ok (.ixor, 1) := by decide +kernel
theorem d_NC_fittingSet_109 : decode b_NC_fittingSet 109 = .ok (.iand, 1) := by decide +kernel
theorem d_NC_fittingSet_110 : decode b_NC_fittingSet 110 = .ok (.istore 6, 2) := by decide +kernel
theorem d_NC_fittingSet_112 : decode b_NC_fittingSet 112 = .ok (.iload 6, 2) := by decide +kernel
theorem d_NC_fittingSet_114 : decode b_NC_fittingSet 114 = .ok (.ireturn, 1) := by decide +kernel
theorem d_NC_replyFault_0 : decode b_NC_replyFault 0 = .ok (.aload_n 0, 1) := by decide +kernel
theorem d_NC_replyFault_1 : decode b_NC_replyFault 1 = .ok (.getfield 20, 3) := by decide +kernel
theorem d_NC_replyFault_4 : decode b_NC_replyFault 4 = .ok (.ifCond .ne 5, 3) := by decide +kernel
theorem d_NC_replyFault_7 : decode b_NC_replyFault 7 = .ok (.iconst 0, 1) := by decide +kernel
theorem d_NC_replyFault_8 : decode b_NC_replyFault 8 = .ok (.ireturn, 1) := by decide +kernel
theorem d_NC_replyFault_9 : decode b_NC_replyFault 9 = .ok (.aload_n 0, 1) := by decide +kernel
theorem d_NC_replyFault_10 : decode b_NC_replyFault 10 = .ok (.getfield 16, 3) := by decide +kernel
theorem d_NC_replyFault_13 : decode b_NC_replyFault 13 = .ok (.iconst 0, 1) := by decide +kernel
theorem d_NC_replyFault_14 : decode b_NC_replyFault 14 = .ok (.iaload, 1) := by decide +kernel
theorem d_NC_replyFault_15 : decode b_NC_replyFault 15 = .ok (.invokestatic 177, 3) := by decide +kernel
theorem d_NC_replyFault_18 : decode b_NC_replyFault 18 = .ok (.ifCond .eq 17, 3) := by decide +kernel
theorem d_NC_replyFault_21 : decode b_NC_replyFault 21 = .ok (.aload_n 0, 1) := by decide +kernel
theorem d_NC_replyFault_22 : decode b_NC_replyFault 22 = .ok (.getfield 20, 3) := by decide +kernel
theorem d_NC_replyFault_25 : decode b_NC_replyFault 25 = .ok (.iconst 1, 1) := by decide +kernel
theorem d_NC_replyFault_26 : decode b_NC_replyFault 26 = .ok (.if_icmp .ne 7, 3) := by decide +kernel
theorem d_NC_replyFault_29 : decode b_NC_replyFault 29 = .ok (.iconst (-1), 1) := by decide +kernel
theorem d_NC_replyFault_30 : decode b_NC_replyFault 30 = .ok (.goto 4, 3) := by decide +kernel
theorem d_NC_replyFault_33 : decode b_NC_replyFault 33 = .ok (.iconst 1, 1) := by decide +kernel
theorem d_NC_replyFault_34 : decode b_NC_replyFault 34 = .ok (.ireturn, 1) := by decide +kernel
theorem d_NC_replyFault_35 : decode b_NC_replyFault 35 = .ok (.iconst 0, 1) := by decide +kernel
theorem d_NC_replyFault_36 : decode b_NC_replyFault 36 = .ok (.istore_n 1, 1) := by decide +kernel
theorem d_NC_replyFault_37 : decode b_NC_replyFault 37 = .ok (.iload_n 1, 1) := by decide +kernel
theorem d_NC_replyFault_38 : decode b_NC_replyFault 38 = .ok (.aload_n 0, 1) := by decide +kernel
theorem d_NC_replyFault_39 : decode b_NC_replyFault 39 = .ok (.getfield 20, 3) := by decide +kernel
theorem d_NC_replyFault_42 : decode b_NC_replyFault 42 = .ok (.if_icmp .ge 38, 3) := by decide +kernel
theorem d_NC_replyFault_45 : decode b_NC_replyFault 45 = .ok (.iload_n 1, 1) := by decide +kernel
theorem d_NC_replyFault_46 : decode b_NC_replyFault 46 = .ok (.aload_n 0, 1) := by decide +kernel
theorem d_NC_replyFault_47 : decode b_NC_replyFault 47 = .ok (.getfield 16, 3) := by decide +kernel
theorem d_NC_replyFault_50 : decode b_NC_replyFault 50 = .ok (.arraylength, 1) := by decide +kernel
theorem d_NC_replyFault_51 : decode b_NC_replyFault 51 = .ok (.if_icmp .ge 29, 3) := by decide +kernel
theorem d_NC_replyFault_54 : decode b_NC_replyFault 54 = .ok (.iload_n 1, 1) := by decide +kernel
theorem d_NC_replyFault_55 : decode b_NC_replyFault 55 = .ok (.bipush 6, 2) := by decide +kernel
theorem d_NC_replyFault_57 : decode b_NC_replyFault 57 = .ok (.if_icmp .ge 15, 3) := by decide +kernel
theorem d_NC_replyFault_60 : decode b_NC_replyFault 60 = .ok (.aload_n 0, 1) := by decide +kernel
theorem d_NC_replyFault_61 : decode b_NC_replyFault 61 = .ok (.getfield 16, 3) := by decide +kernel
theorem d_NC_replyFault_64 : decode b_NC_replyFault 64 = .ok (.iload_n 1, 1) := by decide +kernel
theorem d_NC_replyFault_65 : decode b_NC_replyFault 65 = .ok (.iaload, 1) := by decide +kernel
theorem d_NC_replyFault_66 : decode b_NC_replyFault 66 = .ok (.invokestatic 238, 3) := by decide +kernel
theorem d_NC_replyFault_69 : decode b_NC_replyFault 69 = .ok (.ifCond .ne 5, 3) := by decide +kernel
theorem d_NC_replyFault_72 : decode b_NC_replyFault 72 = .ok (.iload_n 1, 1) := by decide +kernel
theorem d_NC_replyFault_73 : decode b_NC_replyFault 73 = .ok (.ireturn, 1) := by decide +kernel
theorem d_NC_replyFault_74 : decode b_NC_replyFault 74 = .ok (.iinc 1 1, 3) := by decide +kernel
theorem d_NC_replyFault_77 : decode b_NC_replyFault 77 = .ok (.goto (-40), 3) := by decide +kernel
theorem d_NC_replyFault_80 : decode b_NC_replyFault 80 = .ok (.iconst (-1), 1) := by decide +kernel
theorem d_NC_replyFault_81 : decode b_NC_replyFault 81 = .ok (.ireturn, 1) := by decide +kernel
theorem d_NC_leftByRow_0 : decode b_NC_leftByRow 0 = .ok (.aload_n 0, 1) := by decide +kernel
theorem d_NC_leftByRow_1 : decode b_NC_leftByRow 1 = .ok (.getfield 16, 3) := by decide +kernel
theorem d_NC_leftByRow_4 : decode b_NC_leftByRow 4 = .ok (.iconst 0, 1) := by decide +kernel
theorem d_NC_leftByRow_5 : decode b_NC_leftByRow 5 = .ok (.iaload, 1) := by decide +kernel
theorem d_NC_leftByRow_6 : decode b_NC_leftByRow 6 = .ok (.invokestatic 177, 3) := by decide +kernel
theorem d_NC_leftByRow_9 : decode b_NC_leftByRow 9 = .ok (.ifCond .eq 19, 3) := by decide +kernel
theorem d_NC_leftByRow_12 : decode b_NC_leftByRow 12 = .ok (.aload_n 0, 1) := by decide +kernel
theorem d_NC_leftByRow_13 : decode b_NC_leftByRow 13 = .ok (.aload_n 0, 1) := by decide +kernel
theorem d_NC_leftByRow_14 : decode b_NC_leftByRow 14 = .ok (.getfield 16, 3) := by decide +kernel
theorem d_NC_leftByRow_17 : decode b_NC_leftByRow 17 = .ok (.iconst 0, 1) := by decide +kernel
theorem d_NC_leftByRow_18 : decode b_NC_leftByRow 18 = .ok (.iaload, 1) := by decide +kernel
theorem d_NC_leftByRow_19 : decode b_NC_leftByRow 19 = .ok (.bipush 40, 2) := by decide +kernel
theorem d_NC_leftByRow_21 : decode b_NC_leftByRow 21 = .ok (.isub, 1) := by decide +kernel
theorem d_NC_leftByRow_22 : decode b_NC_leftByRow 22 = .ok (.iconst 1, 1) := by decide +kernel
theorem d_NC_leftByRow_23 : decode b_NC_leftByRow 23 = .ok (.isub, 1) := by decide +kernel
theorem d_NC_leftByRow_24 : decode b_NC_leftByRow 24 = .ok (.invokevirtual 159, 3) := by decide +kernel
theorem d_NC_leftByRow_27 : decode b_NC_leftByRow 27 = .ok (.ireturn, 1) := by decide +kernel
theorem d_NC_leftByRow_28 : decode b_NC_leftByRow 28 = .ok (.iconst 0, 1) := by decide +kernel
theorem d_NC_leftByRow_29 : decode b_NC_leftByRow 29 = .ok (.istore_n 1, 1) := by decide +kernel
theorem d_NC_leftByRow_30 : decode b_NC_leftByRow 30 = .ok (.iconst 0, 1) := by decide +kernel
theorem d_NC_leftByRow_31 : decode b_NC_leftByRow 31 = .ok (.istore_n 2, 1) := by decide +kernel
theorem d_NC_leftByRow_32 : decode b_NC_leftByRow 32 = .ok (.iload_n 2, 1) := by decide +kernel
theorem d_NC_leftByRow_33 : decode b_NC_leftByRow 33 = .ok (.aload_n 0, 1) := by decide +kernel
theorem d_NC_leftByRow_34 : decode b_NC_leftByRow 34 = .ok (.getfield 20, 3) := by decide +kernel
theorem d_NC_leftByRow_37 : decode b_NC_leftByRow 37 = .ok (.if_icmp .ge 29, 3) := by decide +kernel
theorem d_NC_leftByRow_40 : decode b_NC_leftByRow 40 = .ok (.iload_n 2, 1) := by decide +kernel
theorem d_NC_leftByRow_41 : decode b_NC_leftByRow 41 = .ok (.aload_n 0, 1) := by decide +kernel
theorem d_NC_leftByRow_42 : decode b_NC_leftByRow 42 = .ok (.getfield 16, 3) := by decide +kernel
theorem d_NC_leftByRow_45 : decode b_NC_leftByRow 45 = .ok (.arraylength, 1) := by decide +kernel
theorem d_NC_leftByRow_46 : decode b_NC_leftByRow 46 = .ok (.if_icmp .ge 20, 3) := by decide +kernel
theorem d_NC_leftByRow_49 : decode b_NC_leftByRow 49 = .ok (.iload_n 1, 1) := by decide +kernel
theorem d_NC_leftByRow_50 : decode b_NC_leftByRow 50 = .ok (.iconst 1, 1) := by decide +kernel
theorem d_NC_leftByRow_51 : decode b_NC_leftByRow 51 = .ok (.aload_n 0, 1) := by decide +kernel
theorem d_NC_leftByRow_52 : decode b_NC_leftByRow 52 = .ok (.getfield 16, 3) := by decide +kernel
theorem d_NC_leftByRow_55 : decode b_NC_leftByRow 55 = .ok (.iload_n 2, 1) := by decide +kernel
theorem d_NC_leftByRow_56 : decode b_NC_leftByRow 56 = .ok (.iaload, 1) := by decide +kernel
theorem d_NC_leftByRow_57 : decode b_NC_leftByRow 57 = .ok (.ishl, 1) := by decide +kernel
theorem d_NC_leftByRow_58 : decode b_NC_leftByRow 58 = .ok (.ior, 1) := by decide +kernel
theorem d_NC_leftByRow_59 : decode b_NC_leftByRow 59 = .ok (.istore_n 1, 1) := by decide +kernel
theorem d_NC_leftByRow_60 : decode b_NC_leftByRow 60 = .ok (.iinc 2 1, 3) := by decide +kernel
theorem d_NC_leftByRow_63 : decode b_NC_leftByRow 63 = .ok (.goto (-31), 3) := by decide +kernel
theorem d_NC_leftByRow_66 : decode b_NC_leftByRow 66 = .ok (.iconst 0, 1) := by decide +kernel
theorem d_NC_leftByRow_67 : decode b_NC_leftByRow 67 = .ok (.istore_n 2, 1) := by decide +kernel
theorem d_NC_leftByRow_68 : decode b_NC_leftByRow 68 = .ok (.iconst 0, 1) := by decide +kernel
theorem d_NC_leftByRow_69 : decode b_NC_leftByRow 69 = .ok (.istore_n 3, 1) := by decide +kernel
theorem d_NC_leftByRow_70 : decode b_NC_leftByRow 70 = .ok (.iload_n 3, 1) := by decide +kernel
theorem d_NC_leftByRow_71 : decode b_NC_leftByRow 71 = .ok (.aload_n 0, 1) := by decide +kernel
theorem d_NC_leftByRow_72 : decode b_NC_leftByRow 72 = .ok (.getfield 10, 3) := by decide +kernel
theorem d_NC_leftByRow_75 : decode b_NC_leftByRow 75 = .ok (.getfield 165, 3) := by decide +kernel
theorem d_NC_leftByRow_78 : decode b_NC_leftByRow 78 = .ok (.if_icmp .ge 38, 3) := by decide +kernel
theorem d_NC_leftByRow_81 : decode b_NC_leftByRow 81 = .ok (.aload_n 0, 1) := by decide +kernel
theorem d_NC_leftByRow_82 : decode b_NC_leftByRow 82 = .ok (.getfield 53, 3) := by decide +kernel
theorem d_NC_leftByRow_85 : decode b_NC_leftByRow 85 = .ok (.iload_n 3, 1) := by decide +kernel
theorem d_NC_leftByRow_86 : decode b_NC_leftByRow 86 = .ok (.invokestatic 126, 3) := by decide +kernel
theorem d_NC_leftByRow_89 : decode b_NC_leftByRow 89 = .ok (.ifCond .eq 21, 3) := by decide +kernel
theorem d_NC_leftByRow_92 : decode b_NC_leftByRow 92 = .ok (.aload_n 0, 1) := by decide +kernel
theorem d_NC_leftByRow_93 : decode b_NC_leftByRow 93 = .ok (.getfield 10, 3) := by decide +kernel
theorem d_NC_leftByRow_96 : decode b_NC_leftByRow 96 = .ok (.iload_n 3, 1) := by decide +kernel
theorem d_NC_leftByRow_97 : decode b_NC_leftByRow 97 = .ok (.iload_n 1, 1) := by decide +kernel
theorem d_NC_leftByRow_98 : decode b_NC_leftByRow 98 = .ok (.invokevirtual 241, 3) := by decide +kernel
theorem d_NC_leftByRow_101 : decode b_NC_leftByRow 101 = .ok (.ifCond .eq 9, 3) := by decide +kernel
theorem d_NC_leftByRow_104 : decode b_NC_leftByRow 104 = .ok (.iload_n 2, 1) := by decide +kernel
theorem d_NC_leftByRow_105 : decode b_NC_leftByRow 105 = .ok (.iconst 1, 1) := by decide +kernel
theorem d_NC_leftByRow_106 : decode b_NC_leftByRow 106 = .ok (.iload_n 3, 1) := by decide +kernel
theorem d_NC_leftByRow_107 : decode b_NC_leftByRow 107 = .ok (.ishl, 1) := by decide +kernel
theorem d_NC_leftByRow_108 : decode b_NC_leftByRow 108 = .ok (.ior, 1) := by decide +kernel
theorem d_NC_leftByRow_109 : decode b_NC_leftByRow 109 = .ok (.istore_n 2, 1) := by decide +kernel
theorem d_NC_leftByRow_110 : decode b_NC_leftByRow 110 = .ok (.iinc 3 1, 3) := by decide +kernel
theorem d_NC_leftByRow_113 : decode b_NC_leftByRow 113 = .ok (.goto (-43), 3) := by decide +kernel
theorem d_NC_leftByRow_116 : decode b_NC_leftByRow 116 = .ok (.iload_n 2, 1) := by decide +kernel
theorem d_NC_leftByRow_117 : decode b_NC_leftByRow 117 = .ok (.ireturn, 1) := by decide +kernel
theorem d_NC_endAt_0 : decode b_NC_endAt 0 = .ok (.iload_n 2, 1) := by decide +kernel
theorem d_NC_endAt_1 : decode b_NC_endAt 1 = .ok (.iconst 2, 1) := by decide +kernel
theorem d_NC_endAt_2 : decode b_NC_endAt 2 = .ok (.if_icmp .eq 13, 3) := by decide +kernel
theorem d_NC_endAt_5 : decode b_NC_endAt 5 = .ok (.iload_n 2, 1) := by decide +kernel
theorem d_NC_endAt_6 : decode b_NC_endAt 6 = .ok (.iconst 3, 1) := by decide +kernel
theorem d_NC_endAt_7 : decode b_NC_endAt 7 = .ok (.if_icmp .eq 8, 3) := by decide +kernel
theorem d_NC_endAt_10 : decode b_NC_endAt 10 = .ok (.iload_n 2, 1) := by decide +kernel
theorem d_NC_endAt_11 : decode b_NC_endAt 11 = .ok (.iconst 5, 1) := by decide +kernel
theorem d_NC_endAt_12 : decode b_NC_endAt 12 = .ok (.if_icmp .ne 7, 3) := by decide +kernel
theorem d_NC_endAt_15 : decode b_NC_endAt 15 = .ok (.iconst 1, 1) := by decide +kernel
theorem d_NC_endAt_16 : decode b_NC_endAt 16 = .ok (.goto 4, 3) := by decide +kernel
theorem d_NC_endAt_19 : decode b_NC_endAt 19 = .ok (.iconst 0, 1) := by decide +kernel
theorem d_NC_endAt_20 : decode b_NC_endAt 20 = .ok (.istore_n 3, 1) := by decide +kernel
theorem d_NC_endAt_21 : decode b_NC_endAt 21 = .ok (.aload_n 0, 1) := by decide +kernel
theorem d_NC_endAt_22 : decode b_NC_endAt 22 = .ok (.iload_n 1, 1) := by decide +kernel
theorem d_NC_endAt_23 : decode b_NC_endAt 23 = .ok (.iconst (-1), 1) := by decide +kernel
theorem d_NC_endAt_24 : decode b_NC_endAt 24 = .ok (.iload_n 3, 1) := by decide +kernel
theorem d_NC_endAt_25 : decode b_NC_endAt 25 = .ok (.ifCond .eq 7, 3) := by decide +kernel
theorem d_NC_endAt_28 : decode b_NC_endAt 28 = .ok (.iconst 0, 1) := by decide +kernel
theorem d_NC_endAt_29 : decode b_NC_endAt 29 = .ok (.goto 10, 3) := by decide +kernel
theorem d_NC_endAt_32 : decode b_NC_endAt 32 = .ok (.aload_n 0, 1) := by decide +kernel
theorem d_NC_endAt_33 : decode b_NC_endAt 33 = .ok (.getfield 50, 3) := by decide +kernel
theorem d_NC_endAt_36 : decode b_NC_endAt 36 = .ok (.invokestatic 154, 3) := by decide +kernel
theorem d_NC_endAt_39 : decode b_NC_endAt 39 = .ok (.invokevirtual 141, 3) := by decide +kernel
theorem d_NC_endAt_42 : decode b_NC_endAt 42 = .ok (.iload_n 2, 1) := by decide +kernel
theorem d_NC_endAt_43 : decode b_NC_endAt 43 = .ok (.iconst 1, 1) := by decide +kernel
theorem d_NC_endAt_44 : decode b_NC_endAt 44 = .ok (.if_icmp .ne 7, 3) := by decide +kernel
theorem d_NC_endAt_47 : decode b_NC_endAt 47 = .ok (.iconst 0, 1) := by decide +kernel
theorem d_NC_endAt_48 : decode b_NC_endAt 48 = .ok (.goto 7, 3) := by decide +kernel
theorem d_NC_endAt_51 : decode b_NC_endAt 51 = .ok (.bipush (-10), 2) := by decide +kernel
theorem d_NC_endAt_53 : decode b_NC_endAt 53 = .ok (.iload_n 2, 1) := by decide +kernel
theorem d_NC_endAt_54 : decode b_NC_endAt 54 = .ok (.isub, 1) := by decide +kernel
theorem d_NC_endAt_55 : decode b_NC_endAt 55 = .ok (.ireturn, 1) := by decide +kernel
theorem d_NC_takeExceptsAway_0 : decode b_NC_takeExceptsAway 0 = .ok (.aload_n 0, 1) := by decide +kernel
theorem d_NC_takeExceptsAway_1 : decode b_NC_takeExceptsAway 1 = .ok (.getfield 30, 3) := by decide +kernel
theorem d_NC_takeExceptsAway_4 : decode b_NC_takeExceptsAway 4 = .ok (.iload_n 1, 1) := by decide +kernel
theorem d_NC_takeExceptsAway_5 : decode b_NC_takeExceptsAway 5 = .ok (.invokevirtual 210, 3) := by decide +kernel
theorem d_NC_takeExceptsAway_8 : decode b_NC_takeExceptsAway 8 = .ok (.istore_n 2, 1) := by decide +kernel
theorem d_NC_takeExceptsAway_9 : decode b_NC_takeExceptsAway 9 = .ok (.aload_n 0, 1) := by decide +kernel
theorem d_NC_takeExceptsAway_10 : decode b_NC_takeExceptsAway 10 = .ok (.getfield 30, 3) := by decide +kernel
theorem d_NC_takeExceptsAway_13 : decode b_NC_takeExceptsAway 13 = .ok (.iload_n 1, 1) := by decide +kernel
theorem d_NC_takeExceptsAway_14 : decode b_NC_takeExceptsAway 14 = .ok (.invokevirtual 213, 3) := by decide +kernel
theorem d_NC_takeExceptsAway_17 : decode b_NC_takeExceptsAway 17 = .ok (.istore_n 3, 1) := by decide +kernel
theorem d_NC_takeExceptsAway_18 : decode b_NC_takeExceptsAway 18 = .ok (.iload_n 3, 1) := by decide +kernel
theorem d_NC_takeExceptsAway_19 : decode b_NC_takeExceptsAway 19 = .ok (.iload_n 2, 1) := by decide +kernel
theorem d_NC_takeExceptsAway_20 : decode b_NC_takeExceptsAway 20 = .ok (.if_icmp .ge 46, 3) := by decide +kernel
theorem d_NC_takeExceptsAway_23 : decode b_NC_takeExceptsAway 23 = .ok (.aload_n 0, 1) := by decide +kernel
theorem d_NC_takeExceptsAway_24 : decode b_NC_takeExceptsAway 24 = .ok (.getfield 50, 3) := by decide +kernel
theorem d_NC_takeExceptsAway_27 : decode b_NC_takeExceptsAway 27 = .ok (.aload_n 0, 1) := by decide +kernel
theorem d_NC_takeExceptsAway_28 : decode b_NC_takeExceptsAway 28 = .ok (.aload_n 0, 1) := by decide +kernel
theorem d_NC_takeExceptsAway_29 : decode b_NC_takeExceptsAway 29 = .ok (.getfield 30, 3) := by decide +kernel
theorem d_NC_takeExceptsAway_32 : decode b_NC_takeExceptsAway 32 = .ok (.iload_n 3, 1) := by decide +kernel
theorem d_NC_takeExceptsAway_33 : decode b_NC_takeExceptsAway 33 = .ok (.iconst 3, 1) := by decide +kernel
theorem d_NC_takeExceptsAway_34 : decode b_NC_takeExceptsAway 34 = .ok (.invokevirtual 122, 3) := by decide +kernel
theorem d_NC_takeExceptsAway_37 : decode b_NC_takeExceptsAway 37 = .ok (.iand, 1) := by decide +kernel
theorem d_NC_takeExceptsAway_38 : decode b_NC_takeExceptsAway 38 = .ok (.istore 4, 2) := by decide +kernel
theorem d_NC_takeExceptsAway_40 : decode b_NC_takeExceptsAway 40 = .ok (.iload 4, 2) := by decide +kernel
theorem d_NC_takeExceptsAway_42 : decode b_NC_takeExceptsAway 42 = .ok (.ifCond .ne 5, 3) := by decide +kernel
theorem d_NC_takeExceptsAway_45 : decode b_NC_takeExceptsAway 45 = .ok (.iconst 0, 1) := by decide +kernel
theorem d_NC_takeExceptsAway_46 : decode b_NC_takeExceptsAway 46 = .ok (.ireturn, 1) := by decide +kernel
theorem d_NC_takeExceptsAway_47 : decode b_NC_takeExceptsAway 47 = .ok (.aload_n 0, 1) := by decide +kernel
theorem d_NC_takeExceptsAway_48 : decode b_NC_takeExceptsAway 48 = .ok (.dup, 1) := by decide +kernel
theorem d_NC_takeExceptsAway_49 : decode b_NC_takeExceptsAway 49 = .ok (.getfield 50, 3) := by decide +kernel
theorem d_NC_takeExceptsAway_52 : decode b_NC_takeExceptsAway 52 = .ok (.iload 4, 2) := by decide +kernel
theorem d_NC_takeExceptsAway_54 : decode b_NC_takeExceptsAway 54 = .ok (.iconst (-1), 1) := by decide +kernel
theorem d_NC_takeExceptsAway_55 : decode b_NC_takeExceptsAway 55 = .ok (.ixor, 1) := by decide +kernel
theorem d_NC_takeExceptsAway_56 : decode b_NC_takeExceptsAway 56 = .ok (.iand, 1) := by decide +kernel
theorem d_NC_takeExceptsAway_57 : decode b_NC_takeExceptsAway 57 = .ok (.putfield 50, 3) := by decide +kernel
theorem d_NC_takeExceptsAway_60 : decode b_NC_takeExceptsAway 60 = .ok (.iinc 3 1, 3) := by decide +kernel
theorem d_NC_takeExceptsAway_63 : decode b_NC_takeExceptsAway 63 = .ok (.goto (-45), 3) := by decide +kernel
theorem d_NC_takeExceptsAway_66 : decode b_NC_takeExceptsAway 66 = .ok (.iconst 1, 1) := by decide +kernel
theorem d_NC_takeExceptsAway_67 : decode b_NC_takeExceptsAway 67 = .ok (.ireturn, 1) := by decide +kernel
theorem d_NC_giveNumber_0 : decode b_NC_giveNumber 0 = .ok (.aload_n 0, 1) := by decide +kernel
theorem d_NC_giveNumber_1 : decode b_NC_giveNumber 1 = .ok (.getfield 50, 3) := by decide +kernel
theorem d_NC_giveNumber_4 : decode b_NC_giveNumber 4 = .ok (.invokestatic 154, 3) := by decide +kernel
theorem d_NC_giveNumber_7 : decode b_NC_giveNumber 7 = .ok (.iload_n 1, 1) := by decide +kernel
theorem d_NC_giveNumber_8 : decode b_NC_giveNumber 8 = .ok (.if_icmp .ge 6, 3) := by decide +kernel
theorem d_NC_giveNumber_11 : decode b_NC_giveNumber 11 = .ok (.bipush 6, 2) := by decide +kernel
theorem d_NC_giveNumber_13 : decode b_NC_giveNumber 13 = .ok (.ireturn, 1) := by decide +kernel
theorem d_NC_giveNumber_14 : decode b_NC_giveNumber 14 = .ok (.aload_n 0, 1) := by decide +kernel
theorem d_NC_giveNumber_15 : decode b_NC_giveNumber 15 = .ok (.getfield 50, 3) := by decide +kernel
theorem d_NC_giveNumber_18 : decode b_NC_giveNumber 18 = .ok (.istore_n 2, 1) := by decide +kernel
theorem d_NC_giveNumber_19 : decode b_NC_giveNumber 19 = .ok (.iconst 0, 1) := by decide +kernel
theorem d_NC_giveNumber_20 : decode b_NC_giveNumber 20 = .ok (.istore_n 3, 1) := by decide +kernel
theorem d_NC_giveNumber_21 : decode b_NC_giveNumber 21 = .ok (.iload_n 3, 1) := by decide +kernel
theorem d_NC_giveNumber_22 : decode b_NC_giveNumber 22 = .ok (.iload_n 1, 1) := by decide +kernel
theorem d_NC_giveNumber_23 : decode b_NC_giveNumber 23 = .ok (.if_icmp .ge 22, 3) := by decide +kernel
theorem d_NC_giveNumber_26 : decode b_NC_giveNumber 26 = .ok (.iload_n 2, 1) := by decide +kernel
theorem d_NC_giveNumber_27 : decode b_NC_giveNumber 27 = .ok (.aload_n 0, 1) := by decide +kernel
theorem d_NC_giveNumber_28 : decode b_NC_giveNumber 28 = .ok (.iload_n 2, 1) := by decide +kernel
theorem d_NC_giveNumber_29 : decode b_NC_giveNumber 29 = .ok (.invokevirtual 216, 3) := by decide +kernel
theorem d_NC_giveNumber_32 : decode b_NC_giveNumber 32 = .ok (.invokestatic 219, 3) := by decide +kernel
theorem d_NC_giveNumber_35 : decode b_NC_giveNumber 35 = .ok (.iconst (-1), 1) := by decide +kernel
theorem d_NC_giveNumber_36 : decode b_NC_giveNumber 36 = .ok (.ixor, 1) := by decide +kernel
theorem d_NC_giveNumber_37 : decode b_NC_giveNumber 37 = .ok (.iand, 1) := by decide +kernel
theorem d_NC_giveNumber_38 : decode b_NC_giveNumber 38 = .ok (.istore_n 2, 1) := by decide +kernel
theorem d_NC_giveNumber_39 : decode b_NC_giveNumber 39 = .ok (.iinc 3 1, 3) := by decide +kernel
theorem d_NC_giveNumber_42 : decode b_NC_giveNumber 42 = .ok (.goto (-21), 3) := by decide +kernel
theorem d_NC_giveNumber_45 : decode b_NC_giveNumber 45 = .ok (.aload_n 0, 1) := by decide +kernel
theorem d_NC_giveNumber_46 : decode b_NC_giveNumber 46 = .ok (.getfield 47, 3) := by decide +kernel
theorem d_NC_giveNumber_49 : decode b_NC_giveNumber 49 = .ok (.aload_n 0, 1) := by decide +kernel
theorem d_NC_giveNumber_50 : decode b_NC_giveNumber 50 = .ok (.getfield 50, 3) := by decide +kernel
theorem d_NC_giveNumber_53 : decode b_NC_giveNumber 53 = .ok (.iload_n 2, 1) := by decide +kernel
theorem d_NC_giveNumber_54 : decode b_NC_giveNumber 54 = .ok (.iconst (-1), 1) := by decide +kernel
theorem d_NC_giveNumber_55 : decode b_NC_giveNumber 55 = .ok (.ixor, 1) := by decide +kernel
theorem d_NC_giveNumber_56 : decode b_NC_giveNumber 56 = .ok (.iand, 1) := by decide +kernel
theorem d_NC_giveNumber_57 : decode b_NC_giveNumber 57 = .ok (.invokevirtual 204, 3) := by decide +kernel
theorem d_NC_giveNumber_60 : decode b_NC_giveNumber 60 = .ok (.iconst 0, 1) := by decide +kernel
theorem d_NC_giveNumber_61 : decode b_NC_giveNumber 61 = .ok (.ireturn, 1) := by decide +kernel
theorem d_NC_giveMeant_0 : decode b_NC_giveMeant 0 = .ok (.aload_n 0, 1) := by decide +kernel
theorem d_NC_giveMeant_1 : decode b_NC_giveMeant 1 = .ok (.getfield 50, 3) := by decide +kernel
theorem d_NC_giveMeant_4 : decode b_NC_giveMeant 4 = .ok (.aload_n 0, 1) := by decide +kernel
theorem d_NC_giveMeant_5 : decode b_NC_giveMeant 5 = .ok (.aload_n 0, 1) := by decide +kernel
theorem d_NC_giveMeant_6 : decode b_NC_giveMeant 6 = .ok (.getfield 30, 3) := by decide +kernel
theorem d_NC_giveMeant_9 : decode b_NC_giveMeant 9 = .ok (.iload_n 2, 1) := by decide +kernel
theorem d_NC_giveMeant_10 : decode b_NC_giveMeant 10 = .ok (.iconst 2, 1) := by decide +kernel
theorem d_NC_giveMeant_11 : decode b_NC_giveMeant 11 = .ok (.invokevirtual 122, 3) := by decide +kernel
theorem d_NC_giveMeant_14 : decode b_NC_giveMeant 14 = .ok (.iand, 1) := by decide +kernel
theorem d_NC_giveMeant_15 : decode b_NC_giveMeant 15 = .ok (.istore_n 3, 1) := by decide +kernel
theorem d_NC_giveMeant_16 : decode b_NC_giveMeant 16 = .ok (.iload_n 3, 1) := by decide +kernel
theorem d_NC_giveMeant_17 : decode b_NC_giveMeant 17 = .ok (.ifCond .eq 13, 3) := by decide +kernel
theorem d_NC_giveMeant_20 : decode b_NC_giveMeant 20 = .ok (.aload_n 0, 1) := by decide +kernel
theorem d_NC_giveMeant_21 : decode b_NC_giveMeant 21 = .ok (.getfield 47, 3) := by decide +kernel
theorem d_NC_giveMeant_24 : decode b_NC_giveMeant 24 = .ok (.iload_n 3, 1) := by decide +kernel
theorem d_NC_giveMeant_25 : decode b_NC_giveMeant 25 = .ok (.invokevirtual 204, 3) := by decide +kernel
theorem d_NC_giveMeant_28 : decode b_NC_giveMeant 28 = .ok (.iconst 0, 1) := by decide +kernel
theorem d_NC_giveMeant_29 : decode b_NC_giveMeant 29 = .ok (.ireturn, 1) := by decide +kernel
theorem d_NC_giveMeant_30 : decode b_NC_giveMeant 30 = .ok (.iload_n 1, 1) := by decide +kernel
theorem d_NC_giveMeant_31 : decode b_NC_giveMeant 31 = .ok (.ifCond .lt 26, 3) := by decide +kernel
theorem d_NC_giveMeant_34 : decode b_NC_giveMeant 34 = .ok (.iload_n 1, 1) := by decide +kernel
theorem d_NC_giveMeant_35 : decode b_NC_giveMeant 35 = .ok (.aload_n 0, 1) := by decide +kernel
theorem d_NC_giveMeant_36 : decode b_NC_giveMeant 36 = .ok (.getfield 37, 3) := by decide +kernel
theorem d_NC_giveMeant_39 : decode b_NC_giveMeant 39 = .ok (.arraylength, 1) := by decide +kernel
theorem d_NC_giveMeant_40 : decode b_NC_giveMeant 40 = .ok (.if_icmp .ge 17, 3) := by decide +kernel
theorem d_NC_giveMeant_43 : decode b_NC_giveMeant 43 = .ok (.aload_n 0, 1) := by decide +kernel
theorem d_NC_giveMeant_44 : decode b_NC_giveMeant 44 = .ok (.getfield 50, 3) := by decide +kernel
theorem d_NC_giveMeant_47 : decode b_NC_giveMeant 47 = .ok (.aload_n 0, 1) := by decide +kernel
theorem d_NC_giveMeant_48 : decode b_NC_giveMeant 48 = .ok (.getfield 37, 3) := by decide +kernel
theorem d_NC_giveMeant_51 : decode b_NC_giveMeant 51 = .ok (.iload_n 1, 1) := by decide +kernel
theorem d_NC_giveMeant_52 : decode b_NC_giveMeant 52 = .ok (.iaload, 1) := by decide +kernel
theorem d_NC_giveMeant_53 : decode b_NC_giveMeant 53 = .ok (.iand, 1) := by decide +kernel
theorem d_NC_giveMeant_54 : decode b_NC_giveMeant 54 = .ok (.goto 7, 3) := by decide +kernel
theorem d_NC_giveMeant_57 : decode b_NC_giveMeant 57 = .ok (.aload_n 0, 1) := by decide +kernel
theorem d_NC_giveMeant_58 : decode b_NC_giveMeant 58 = .ok (.getfield 50, 3) := by decide +kernel
theorem d_NC_giveMeant_61 : decode b_NC_giveMeant 61 = .ok (.istore 4, 2) := by decide +kernel
theorem d_NC_giveMeant_63 : decode b_NC_giveMeant 63 = .ok (.iload 4, 2) := by decide +kernel
theorem d_NC_giveMeant_65 : decode b_NC_giveMeant 65 = .ok (.ifCond .ne 5, 3) := by decide +kernel
theorem d_NC_giveMeant_68 : decode b_NC_giveMeant 68 = .ok (.iconst 3, 1) := by decide +kernel
theorem d_NC_giveMeant_69 : decode b_NC_giveMeant 69 = .ok (.ireturn, 1) := by decide +kernel
theorem d_NC_giveMeant_70 : decode b_NC_giveMeant 70 = .ok (.aload_n 0, 1) := by decide +kernel
theorem d_NC_giveMeant_71 : decode b_NC_giveMeant 71 = .ok (.iload 4, 2) := by decide +kernel
theorem d_NC_giveMeant_73 : decode b_NC_giveMeant 73 = .ok (.invokevirtual 216, 3) := by decide +kernel
theorem d_NC_giveMeant_76 : decode b_NC_giveMeant 76 = .ok (.istore 5, 2) := by decide +kernel
theorem d_NC_giveMeant_78 : decode b_NC_giveMeant 78 = .ok (.aload_n 0, 1) := by decide +kernel
theorem d_NC_giveMeant_79 : decode b_NC_giveMeant 79 = .ok (.getfield 30, 3) := by decide +kernel
theorem d_NC_giveMeant_82 : decode b_NC_giveMeant 82 = .ok (.iload_n 2, 1) := by decide +kernel
theorem d_NC_giveMeant_83 : decode b_NC_giveMeant 83 = .ok (.bipush 31, 2) := by decide +kernel
theorem d_NC_giveMeant_85 : decode b_NC_giveMeant 85 = .ok (.invokevirtual 222, 3) := by decide +kernel
theorem d_NC_giveMeant_88 : decode b_NC_giveMeant 88 = .ok (.ifCond .ne 16, 3) := by decide +kernel
theorem d_NC_giveMeant_91 : decode b_NC_giveMeant 91 = .ok (.aload_n 0, 1) := by decide +kernel
theorem d_NC_giveMeant_92 : decode b_NC_giveMeant 92 = .ok (.iload 5, 2) := by decide +kernel
theorem d_NC_giveMeant_94 : decode b_NC_giveMeant 94 = .ok (.invokevirtual 151, 3) := by decide +kernel
theorem d_NC_giveMeant_97 : decode b_NC_giveMeant 97 = .ok (.invokestatic 154, 3) := by decide +kernel
theorem d_NC_giveMeant_100 : decode b_NC_giveMeant 100 = .ok (.iconst 1, 1) := by decide +kernel
theorem d_NC_giveMeant_101 : decode b_NC_giveMeant 101 = .ok (.if_icmp .ne 17, 3) := by decide +kernel
theorem d_NC_giveMeant_104 : decode b_NC_giveMeant 104 = .ok (.aload_n 0, 1) := by decide +kernel
theorem d_NC_giveMeant_105 : decode b_NC_giveMeant 105 = .ok (.getfield 47, 3) := by decide +kernel
theorem d_NC_giveMeant_108 : decode b_NC_giveMeant 108 = .ok (.iload 5, 2) := by decide +kernel
theorem d_NC_giveMeant_110 : decode b_NC_giveMeant 110 = .ok (.invokestatic 219, 3) := by decide +kernel
theorem d_NC_giveMeant_113 : decode b_NC_giveMeant 113 = .ok (.invokevirtual 204, 3) := by decide +kernel
theorem d_NC_giveMeant_116 : decode b_NC_giveMeant 116 = .ok (.iconst 0, 1) := by decide +kernel
theorem d_NC_giveMeant_117 : decode b_NC_giveMeant 117 = .ok (.ireturn, 1) := by decide +kernel
theorem d_NC_giveMeant_118 : decode b_NC_giveMeant 118 = .ok (.aload_n 0, 1) := by decide +kernel
theorem d_NC_giveMeant_119 : decode b_NC_giveMeant 119 = .ok (.iload 5, 2) := by decide +kernel
theorem d_NC_giveMeant_121 : decode b_NC_giveMeant 121 = .ok (.putfield 53, 3) := by decide +kernel
theorem d_NC_giveMeant_124 : decode b_NC_giveMeant 124 = .ok (.aload_n 0, 1) := by decide +kernel
theorem d_NC_giveMeant_125 : decode b_NC_giveMeant 125 = .ok (.iload_n 1, 1) := by decide +kernel
theorem d_NC_giveMeant_126 : decode b_NC_giveMeant 126 = .ok (.putfield 56, 3) := by decide +kernel
theorem d_NC_giveMeant_129 : decode b_NC_giveMeant 129 = .ok (.iconst 1, 1) := by decide +kernel
theorem d_NC_giveMeant_130 : decode b_NC_giveMeant 130 = .ok (.ireturn, 1) := by decide +kernel
theorem d_NC_goThroughPart_0 : decode b_NC_goThroughPart 0 = .ok (.aload_n 0, 1) := by decide +kernel
theorem d_NC_goThroughPart_1 : decode b_NC_goThroughPart 1 = .ok (.getfield 30, 3) := by decide +kernel
theorem d_NC_goThroughPart_4 : decode b_NC_goThroughPart 4 = .ok (.iload_n 1, 1) := by decide +kernel
theorem d_NC_goThroughPart_5 : decode b_NC_goThroughPart 5 = .ok (.invokevirtual 189, 3) := by decide +kernel
theorem d_NC_goThroughPart_8 : decode b_NC_goThroughPart 8 = .ok (.istore_n 2, 1) := by decide +kernel
theorem d_NC_goThroughPart_9 : decode b_NC_goThroughPart 9 = .ok (.iload_n 2, 1) := by decide +kernel
theorem d_NC_goThroughPart_10 : decode b_NC_goThroughPart 10 = .ok (.iconst (-1), 1) := by decide +kernel
theorem d_NC_goThroughPart_11 : decode b_NC_goThroughPart 11 = .ok (.if_icmp .ne 13, 3) := by decide +kernel
theorem d_NC_goThroughPart_14 : decode b_NC_goThroughPart 14 = .ok (.aload_n 0, 1) := by decide +kernel
theorem d_NC_goThroughPart_15 : decode b_NC_goThroughPart 15 = .ok (.getfield 10, 3) := by decide +kernel
theorem d_NC_goThroughPart_18 : decode b_NC_goThroughPart 18 = .ok (.invokevirtual 192, 3) := by decide +kernel
theorem d_NC_goThroughPart_21 : decode b_NC_goThroughPart 21 = .ok (.goto 13, 3) := by decide +kernel
theorem d_NC_goThroughPart_24 : decode b_NC_goThroughPart 24 = .ok (.aload_n 0, 1) := by decide +kernel
theorem d_NC_goThroughPart_25 : decode b_NC_goThroughPart 25 = .ok (.aload_n 0, 1) := by decide +kernel
theorem d_NC_goThroughPart_26 : decode b_NC_goThroughPart 26 = .ok (.getfield 30, 3) := by decide +kernel
theorem d_NC_goThroughPart_29 : decode b_NC_goThroughPart 29 = .ok (.iload_n 2, 1) := by decide +kernel
theorem d_NC_goThroughPart_30 : decode b_NC_goThroughPart 30 = .ok (.iconst 3, 1) := by decide +kernel
theorem d_NC_goThroughPart_31 : decode b_NC_goThroughPart 31 = .ok (.invokevirtual 122, 3) := by decide +kernel
theorem d_NC_goThroughPart_34 : decode b_NC_goThroughPart 34 = .ok (.istore_n 3, 1) := by decide +kernel
theorem d_NC_goThroughPart_35 : decode b_NC_goThroughPart 35 = .ok (.iload_n 3, 1) := by decide +kernel
theorem d_NC_goThroughPart_36 : decode b_NC_goThroughPart 36 = .ok (.ifCond .ne 5, 3) := by decide +kernel
theorem d_NC_goThroughPart_39 : decode b_NC_goThroughPart 39 = .ok (.iconst 2, 1) := by decide +kernel
theorem d_NC_goThroughPart_40 : decode b_NC_goThroughPart 40 = .ok (.ireturn, 1) := by decide +kernel
theorem d_NC_goThroughPart_41 : decode b_NC_goThroughPart 41 = .ok (.aload_n 0, 1) := by decide +kernel
theorem d_NC_goThroughPart_42 : decode b_NC_goThroughPart 42 = .ok (.iload_n 3, 1) := by decide +kernel
theorem d_NC_goThroughPart_43 : decode b_NC_goThroughPart 43 = .ok (.aload_n 0, 1) := by decide +kernel
theorem d_NC_goThroughPart_44 : decode b_NC_goThroughPart 44 = .ok (.getfield 10, 3) := by decide +kernel
theorem d_NC_goThroughPart_47 : decode b_NC_goThroughPart 47 = .ok (.invokevirtual 168, 3) := by decide +kernel
theorem d_NC_goThroughPart_50 : decode b_NC_goThroughPart 50 = .ok (.iand, 1) := by decide +kernel
theorem d_NC_goThroughPart_51 : decode b_NC_goThroughPart 51 = .ok (.putfield 50, 3) := by decide +kernel
theorem d_NC_goThroughPart_54 : decode b_NC_goThroughPart 54 = .ok (.aload_n 0, 1) := by decide +kernel
theorem d_NC_goThroughPart_55 : decode b_NC_goThroughPart 55 = .ok (.getfield 50, 3) := by decide +kernel
theorem d_NC_goThroughPart_58 : decode b_NC_goThroughPart 58 = .ok (.ifCond .ne 5, 3) := by decide +kernel
theorem d_NC_goThroughPart_61 : decode b_NC_goThroughPart 61 = .ok (.iconst 3, 1) := by decide +kernel
theorem d_NC_goThroughPart_62 : decode b_NC_goThroughPart 62 = .ok (.ireturn, 1) := by decide +kernel
theorem d_NC_goThroughPart_63 : decode b_NC_goThroughPart 63 = .ok (.aload_n 0, 1) := by decide +kernel
theorem d_NC_goThroughPart_64 : decode b_NC_goThroughPart 64 = .ok (.iload_n 1, 1) := by decide +kernel
theorem d_NC_goThroughPart_65 : decode b_NC_goThroughPart 65 = .ok (.invokevirtual 195, 3) := by decide +kernel
theorem d_NC_goThroughPart_68 : decode b_NC_goThroughPart 68 = .ok (.ifCond .ne 5, 3) := by decide +kernel
theorem d_NC_goThroughPart_71 : decode b_NC_goThroughPart 71 = .ok (.iconst 4, 1) := by decide +kernel
theorem d_NC_goThroughPart_72 : decode b_NC_goThroughPart 72 = .ok (.ireturn, 1) := by decide +kernel
theorem d_NC_goThroughPart_73 : decode b_NC_goThroughPart 73 = .ok (.aload_n 0, 1) := by decide +kernel
theorem d_NC_goThroughPart_74 : decode b_NC_goThroughPart 74 = .ok (.getfield 50, 3) := by decide +kernel
theorem d_NC_goThroughPart_77 : decode b_NC_goThroughPart 77 = .ok (.ifCond .ne 5, 3) := by decide +kernel
theorem d_NC_goThroughPart_80 : decode b_NC_goThroughPart 80 = .ok (.iconst 5, 1) := by decide +kernel
theorem d_NC_goThroughPart_81 : decode b_NC_goThroughPart 81 = .ok (.ireturn, 1) := by decide +kernel
theorem d_NC_goThroughPart_82 : decode b_NC_goThroughPart 82 = .ok (.aload_n 0, 1) := by decide +kernel
theorem d_NC_goThroughPart_83 : decode b_NC_goThroughPart 83 = .ok (.getfield 30, 3) := by decide +kernel
theorem d_NC_goThroughPart_86 : decode b_NC_goThroughPart 86 = .ok (.iload_n 1, 1) := by decide +kernel
theorem d_NC_goThroughPart_87 : decode b_NC_goThroughPart 87 = .ok (.invokevirtual 198, 3) := by decide +kernel
theorem d_NC_goThroughPart_90 : decode b_NC_goThroughPart 90 = .ok (.istore 4, 2) := by decide +kernel
theorem d_NC_goThroughPart_92 : decode b_NC_goThroughPart 92 = .ok (.iload 4, 2) := by decide +kernel
theorem d_NC_goThroughPart_94 : decode b_NC_goThroughPart 94 = .ok (.ifCond .le 10, 3) := by decide +kernel
theorem d_NC_goThroughPart_97 : decode b_NC_goThroughPart 97 = .ok (.aload_n 0, 1) := by decide +kernel
theorem d_NC_goThroughPart_98 : decode b_NC_goThroughPart 98 = .ok (.iload 4, 2) := by decide +kernel
theorem d_NC_goThroughPart_100 : decode b_NC_goThroughPart 100 = .ok (.invokevirtual 201, 3) := by decide +kernel
theorem d_NC_goThroughPart_103 : decode b_NC_goThroughPart 103 = .ok (.ireturn, 1) := by decide +kernel
theorem d_NC_goThroughPart_104 : decode b_NC_goThroughPart 104 = .ok (.iload 4, 2) := by decide +kernel
theorem d_NC_goThroughPart_106 : decode b_NC_goThroughPart 106 = .ok (.iconst (-1), 1) := by decide +kernel
theorem d_NC_goThroughPart_107 : decode b_NC_goThroughPart 107 = .ok (.if_icmp .ne 16, 3) := by decide +kernel
theorem d_NC_goThroughPart_110 : decode b_NC_goThroughPart 110 = .ok (.aload_n 0, 1) := by decide +kernel
theorem d_NC_goThroughPart_111 : decode b_NC_goThroughPart 111 = .ok (.getfield 47, 3) := by decide +kernel
theorem d_NC_goThroughPart_114 : decode b_NC_goThroughPart 114 = .ok (.aload_n 0, 1) := by decide +kernel
theorem d_NC_goThroughPart_115 : decode b_NC_goThroughPart 115 = .ok (.getfield 50, 3) := by decide +kernel
theorem d_NC_goThroughPart_118 : decode b_NC_goThroughPart 118 = .ok (.invokevirtual 204, 3) := by decide +kernel
theorem d_NC_goThroughPart_121 : decode b_NC_goThroughPart 121 = .ok (.iconst 0, 1) := by decide +kernel
theorem d_NC_goThroughPart_122 : decode b_NC_goThroughPart 122 = .ok (.ireturn, 1) := by decide +kernel
theorem d_NC_goThroughPart_123 : decode b_NC_goThroughPart 123 = .ok (.aload_n 0, 1) := by decide +kernel
theorem d_NC_goThroughPart_124 : decode b_NC_goThroughPart 124 = .ok (.iload_n 1, 1) := by decide +kernel
theorem d_NC_goThroughPart_125 : decode b_NC_goThroughPart 125 = .ok (.iload_n 2, 1) := by decide +kernel
theorem d_NC_goThroughPart_126 : decode b_NC_goThroughPart 126 = .ok (.invokevirtual 207, 3) := by decide +kernel
theorem d_NC_goThroughPart_129 : decode b_NC_goThroughPart 129 = .ok (.ireturn, 1) := by decide +kernel
theorem d_NC_goThrough_0 : decode b_NC_goThrough 0 = .ok (.aload_n 0, 1) := by decide +kernel
theorem d_NC_goThrough_1 : decode b_NC_goThrough 1 = .ok (.iconst 0, 1) := by decide +kernel
theorem d_NC_goThrough_2 : decode b_NC_goThrough 2 = .ok (.putfield 53, 3) := by decide +kernel
theorem d_NC_goThrough_5 : decode b_NC_goThrough 5 = .ok (.aload_n 0, 1) := by decide +kernel
theorem d_NC_goThrough_6 : decode b_NC_goThrough 6 = .ok (.getfield 47, 3) := by decide +kernel
theorem d_NC_goThrough_9 : decode b_NC_goThrough 9 = .ok (.invokevirtual 180, 3) := by decide +kernel
theorem d_NC_goThrough_12 : decode b_NC_goThrough 12 = .ok (.iconst 0, 1) := by decide +kernel
theorem d_NC_goThrough_13 : decode b_NC_goThrough 13 = .ok (.istore_n 1, 1) := by decide +kernel
theorem d_NC_goThrough_14 : decode b_NC_goThrough 14 = .ok (.iload_n 1, 1) := by decide +kernel
theorem d_NC_goThrough_15 : decode b_NC_goThrough 15 = .ok (.aload_n 0, 1) := by decide +kernel
theorem d_NC_goThrough_16 : decode b_NC_goThrough 16 = .ok (.getfield 30, 3) := by decide +kernel
theorem d_NC_goThrough_19 : decode b_NC_goThrough 19 = .ok (.getfield 174, 3) := by decide +kernel
theorem d_NC_goThrough_22 : decode b_NC_goThrough 22 = .ok (.if_icmp .ge 26, 3) := by decide +kernel
theorem d_NC_goThrough_25 : decode b_NC_goThrough 25 = .ok (.aload_n 0, 1) := by decide +kernel
theorem d_NC_goThrough_26 : decode b_NC_goThrough 26 = .ok (.iload_n 1, 1) := by decide +kernel
theorem d_NC_goThrough_27 : decode b_NC_goThrough 27 = .ok (.invokevirtual 183, 3) := by decide +kernel
theorem d_NC_goThrough_30 : decode b_NC_goThrough 30 = .ok (.istore_n 2, 1) := by decide +kernel
theorem d_NC_goThrough_31 : decode b_NC_goThrough 31 = .ok (.iload_n 2, 1) := by decide +kernel
theorem d_NC_goThrough_32 : decode b_NC_goThrough 32 = .ok (.ifCond .eq 10, 3) := by decide +kernel
theorem d_NC_goThrough_35 : decode b_NC_goThrough 35 = .ok (.aload_n 0, 1) := by decide +kernel
theorem d_NC_goThrough_36 : decode b_NC_goThrough 36 = .ok (.iload_n 1, 1) := by decide +kernel
theorem d_NC_goThrough_37 : decode b_NC_goThrough 37 = .ok (.iload_n 2, 1) := by decide +kernel
theorem d_NC_goThrough_38 : decode b_NC_goThrough 38 = .ok (.invokevirtual 186, 3) := by decide +kernel
theorem d_NC_goThrough_41 : decode b_NC_goThrough 41 = .ok (.ireturn, 1) := by decide +kernel
theorem d_NC_goThrough_42 : decode b_NC_goThrough 42 = .ok (.iinc 1 1, 3) := by decide +kernel
theorem d_NC_goThrough_45 : decode b_NC_goThrough 45 = .ok (.goto (-31), 3) := by decide +kernel
theorem d_NC_goThrough_48 : decode b_NC_goThrough 48 = .ok (.aload_n 0, 1) := by decide +kernel
theorem d_NC_goThrough_49 : decode b_NC_goThrough 49 = .ok (.iconst (-1), 1) := by decide +kernel
theorem d_NC_goThrough_50 : decode b_NC_goThrough 50 = .ok (.iconst (-1), 1) := by decide +kernel
theorem d_NC_goThrough_51 : decode b_NC_goThrough 51 = .ok (.iconst (-1), 1) := by decide +kernel
theorem d_NC_goThrough_52 : decode b_NC_goThrough 52 = .ok (.invokevirtual 141, 3) := by decide +kernel
theorem d_NC_goThrough_55 : decode b_NC_goThrough 55 = .ok (.aload_n 0, 1) := by decide +kernel
theorem d_NC_goThrough_56 : decode b_NC_goThrough 56 = .ok (.getfield 47, 3) := by decide +kernel
theorem d_NC_goThrough_59 : decode b_NC_goThrough 59 = .ok (.getfield 145, 3) := by decide +kernel
theorem d_NC_goThrough_62 : decode b_NC_goThrough 62 = .ok (.aload_n 0, 1) := by decide +kernel
theorem d_NC_goThrough_63 : decode b_NC_goThrough 63 = .ok (.getfield 24, 3) := by decide +kernel
theorem d_NC_goThrough_66 : decode b_NC_goThrough 66 = .ok (.if_icmp .le 6, 3) := by decide +kernel
theorem d_NC_goThrough_69 : decode b_NC_goThrough 69 = .ok (.bipush (-17), 2) := by decide +kernel
theorem d_NC_goThrough_71 : decode b_NC_goThrough 71 = .ok (.ireturn, 1) := by decide +kernel
theorem d_NC_goThrough_72 : decode b_NC_goThrough 72 = .ok (.aload_n 0, 1) := by decide +kernel
theorem d_NC_goThrough_73 : decode b_NC_goThrough 73 = .ok (.getfield 43, 3) := by decide +kernel
theorem d_NC_goThrough_76 : decode b_NC_goThrough 76 = .ok (.astore_n 1, 1) := by decide +kernel
theorem d_NC_goThrough_77 : decode b_NC_goThrough 77 = .ok (.aload_n 0, 1) := by decide +kernel
theorem d_NC_goThrough_78 : decode b_NC_goThrough 78 = .ok (.aload_n 0, 1) := by decide +kernel
theorem d_NC_goThrough_79 : decode b_NC_goThrough 79 = .ok (.getfield 47, 3) := by decide +kernel
theorem d_NC_goThrough_82 : decode b_NC_goThrough 82 = .ok (.putfield 43, 3) := by decide +kernel
theorem d_NC_goThrough_85 : decode b_NC_goThrough 85 = .ok (.aload_n 0, 1) := by decide +kernel
theorem d_NC_goThrough_86 : decode b_NC_goThrough 86 = .ok (.aload_n 1, 1) := by decide +kernel
theorem d_NC_goThrough_87 : decode b_NC_goThrough 87 = .ok (.putfield 47, 3) := by decide +kernel
theorem d_NC_goThrough_90 : decode b_NC_goThrough 90 = .ok (.aload_n 0, 1) := by decide +kernel
theorem d_NC_goThrough_91 : decode b_NC_goThrough 91 = .ok (.getfield 43, 3) := by decide +kernel
theorem d_NC_goThrough_94 : decode b_NC_goThrough 94 = .ok (.getfield 145, 3) := by decide +kernel
theorem d_NC_goThrough_97 : decode b_NC_goThrough 97 = .ok (.ireturn, 1) := by decide +kernel
theorem d_NC_thing_0 : decode b_NC_thing 0 = .ok (.aload_n 0, 1) := by decide +kernel
theorem d_NC_thing_1 : decode b_NC_thing 1 = .ok (.getfield 10, 3) := by decide +kernel
theorem d_NC_thing_4 : decode b_NC_thing 4 = .ok (.invokevirtual 74, 3) := by decide +kernel
theorem d_NC_thing_7 : decode b_NC_thing 7 = .ok (.ireturn, 1) := by decide +kernel
theorem d_NC_word_0 : decode b_NC_word 0 = .ok (.aload_n 0, 1) := by decide +kernel
theorem d_NC_word_1 : decode b_NC_word 1 = .ok (.getfield 10, 3) := by decide +kernel
theorem d_NC_word_4 : decode b_NC_word 4 = .ok (.iload_n 1, 1) := by decide +kernel
theorem d_NC_word_5 : decode b_NC_word 5 = .ok (.iload_n 2, 1) := by decide +kernel
theorem d_NC_word_6 : decode b_NC_word 6 = .ok (.iload_n 3, 1) := by decide +kernel
theorem d_NC_word_7 : decode b_NC_word 7 = .ok (.iload 4, 2) := by decide +kernel
theorem d_NC_word_9 : decode b_NC_word 9 = .ok (.invokevirtual 78, 3) := by decide +kernel
theorem d_NC_word_12 : decode b_NC_word 12 = .ok (.ireturn, 1) := by decide +kernel
theorem d_NC_kind_0 : decode b_NC_kind 0 = .ok (.aload_n 0, 1) := by decide +kernel
theorem d_NC_kind_1 : decode b_NC_kind 1 = .ok (.getfield 10, 3) := by decide +kernel
theorem d_NC_kind_4 : decode b_NC_kind 4 = .ok (.iload_n 1, 1) := by decide +kernel
theorem d_NC_kind_5 : decode b_NC_kind 5 = .ok (.iload_n 2, 1) := by decide +kernel
theorem d_NC_kind_6 : decode b_NC_kind 6 = .ok (.invokevirtual 82, 3) := by decide +kernel
theorem d_NC_kind_9 : decode b_NC_kind 9 = .ok (.ireturn, 1) := by decide +kernel
theorem d_NC_place_0 : decode b_NC_place 0 = .ok (.aload_n 0, 1) := by decide +kernel
theorem d_NC_place_1 : decode b_NC_place 1 = .ok (.getfield 10, 3) := by decide +kernel
theorem d_NC_place_4 : decode b_NC_place 4 = .ok (.iload_n 1, 1) := by decide +kernel
theorem d_NC_place_5 : decode b_NC_place 5 = .ok (.iload_n 2, 1) := by decide +kernel
theorem d_NC_place_6 : decode b_NC_place 6 = .ok (.invokevirtual 86, 3) := by decide +kernel
theorem d_NC_place_9 : decode b_NC_place 9 = .ok (.ireturn, 1) := by decide +kernel
theorem d_NC_mark_0 : decode b_NC_mark 0 = .ok (.aload_n 0, 1) := by decide +kernel
theorem d_NC_mark_1 : decode b_NC_mark 1 = .ok (.getfield 10, 3) := by decide +kernel
theorem d_NC_mark_4 : decode b_NC_mark 4 = .ok (.iload_n 1, 1) := by decide +kernel
theorem d_NC_mark_5 : decode b_NC_mark 5 = .ok (.iload_n 2, 1) := by decide +kernel
theorem d_NC_mark_6 : decode b_NC_mark 6 = .ok (.iload_n 3, 1) := by decide +kernel
theorem d_NC_mark_7 : decode b_NC_mark 7 = .ok (.invokevirtual 89, 3) := by decide +kernel
theorem d_NC_mark_10 : decode b_NC_mark 10 = .ok (.ireturn, 1) := by decide +kernel
theorem d_NC_plural_0 : decode b_NC_plural 0 = .ok (.aload_n 0, 1) := by decide +kernel
theorem d_NC_plural_1 : decode b_NC_plural 1 = .ok (.getfield 10, 3) := by decide +kernel
theorem d_NC_plural_4 : decode b_NC_plural 4 = .ok (.iload_n 1, 1) := by decide +kernel
theorem d_NC_plural_5 : decode b_NC_plural 5 = .ok (.iload_n 2, 1) := by decide +kernel
theorem d_NC_plural_6 : decode b_NC_plural 6 = .ok (.invokevirtual 93, 3) := by decide +kernel
theorem d_NC_plural_9 : decode b_NC_plural 9 = .ok (.ireturn, 1) := by decide +kernel
theorem d_NC_weight_0 : decode b_NC_weight 0 = .ok (.aload_n 0, 1) := by decide +kernel
theorem d_NC_weight_1 : decode b_NC_weight 1 = .ok (.getfield 10, 3) := by decide +kernel
theorem d_NC_weight_4 : decode b_NC_weight 4 = .ok (.iload_n 1, 1) := by decide +kernel
theorem d_NC_weight_5 : decode b_NC_weight 5 = .ok (.iload_n 2, 1) := by decide +kernel
theorem d_NC_weight_6 : decode b_NC_weight 6 = .ok (.invokevirtual 96, 3) := by decide +kernel
theorem d_NC_weight_9 : decode b_NC_weight 9 = .ok (.ireturn, 1) := by decide +kernel
theorem d_NC_limit_0 : decode b_NC_limit 0 = .ok (.iload_n 1, 1) := by decide +kernel
theorem d_NC_limit_1 : decode b_NC_limit 1 = .ok (.ifCond .lt 9, 3) := by decide +kernel
theorem d_NC_limit_4 : decode b_NC_limit 4 = .ok (.iload_n 1, 1) := by decide +kernel
theorem d_NC_limit_5 : decode b_NC_limit 5 = .ok (.bipush 32, 2) := by decide +kernel
theorem d_NC_limit_7 : decode b_NC_limit 7 = .ok (.if_icmp .le 5, 3) := by decide +kernel
theorem d_NC_limit_10 : decode b_NC_limit 10 = .ok (.iconst (-1), 1) := by decide +kernel
theorem d_NC_limit_11 : decode b_NC_limit 11 = .ok (.ireturn, 1) := by decide +kernel
theorem d_NC_limit_12 : decode b_NC_limit 12 = .ok (.aload_n 0, 1) := by decide +kernel
theorem d_NC_limit_13 : decode b_NC_limit 13 = .ok (.getfield 24, 3) := by decide +kernel
theorem d_NC_limit_16 : decode b_NC_limit 16 = .ok (.istore_n 2, 1) := by decide +kernel
theorem d_NC_limit_17 : decode b_NC_limit 17 = .ok (.aload_n 0, 1) := by decide +kernel
theorem d_NC_limit_18 : decode b_NC_limit 18 = .ok (.iload_n 1, 1) := by decide +kernel
theorem d_NC_limit_19 : decode b_NC_limit 19 = .ok (.putfield 24, 3) := by decide +kernel
theorem d_NC_limit_22 : decode b_NC_limit 22 = .ok (.iload_n 2, 1) := by decide +kernel
theorem d_NC_limit_23 : decode b_NC_limit 23 = .ok (.ireturn, 1) := by decide +kernel
theorem d_NC_score_0 : decode b_NC_score 0 = .ok (.aload_n 0, 1) := by decide +kernel
theorem d_NC_score_1 : decode b_NC_score 1 = .ok (.getfield 10, 3) := by decide +kernel
theorem d_NC_score_4 : decode b_NC_score 4 = .ok (.iload_n 1, 1) := by decide +kernel
theorem d_NC_score_5 : decode b_NC_score 5 = .ok (.invokevirtual 99, 3) := by decide +kernel
theorem d_NC_score_8 : decode b_NC_score 8 = .ok (.ifCond .eq 18, 3) := by decide +kernel
theorem d_NC_score_11 : decode b_NC_score 11 = .ok (.aload_n 0, 1) := by decide +kernel
theorem d_NC_score_12 : decode b_NC_score 12 = .ok (.getfield 10, 3) := by decide +kernel
theorem d_NC_score_15 : decode b_NC_score 15 = .ok (.iload_n 1, 1) := by decide +kernel
theorem d_NC_score_16 : decode b_NC_score 16 = .ok (.invokevirtual 103, 3) := by decide +kernel
theorem d_NC_score_19 : decode b_NC_score 19 = .ok (.sipush 1000, 3) := by decide +kernel
theorem d_NC_score_22 : decode b_NC_score 22 = .ok (.iadd, 1) := by decide +kernel
theorem d_NC_score_23 : decode b_NC_score 23 = .ok (.goto 4, 3) := by decide +kernel
theorem d_NC_score_26 : decode b_NC_score 26 = .ok (.iconst (-1), 1) := by decide +kernel
theorem d_NC_score_27 : decode b_NC_score 27 = .ok (.ireturn, 1) := by decide +kernel
theorem d_NC_alike_0 : decode b_NC_alike 0 = .ok (.aload_n 0, 1) := by decide +kernel
theorem d_NC_alike_1 : decode b_NC_alike 1 = .ok (.getfield 10, 3) := by decide +kernel
theorem d_NC_alike_4 : decode b_NC_alike 4 = .ok (.iload_n 1, 1) := by decide +kernel
theorem d_NC_alike_5 : decode b_NC_alike 5 = .ok (.invokevirtual 99, 3) := by decide +kernel
theorem d_NC_alike_8 : decode b_NC_alike 8 = .ok (.ifCond .eq 14, 3) := by decide +kernel
theorem d_NC_alike_11 : decode b_NC_alike 11 = .ok (.aload_n 0, 1) := by decide +kernel
theorem d_NC_alike_12 : decode b_NC_alike 12 = .ok (.getfield 10, 3) := by decide +kernel
theorem d_NC_alike_15 : decode b_NC_alike 15 = .ok (.iload_n 2, 1) := by decide +kernel
theorem d_NC_alike_16 : decode b_NC_alike 16 = .ok (.invokevirtual 99, 3) := by decide +kernel
theorem d_NC_alike_19 : decode b_NC_alike 19 = .ok (.ifCond .ne 5, 3) := by decide +kernel
theorem d_NC_alike_22 : decode b_NC_alike 22 = .ok (.iconst (-1), 1) := by decide +kernel
theorem d_NC_alike_23 : decode b_NC_alike 23 = .ok (.ireturn, 1) := by decide +kernel
theorem d_NC_alike_24 : decode b_NC_alike 24 = .ok (.aload_n 0, 1) := by decide +kernel
theorem d_NC_alike_25 : decode b_NC_alike 25 = .ok (.getfield 10, 3) := by decide +kernel
theorem d_NC_alike_28 : decode b_NC_alike 28 = .ok (.iload_n 1, 1) := by decide +kernel
theorem d_NC_alike_29 : decode b_NC_alike 29 = .ok (.iload_n 2, 1) := by decide +kernel
theorem d_NC_alike_30 : decode b_NC_alike 30 = .ok (.invokevirtual 107, 3) := by decide +kernel
theorem d_NC_alike_33 : decode b_NC_alike 33 = .ok (.ifCond .eq 7, 3) := by decide +kernel
theorem d_NC_alike_36 : decode b_NC_alike 36 = .ok (.iconst 1, 1) := by decide +kernel
theorem d_NC_alike_37 : decode b_NC_alike 37 = .ok (.goto 4, 3) := by decide +kernel
theorem d_NC_alike_40 : decode b_NC_alike 40 = .ok (.iconst 0, 1) := by decide +kernel
theorem d_NC_alike_41 : decode b_NC_alike 41 = .ok (.ireturn, 1) := by decide +kernel
theorem d_NC_type_0 : decode b_NC_type 0 = .ok (.iload_n 1, 1) := by decide +kernel
theorem d_NC_type_1 : decode b_NC_type 1 = .ok (.invokestatic 111, 3) := by decide +kernel
theorem d_NC_type_4 : decode b_NC_type 4 = .ok (.ifCond .ne 5, 3) := by decide +kernel
theorem d_NC_type_7 : decode b_NC_type 7 = .ok (.iconst (-1), 1) := by decide +kernel
theorem d_NC_type_8 : decode b_NC_type 8 = .ok (.ireturn, 1) := by decide +kernel
theorem d_NC_type_9 : decode b_NC_type 9 = .ok (.aload_n 0, 1) := by decide +kernel
theorem d_NC_type_10 : decode b_NC_type 10 = .ok (.getfield 20, 3) := by decide +kernel
theorem d_NC_type_13 : decode b_NC_type 13 = .ok (.bipush 30, 2) := by decide +kernel
theorem d_NC_type_15 : decode b_NC_type 15 = .ok (.if_icmp .lt 6, 3) := by decide +kernel
theorem d_NC_type_18 : decode b_NC_type 18 = .ok (.bipush (-3), 2) := by decide +kernel
theorem d_NC_type_20 : decode b_NC_type 20 = .ok (.ireturn, 1) := by decide +kernel
theorem d_NC_type_21 : decode b_NC_type 21 = .ok (.aload_n 0, 1) := by decide +kernel
theorem d_NC_type_22 : decode b_NC_type 22 = .ok (.getfield 16, 3) := by decide +kernel
theorem d_NC_type_25 : decode b_NC_type 25 = .ok (.aload_n 0, 1) := by decide +kernel
theorem d_NC_type_26 : decode b_NC_type 26 = .ok (.getfield 20, 3) := by decide +kernel
theorem d_NC_type_29 : decode b_NC_type 29 = .ok (.iload_n 1, 1) := by decide +kernel
theorem d_NC_type_30 : decode b_NC_type 30 = .ok (.iastore, 1) := by decide +kernel
theorem d_NC_type_31 : decode b_NC_type 31 = .ok (.aload_n 0, 1) := by decide +kernel
theorem d_NC_type_32 : decode b_NC_type 32 = .ok (.dup, 1) := by decide +kernel
theorem d_NC_type_33 : decode b_NC_type 33 = .ok (.getfield 20, 3) := by decide +kernel
theorem d_NC_type_36 : decode b_NC_type 36 = .ok (.iconst 1, 1) := by decide +kernel
theorem d_NC_type_37 : decode b_NC_type 37 = .ok (.iadd, 1) := by decide +kernel
theorem d_NC_type_38 : decode b_NC_type 38 = .ok (.putfield 20, 3) := by decide +kernel
theorem d_NC_type_41 : decode b_NC_type 41 = .ok (.aload_n 0, 1) := by decide +kernel
theorem d_NC_type_42 : decode b_NC_type 42 = .ok (.getfield 20, 3) := by decide +kernel
theorem d_NC_type_45 : decode b_NC_type 45 = .ok (.ireturn, 1) := by decide +kernel
theorem d_NC_wipe_0 : decode b_NC_wipe 0 = .ok (.aload_n 0, 1) := by decide +kernel
theorem d_NC_wipe_1 : decode b_NC_wipe 1 = .ok (.getfield 20, 3) := by decide +kernel
theorem d_NC_wipe_4 : decode b_NC_wipe 4 = .ok (.istore_n 1, 1) := by decide +kernel
theorem d_NC_wipe_5 : decode b_NC_wipe 5 = .ok (.aload_n 0, 1) := by decide +kernel
theorem d_NC_wipe_6 : decode b_NC_wipe 6 = .ok (.iconst 0, 1) := by decide +kernel
theorem d_NC_wipe_7 : decode b_NC_wipe 7 = .ok (.putfield 20, 3) := by decide +kernel
theorem d_NC_wipe_10 : decode b_NC_wipe 10 = .ok (.iload_n 1, 1) := by decide +kernel
theorem d_NC_wipe_11 : decode b_NC_wipe 11 = .ok (.ireturn, 1) := by decide +kernel
theorem d_NC_fits_0 : decode b_NC_fits 0 = .ok (.aload_n 0, 1) := by decide +kernel
theorem d_NC_fits_1 : decode b_NC_fits 1 = .ok (.getfield 10, 3) := by decide +kernel
theorem d_NC_fits_4 : decode b_NC_fits 4 = .ok (.iload_n 1, 1) := by decide +kernel
theorem d_NC_fits_5 : decode b_NC_fits 5 = .ok (.invokevirtual 99, 3) := by decide +kernel
theorem d_NC_fits_8 : decode b_NC_fits 8 = .ok (.ifCond .ne 5, 3) := by decide +kernel
theorem d_NC_fits_11 : decode b_NC_fits 11 = .ok (.iconst (-1), 1) := by decide +kernel
theorem d_NC_fits_12 : decode b_NC_fits 12 = .ok (.ireturn, 1) := by decide +kernel
theorem d_NC_fits_13 : decode b_NC_fits 13 = .ok (.aload_n 0, 1) := by decide +kernel
theorem d_NC_fits_14 : decode b_NC_fits 14 = .ok (.getfield 34, 3) := by decide +kernel
theorem d_NC_fits_17 : decode b_NC_fits 17 = .ok (.aload_n 0, 1) := by decide +kernel
theorem d_NC_fits_18 : decode b_NC_fits 18 = .ok (.getfield 16, 3) := by decide +kernel
theorem d_NC_fits_21 : decode b_NC_fits 21 = .ok (.aload_n 0, 1) := by decide +kernel
theorem d_NC_fits_22 : decode b_NC_fits 22 = .ok (.getfield 20, 3) := by decide +kernel
theorem d_NC_fits_25 : decode b_NC_fits 25 = .ok (.invokevirtual 114, 3) := by decide +kernel
theorem d_NC_fits_28 : decode b_NC_fits 28 = .ok (.iconst (-1), 1) := by decide +kernel
theorem d_NC_fits_29 : decode b_NC_fits 29 = .ok (.if_icmp .ne 13, 3) := by decide +kernel
theorem d_NC_fits_32 : decode b_NC_fits 32 = .ok (.aload_n 0, 1) := by decide +kernel
theorem d_NC_fits_33 : decode b_NC_fits 33 = .ok (.getfield 34, 3) := by decide +kernel
theorem d_NC_fits_36 : decode b_NC_fits 36 = .ok (.invokevirtual 118, 3) := by decide +kernel
theorem d_NC_fits_39 : decode b_NC_fits 39 = .ok (.ifCond .ne 6, 3) := by decide +kernel
theorem d_NC_fits_42 : decode b_NC_fits 42 = .ok (.bipush (-2), 2) := by decide +kernel
theorem d_NC_fits_44 : decode b_NC_fits 44 = .ok (.ireturn, 1) := by decide +kernel
theorem d_NC_fits_45 : decode b_NC_fits 45 = .ok (.aload_n 0, 1) := by decide +kernel
theorem d_NC_fits_46 : decode b_NC_fits 46 = .ok (.aload_n 0, 1) := by decide +kernel
theorem d_NC_fits_47 : decode b_NC_fits 47 = .ok (.getfield 34, 3) := by decide +kernel
theorem d_NC_fits_50 : decode b_NC_fits 50 = .ok (.iconst 0, 1) := by decide +kernel
theorem d_NC_fits_51 : decode b_NC_fits 51 = .ok (.iconst 1, 1) := by decide +kernel
theorem d_NC_fits_52 : decode b_NC_fits 52 = .ok (.invokevirtual 122, 3) := by decide +kernel
theorem d_NC_fits_55 : decode b_NC_fits 55 = .ok (.iload_n 1, 1) := by decide +kernel
theorem d_NC_fits_56 : decode b_NC_fits 56 = .ok (.invokestatic 126, 3) := by decide +kernel
theorem d_NC_fits_59 : decode b_NC_fits 59 = .ok (.ifCond .eq 7, 3) := by decide +kernel
theorem d_NC_fits_62 : decode b_NC_fits 62 = .ok (.iconst 1, 1) := by decide +kernel
theorem d_NC_fits_63 : decode b_NC_fits 63 = .ok (.goto 4, 3) := by decide +kernel
theorem d_NC_fits_66 : decode b_NC_fits 66 = .ok (.iconst 0, 1) := by decide +kernel
theorem d_NC_fits_67 : decode b_NC_fits 67 = .ok (.istore_n 2, 1) := by decide +kernel
theorem d_NC_fits_68 : decode b_NC_fits 68 = .ok (.aload_n 0, 1) := by decide +kernel
theorem d_NC_fits_69 : decode b_NC_fits 69 = .ok (.aload_n 0, 1) := by decide +kernel
theorem d_NC_fits_70 : decode b_NC_fits 70 = .ok (.getfield 34, 3) := by decide +kernel
theorem d_NC_fits_73 : decode b_NC_fits 73 = .ok (.iconst 0, 1) := by decide +kernel
theorem d_NC_fits_74 : decode b_NC_fits 74 = .ok (.iconst 2, 1) := by decide +kernel
theorem d_NC_fits_75 : decode b_NC_fits 75 = .ok (.invokevirtual 122, 3) := by decide +kernel
theorem d_NC_fits_78 : decode b_NC_fits 78 = .ok (.iload_n 1, 1) := by decide +kernel
theorem d_NC_fits_79 : decode b_NC_fits 79 = .ok (.invokestatic 126, 3) := by decide +kernel
theorem d_NC_fits_82 : decode b_NC_fits 82 = .ok (.ifCond .eq 7, 3) := by decide +kernel
theorem d_NC_fits_85 : decode b_NC_fits 85 = .ok (.iconst 2, 1) := by decide +kernel
theorem d_NC_fits_86 : decode b_NC_fits 86 = .ok (.goto 4, 3) := by decide +kernel
theorem d_NC_fits_89 : decode b_NC_fits 89 = .ok (.iconst 0, 1) := by decide +kernel
theorem d_NC_fits_90 : decode b_NC_fits 90 = .ok (.istore_n 3, 1) := by decide +kernel
theorem d_NC_fits_91 : decode b_NC_fits 91 = .ok (.iload_n 2, 1) := by decide +kernel
theorem d_NC_fits_92 : decode b_NC_fits 92 = .ok (.iload_n 3, 1) := by decide +kernel
theorem d_NC_fits_93 : decode b_NC_fits 93 = .ok (.ior, 1) := by decide +kernel
theorem d_NC_fits_94 : decode b_NC_fits 94 = .ok (.ireturn, 1) := by decide +kernel
theorem d_NC_choose_0 : decode b_NC_choose 0 = .ok (.aload_n 0, 1) := by decide +kernel
theorem d_NC_choose_1 : decode b_NC_choose 1 = .ok (.getfield 34, 3) := by decide +kernel
theorem d_NC_choose_4 : decode b_NC_choose 4 = .ok (.aload_n 0, 1) := by decide +kernel
theorem d_NC_choose_5 : decode b_NC_choose 5 = .ok (.getfield 16, 3) := by decide +kernel
theorem d_NC_choose_8 : decode b_NC_choose 8 = .ok (.aload_n 0, 1) := by decide +kernel
theorem d_NC_choose_9 : decode b_NC_choose 9 = .ok (.getfield 20, 3) := by decide +kernel
theorem d_NC_choose_12 : decode b_NC_choose 12 = .ok (.invokevirtual 114, 3) := by decide +kernel
theorem d_NC_choose_15 : decode b_NC_choose 15 = .ok (.istore_n 1, 1) := by decide +kernel
theorem d_NC_choose_16 : decode b_NC_choose 16 = .ok (.iload_n 1, 1) := by decide +kernel
theorem d_NC_choose_17 : decode b_NC_choose 17 = .ok (.iconst (-1), 1) := by decide +kernel
theorem d_NC_choose_18 : decode b_NC_choose 18 = .ok (.if_icmp .eq 9, 3) := by decide +kernel
theorem d_NC_choose_21 : decode b_NC_choose 21 = .ok (.aload_n 0, 1) := by decide +kernel
theorem d_NC_choose_22 : decode b_NC_choose 22 = .ok (.iload_n 1, 1) := by decide +kernel
theorem d_NC_choose_23 : decode b_NC_choose 23 = .ok (.invokevirtual 129, 3) := by decide +kernel
theorem d_NC_choose_26 : decode b_NC_choose 26 = .ok (.ireturn, 1) := by decide +kernel
theorem d_NC_choose_27 : decode b_NC_choose 27 = .ok (.aload_n 0, 1) := by decide +kernel
theorem d_NC_choose_28 : decode b_NC_choose 28 = .ok (.iconst 0, 1) := by decide +kernel
theorem d_NC_choose_29 : decode b_NC_choose 29 = .ok (.putfield 20, 3) := by decide +kernel
theorem d_NC_choose_32 : decode b_NC_choose 32 = .ok (.aload_n 0, 1) := by decide +kernel
theorem d_NC_choose_33 : decode b_NC_choose 33 = .ok (.getfield 30, 3) := by decide +kernel
theorem d_NC_choose_36 : decode b_NC_choose 36 = .ok (.astore_n 2, 1) := by decide +kernel
theorem d_NC_choose_37 : decode b_NC_choose 37 = .ok (.aload_n 0, 1) := by decide +kernel
theorem d_NC_choose_38 : decode b_NC_choose 38 = .ok (.aload_n 0, 1) := by decide +kernel
theorem d_NC_choose_39 : decode b_NC_choose 39 = .ok (.getfield 34, 3) := by decide +kernel
theorem d_NC_choose_42 : decode b_NC_choose 42 = .ok (.putfield 30, 3) := by decide +kernel
theorem d_NC_choose_45 : decode b_NC_choose 45 = .ok (.aload_n 0, 1) := by decide +kernel
theorem d_NC_choose_46 : decode b_NC_choose 46 = .ok (.aload_n 2, 1) := by decide +kernel
theorem d_NC_choose_47 : decode b_NC_choose 47 = .ok (.putfield 34, 3) := by decide +kernel
theorem d_NC_choose_50 : decode b_NC_choose 50 = .ok (.aload_n 0, 1) := by decide +kernel
theorem d_NC_choose_51 : decode b_NC_choose 51 = .ok (.getfield 37, 3) := by decide +kernel
theorem d_NC_choose_54 : decode b_NC_choose 54 = .ok (.iconst (-1), 1) := by decide +kernel
theorem d_NC_choose_55 : decode b_NC_choose 55 = .ok (.invokestatic 68, 3) := by decide +kernel
theorem d_NC_choose_58 : decode b_NC_choose 58 = .ok (.aload_n 0, 1) := by decide +kernel
theorem d_NC_choose_59 : decode b_NC_choose 59 = .ok (.invokevirtual 132, 3) := by decide +kernel
theorem d_NC_choose_62 : decode b_NC_choose 62 = .ok (.ireturn, 1) := by decide +kernel
theorem d_NC_reply_0 : decode b_NC_reply 0 = .ok (.aload_n 0, 1) := by decide +kernel
theorem d_NC_reply_1 : decode b_NC_reply 1 = .ok (.getfield 53, 3) := by decide +kernel
theorem d_NC_reply_4 : decode b_NC_reply 4 = .ok (.ifCond .ne 6, 3) := by decide +kernel
theorem d_NC_reply_7 : decode b_NC_reply 7 = .ok (.bipush (-4), 2) := by decide +kernel
theorem d_NC_reply_9 : decode b_NC_reply 9 = .ok (.ireturn, 1) := by decide +kernel
theorem d_NC_reply_10 : decode b_NC_reply 10 = .ok (.aload_n 0, 1) := by decide +kernel
theorem d_NC_reply_11 : decode b_NC_reply 11 = .ok (.invokevirtual 135, 3) := by decide +kernel
theorem d_NC_reply_14 : decode b_NC_reply 14 = .ok (.istore_n 1, 1) := by decide +kernel
theorem d_NC_reply_15 : decode b_NC_reply 15 = .ok (.iload_n 1, 1) := by decide +kernel
theorem d_NC_reply_16 : decode b_NC_reply 16 = .ok (.iconst (-1), 1) := by decide +kernel
theorem d_NC_reply_17 : decode b_NC_reply 17 = .ok (.if_icmp .eq 9, 3) := by decide +kernel
theorem d_NC_reply_20 : decode b_NC_reply 20 = .ok (.aload_n 0, 1) := by decide +kernel
theorem d_NC_reply_21 : decode b_NC_reply 21 = .ok (.iload_n 1, 1) := by decide +kernel
theorem d_NC_reply_22 : decode b_NC_reply 22 = .ok (.invokevirtual 129, 3) := by decide +kernel
theorem d_NC_reply_25 : decode b_NC_reply 25 = .ok (.ireturn, 1) := by decide +kernel
theorem d_NC_reply_26 : decode b_NC_reply 26 = .ok (.aload_n 0, 1) := by decide +kernel
theorem d_NC_reply_27 : decode b_NC_reply 27 = .ok (.invokevirtual 138, 3) := by decide +kernel
theorem d_NC_reply_30 : decode b_NC_reply 30 = .ok (.istore_n 2, 1) := by decide +kernel
theorem d_NC_reply_31 : decode b_NC_reply 31 = .ok (.aload_n 0, 1) := by decide +kernel
theorem d_NC_reply_32 : decode b_NC_reply 32 = .ok (.iconst 0, 1) := by decide +kernel
theorem d_NC_reply_33 : decode b_NC_reply 33 = .ok (.putfield 20, 3) := by decide +kernel
theorem d_NC_reply_36 : decode b_NC_reply 36 = .ok (.iload_n 2, 1) := by decide +kernel
theorem d_NC_reply_37 : decode b_NC_reply 37 = .ok (.ifCond .ne 16, 3) := by decide +kernel
theorem d_NC_reply_40 : decode b_NC_reply 40 = .ok (.aload_n 0, 1) := by decide +kernel
theorem d_NC_reply_41 : decode b_NC_reply 41 = .ok (.aload_n 0, 1) := by decide +kernel
theorem d_NC_reply_42 : decode b_NC_reply 42 = .ok (.getfield 56, 3) := by decide +kernel
theorem d_NC_reply_45 : decode b_NC_reply 45 = .ok (.iconst (-1), 1) := by decide +kernel
theorem d_NC_reply_46 : decode b_NC_reply 46 = .ok (.iconst (-1), 1) := by decide +kernel
theorem d_NC_reply_47 : decode b_NC_reply 47 = .ok (.invokevirtual 141, 3) := by decide +kernel
theorem d_NC_reply_50 : decode b_NC_reply 50 = .ok (.bipush (-18), 2) := by decide +kernel
theorem d_NC_reply_52 : decode b_NC_reply 52 = .ok (.ireturn, 1) := by decide +kernel
theorem d_NC_reply_53 : decode b_NC_reply 53 = .ok (.aload_n 0, 1) := by decide +kernel
theorem d_NC_reply_54 : decode b_NC_reply 54 = .ok (.getfield 56, 3) := by decide +kernel
theorem d_NC_reply_57 : decode b_NC_reply 57 = .ok (.ifCond .lt 25, 3) := by decide +kernel
theorem d_NC_reply_60 : decode b_NC_reply 60 = .ok (.aload_n 0, 1) := by decide +kernel
theorem d_NC_reply_61 : decode b_NC_reply 61 = .ok (.getfield 56, 3) := by decide +kernel
theorem d_NC_reply_64 : decode b_NC_reply 64 = .ok (.aload_n 0, 1) := by decide +kernel
theorem d_NC_reply_65 : decode b_NC_reply 65 = .ok (.getfield 37, 3) := by decide +kernel
theorem d_NC_reply_68 : decode b_NC_reply 68 = .ok (.arraylength, 1) := by decide +kernel
theorem d_NC_reply_69 : decode b_NC_reply 69 = .ok (.if_icmp .ge 13, 3) := by decide +kernel
theorem d_NC_reply_72 : decode b_NC_reply 72 = .ok (.aload_n 0, 1) := by decide +kernel
theorem d_NC_reply_73 : decode b_NC_reply 73 = .ok (.getfield 37, 3) := by decide +kernel
theorem d_NC_reply_76 : decode b_NC_reply 76 = .ok (.aload_n 0, 1) := by decide +kernel
theorem d_NC_reply_77 : decode b_NC_reply 77 = .ok (.getfield 56, 3) := by decide +kernel
theorem d_NC_reply_80 : decode b_NC_reply 80 = .ok (.iload_n 2, 1) := by decide +kernel
theorem d_NC_reply_81 : decode b_NC_reply 81 = .ok (.iastore, 1) := by decide +kernel
theorem d_NC_reply_82 : decode b_NC_reply 82 = .ok (.aload_n 0, 1) := by decide +kernel
theorem d_NC_reply_83 : decode b_NC_reply 83 = .ok (.invokevirtual 132, 3) := by decide +kernel
theorem d_NC_reply_86 : decode b_NC_reply 86 = .ok (.ireturn, 1) := by decide +kernel
theorem d_NC_chosen_0 : decode b_NC_chosen 0 = .ok (.iload_n 1, 1) := by decide +kernel
theorem d_NC_chosen_1 : decode b_NC_chosen 1 = .ok (.iconst (-1), 1) := by decide +kernel
theorem d_NC_chosen_2 : decode b_NC_chosen 2 = .ok (.if_icmp .ne 13, 3) := by decide +kernel
theorem d_NC_chosen_5 : decode b_NC_chosen 5 = .ok (.aload_n 0, 1) := by decide +kernel
theorem d_NC_chosen_6 : decode b_NC_chosen 6 = .ok (.getfield 43, 3) := by decide +kernel
theorem d_NC_chosen_9 : decode b_NC_chosen 9 = .ok (.getfield 145, 3) := by decide +kernel
theorem d_NC_chosen_12 : decode b_NC_chosen 12 = .ok (.goto 11, 3) := by decide +kernel
theorem d_NC_chosen_15 : decode b_NC_chosen 15 = .ok (.aload_n 0, 1) := by decide +kernel
theorem d_NC_chosen_16 : decode b_NC_chosen 16 = .ok (.getfield 43, 3) := by decide +kernel
theorem d_NC_chosen_19 : decode b_NC_chosen 19 = .ok (.iload_n 1, 1) := by decide +kernel
theorem d_NC_chosen_20 : decode b_NC_chosen 20 = .ok (.invokevirtual 148, 3) := by decide +kernel
theorem d_NC_chosen_23 : decode b_NC_chosen 23 = .ok (.ireturn, 1) := by decide +kernel
theorem d_NC_asked_0 : decode b_NC_asked 0 = .ok (.iload_n 1, 1) := by decide +kernel
theorem d_NC_asked_1 : decode b_NC_asked 1 = .ok (.iconst (-1), 1) := by decide +kernel
theorem d_NC_asked_2 : decode b_NC_asked 2 = .ok (.if_icmp .ne 15, 3) := by decide +kernel
theorem d_NC_asked_5 : decode b_NC_asked 5 = .ok (.aload_n 0, 1) := by decide +kernel
theorem d_NC_asked_6 : decode b_NC_asked 6 = .ok (.aload_n 0, 1) := by decide +kernel
theorem d_NC_asked_7 : decode b_NC_asked 7 = .ok (.getfield 53, 3) := by decide +kernel
theorem d_NC_asked_10 : decode b_NC_asked 10 = .ok (.invokevirtual 151, 3) := by decide +kernel
theorem d_NC_asked_13 : decode b_NC_asked 13 = .ok (.invokestatic 154, 3) := by decide +kernel
theorem d_NC_asked_16 : decode b_NC_asked 16 = .ok (.ireturn, 1) := by decide +kernel
theorem d_NC_asked_17 : decode b_NC_asked 17 = .ok (.aload_n 0, 1) := by decide +kernel
theorem d_NC_asked_18 : decode b_NC_asked 18 = .ok (.iload_n 1, 1) := by decide +kernel
theorem d_NC_asked_19 : decode b_NC_asked 19 = .ok (.invokevirtual 159, 3) := by decide +kernel
theorem d_NC_asked_22 : decode b_NC_asked 22 = .ok (.istore_n 3, 1) := by decide +kernel
theorem d_NC_asked_23 : decode b_NC_asked 23 = .ok (.iload_n 3, 1) := by decide +kernel
theorem d_NC_asked_24 : decode b_NC_asked 24 = .ok (.ifCond .ne 5, 3) := by decide +kernel
theorem d_NC_asked_27 : decode b_NC_asked 27 = .ok (.iconst (-1), 1) := by decide +kernel
theorem d_NC_asked_28 : decode b_NC_asked 28 = .ok (.ireturn, 1) := by decide +kernel
theorem d_NC_asked_29 : decode b_NC_asked 29 = .ok (.iload_n 2, 1) := by decide +kernel
theorem d_NC_asked_30 : decode b_NC_asked 30 = .ok (.iconst (-1), 1) := by decide +kernel
theorem d_NC_asked_31 : decode b_NC_asked 31 = .ok (.if_icmp .ne 10, 3) := by decide +kernel
theorem d_NC_asked_34 : decode b_NC_asked 34 = .ok (.iload_n 3, 1) := by decide +kernel
theorem d_NC_asked_35 : decode b_NC_asked 35 = .ok (.invokestatic 154, 3) := by decide +kernel
theorem d_NC_asked_38 : decode b_NC_asked 38 = .ok (.goto 8, 3) := by decide +kernel
theorem d_NC_asked_41 : decode b_NC_asked 41 = .ok (.iload_n 3, 1) := by decide +kernel
theorem d_NC_asked_42 : decode b_NC_asked 42 = .ok (.iload_n 2, 1) := by decide +kernel
theorem d_NC_asked_43 : decode b_NC_asked 43 = .ok (.invokestatic 162, 3) := by decide +kernel
theorem d_NC_asked_46 : decode b_NC_asked 46 = .ok (.ireturn, 1) := by decide +kernel
theorem d_NC_told_0 : decode b_NC_told 0 = .ok (.iload_n 1, 1) := by decide +kernel
theorem d_NC_told_1 : decode b_NC_told 1 = .ok (.tableswitch 42 0 2 #[27, 32, 37], 27) := by decide +kernel
theorem d_NC_told_28 : decode b_NC_told 28 = .ok (.aload_n 0, 1) := by decide +kernel
theorem d_NC_told_29 : decode b_NC_told 29 = .ok (.getfield 59, 3) := by decide +kernel
theorem d_NC_told_32 : decode b_NC_told 32 = .ok (.ireturn, 1) := by decide +kernel
theorem d_NC_told_33 : decode b_NC_told 33 = .ok (.aload_n 0, 1) := by decide +kernel
theorem d_NC_told_34 : decode b_NC_told 34 = .ok (.getfield 62, 3) := by decide +kernel
theorem d_NC_told_37 : decode b_NC_told 37 = .ok (.ireturn, 1) := by decide +kernel
theorem d_NC_told_38 : decode b_NC_told 38 = .ok (.aload_n 0, 1) := by decide +kernel
theorem d_NC_told_39 : decode b_NC_told 39 = .ok (.getfield 65, 3) := by decide +kernel
theorem d_NC_told_42 : decode b_NC_told 42 = .ok (.ireturn, 1) := by decide +kernel
theorem d_NC_told_43 : decode b_NC_told 43 = .ok (.iconst (-1), 1) := by decide +kernel
theorem d_NC_told_44 : decode b_NC_told 44 = .ok (.ireturn, 1) := by decide +kernel
theorem d_NC_count_0 : decode b_NC_count 0 = .ok (.iload_n 1, 1) := by decide +kernel
theorem d_NC_count_1 : decode b_NC_count 1 = .ok (.tableswitch 88 0 5 #[39, 47, 58, 70, 75, 83], 39) := by decide +kernel
theorem d_NC_count_40 : decode b_NC_count 40 = .ok (.aload_n 0, 1) := by decide +kernel
theorem d_NC_count_41 : decode b_NC_count 41 = .ok (.getfield 10, 3) := by decide +kernel
theorem d_NC_count_44 : decode b_NC_count 44 = .ok (.getfield 165, 3) := by decide +kernel
theorem d_NC_count_47 : decode b_NC_count 47 = .ok (.ireturn, 1) := by decide +kernel
theorem d_NC_count_48 : decode b_NC_count 48 = .ok (.aload_n 0, 1) := by decide +kernel
theorem d_NC_count_49 : decode b_NC_count 49 = .ok (.getfield 10, 3) := by decide +kernel
theorem d_NC_count_52 : decode b_NC_count 52 = .ok (.invokevirtual 168, 3) := by decide +kernel
theorem d_NC_count_55 : decode b_NC_count 55 = .ok (.invokestatic 154, 3) := by decide +kernel
theorem d_NC_count_58 : decode b_NC_count 58 = .ok (.ireturn, 1) := by decide +kernel
theorem d_NC_count_59 : decode b_NC_count 59 = .ok (.aload_n 0, 1) := by decide +kernel
theorem d_NC_count_60 : decode b_NC_count 60 = .ok (.getfield 10, 3) := by decide +kernel
theorem d_NC_count_63 : decode b_NC_count 63 = .ok (.iconst 2, 1) := by decide +kernel
theorem d_NC_count_64 : decode b_NC_count 64 = .ok (.invokevirtual 171, 3) := by decide +kernel
theorem d_NC_count_67 : decode b_NC_count 67 = .ok (.invokestatic 154, 3) := by decide +kernel
theorem d_NC_count_70 : decode b_NC_count 70 = .ok (.ireturn, 1) := by decide +kernel
theorem d_NC_count_71 : decode b_NC_count 71 = .ok (.aload_n 0, 1) := by decide +kernel
theorem d_NC_count_72 : decode b_NC_count 72 = .ok (.getfield 20, 3) := by decide +kernel
theorem d_NC_count_75 : decode b_NC_count 75 = .ok (.ireturn, 1) := by decide +kernel
theorem d_NC_count_76 : decode b_NC_count 76 = .ok (.aload_n 0, 1) := by decide +kernel
theorem d_NC_count_77 : decode b_NC_count 77 = .ok (.getfield 30, 3) := by decide +kernel
theorem d_NC_count_80 : decode b_NC_count 80 = .ok (.getfield 174, 3) := by decide +kernel
theorem d_NC_count_83 : decode b_NC_count 83 = .ok (.ireturn, 1) := by decide +kernel
theorem d_NC_count_84 : decode b_NC_count 84 = .ok (.aload_n 0, 1) := by decide +kernel
theorem d_NC_count_85 : decode b_NC_count 85 = .ok (.getfield 24, 3) := by decide +kernel
theorem d_NC_count_88 : decode b_NC_count 88 = .ok (.ireturn, 1) := by decide +kernel
theorem d_NC_count_89 : decode b_NC_count 89 = .ok (.iconst (-1), 1) := by decide +kernel
theorem d_NC_count_90 : decode b_NC_count 90 = .ok (.ireturn, 1) := by decide +kernel
theorem d_NC_init_0 : decode b_NC_init 0 = .ok (.aload_n 0, 1) := by decide +kernel
theorem d_NC_init_1 : decode b_NC_init 1 = .ok (.invokespecial 1, 3) := by decide +kernel
theorem d_NC_init_4 : decode b_NC_init 4 = .ok (.aload_n 0, 1) := by decide +kernel
theorem d_NC_init_5 : decode b_NC_init 5 = .ok (.new 7, 3) := by decide +kernel
theorem d_NC_init_8 : decode b_NC_init 8 = .ok (.dup, 1) := by decide +kernel
theorem d_NC_init_9 : decode b_NC_init 9 = .ok (.invokespecial 9, 3) := by decide +kernel
theorem d_NC_init_12 : decode b_NC_init 12 = .ok (.putfield 10, 3) := by decide +kernel
theorem d_NC_init_15 : decode b_NC_init 15 = .ok (.aload_n 0, 1) := by decide +kernel
theorem d_NC_init_16 : decode b_NC_init 16 = .ok (.bipush 30, 2) := by decide +kernel
theorem d_NC_init_18 : decode b_NC_init 18 = .ok (.newarray .int, 2) := by decide +kernel
theorem d_NC_init_20 : decode b_NC_init 20 = .ok (.putfield 16, 3) := by decide +kernel
theorem d_NC_init_23 : decode b_NC_init 23 = .ok (.aload_n 0, 1) := by decide +kernel
theorem d_NC_init_24 : decode b_NC_init 24 = .ok (.iconst 0, 1) := by decide +kernel
theorem d_NC_init_25 : decode b_NC_init 25 = .ok (.putfield 20, 3) := by decide +kernel
theorem d_NC_init_28 : decode b_NC_init 28 = .ok (.aload_n 0, 1) := by decide +kernel
theorem d_NC_init_29 : decode b_NC_init 29 = .ok (.bipush 32, 2) := by decide +kernel
theorem d_NC_init_31 : decode b_NC_init 31 = .ok (.putfield 24, 3) := by decide +kernel
theorem d_NC_init_34 : decode b_NC_init 34 = .ok (.aload_n 0, 1) := by decide +kernel
theorem d_NC_init_35 : decode b_NC_init 35 = .ok (.new 27, 3) := by decide +kernel
theorem d_NC_init_38 : decode b_NC_init 38 = .ok (.dup, 1) := by decide +kernel
theorem d_NC_init_39 : decode b_NC_init 39 = .ok (.invokespecial 29, 3) := by decide +kernel
theorem d_NC_init_42 : decode b_NC_init 42 = .ok (.putfield 30, 3) := by decide +kernel
theorem d_NC_init_45 : decode b_NC_init 45 = .ok (.aload_n 0, 1) := by decide +kernel
theorem d_NC_init_46 : decode b_NC_init 46 = .ok (.new 27, 3) := by decide +kernel
theorem d_NC_init_49 : decode b_NC_init 49 = .ok (.dup, 1) := by decide +kernel
theorem d_NC_init_50 : decode b_NC_init 50 = .ok (.invokespecial 29, 3) := by decide +kernel
theorem d_NC_init_53 : decode b_NC_init 53 = .ok (.putfield 34, 3) := by decide +kernel
theorem d_NC_init_56 : decode b_NC_init 56 = .ok (.aload_n 0, 1) := by decide +kernel
theorem d_NC_init_57 : decode b_NC_init 57 = .ok (.bipush 30, 2) := by decide +kernel
theorem d_NC_init_59 : decode b_NC_init 59 = .ok (.newarray .int, 2) := by decide +kernel
theorem d_NC_init_61 : decode b_NC_init 61 = .ok (.putfield 37, 3) := by decide +kernel
theorem d_NC_init_64 : decode b_NC_init 64 = .ok (.aload_n 0, 1) := by decide +kernel
theorem d_NC_init_65 : decode b_NC_init 65 = .ok (.new 40, 3) := by decide +kernel
theorem d_NC_init_68 : decode b_NC_init 68 = .ok (.dup, 1) := by decide +kernel
theorem d_NC_init_69 : decode b_NC_init 69 = .ok (.invokespecial 42, 3) := by decide +kernel
theorem d_NC_init_72 : decode b_NC_init 72 = .ok (.putfield 43, 3) := by decide +kernel
theorem d_NC_init_75 : decode b_NC_init 75 = .ok (.aload_n 0, 1) := by decide +kernel
theorem d_NC_init_76 : decode b_NC_init 76 = .ok (.new 40, 3) := by decide +kernel
theorem d_NC_init_79 : decode b_NC_init 79 = .ok (.dup, 1) := by decide +kernel
theorem d_NC_init_80 : decode b_NC_init 80 = .ok (.invokespecial 42, 3) := by decide +kernel
theorem d_NC_init_83 : decode b_NC_init 83 = .ok (.putfield 47, 3) := by decide +kernel
theorem d_NC_init_86 : decode b_NC_init 86 = .ok (.aload_n 0, 1) := by decide +kernel
theorem d_NC_init_87 : decode b_NC_init 87 = .ok (.iconst 0, 1) := by decide +kernel
theorem d_NC_init_88 : decode b_NC_init 88 = .ok (.putfield 50, 3) := by decide +kernel
theorem d_NC_init_91 : decode b_NC_init 91 = .ok (.aload_n 0, 1) := by decide +kernel
theorem d_NC_init_92 : decode b_NC_init 92 = .ok (.iconst 0, 1) := by decide +kernel
theorem d_NC_init_93 : decode b_NC_init 93 = .ok (.putfield 53, 3) := by decide +kernel
theorem d_NC_init_96 : decode b_NC_init 96 = .ok (.aload_n 0, 1) := by decide +kernel
theorem d_NC_init_97 : decode b_NC_init 97 = .ok (.iconst 0, 1) := by decide +kernel
theorem d_NC_init_98 : decode b_NC_init 98 = .ok (.putfield 56, 3) := by decide +kernel
theorem d_NC_init_101 : decode b_NC_init 101 = .ok (.aload_n 0, 1) := by decide +kernel
theorem d_NC_init_102 : decode b_NC_init 102 = .ok (.iconst (-1), 1) := by decide +kernel
theorem d_NC_init_103 : decode b_NC_init 103 = .ok (.putfield 59, 3) := by decide +kernel
theorem d_NC_init_106 : decode b_NC_init 106 = .ok (.aload_n 0, 1) := by decide +kernel
theorem d_NC_init_107 : decode b_NC_init 107 = .ok (.iconst (-1), 1) := by decide +kernel
theorem d_NC_init_108 : decode b_NC_init 108 = .ok (.putfield 62, 3) := by decide +kernel
theorem d_NC_init_111 : decode b_NC_init 111 = .ok (.aload_n 0, 1) := by decide +kernel
theorem d_NC_init_112 : decode b_NC_init 112 = .ok (.iconst (-1), 1) := by decide +kernel
theorem d_NC_init_113 : decode b_NC_init 113 = .ok (.putfield 65, 3) := by decide +kernel
theorem d_NC_init_116 : decode b_NC_init 116 = .ok (.aload_n 0, 1) := by decide +kernel
theorem d_NC_init_117 : decode b_NC_init 117 = .ok (.getfield 37, 3) := by decide +kernel
theorem d_NC_init_120 : decode b_NC_init 120 = .ok (.iconst (-1), 1) := by decide +kernel
theorem d_NC_init_121 : decode b_NC_init 121 = .ok (.invokestatic 68, 3) := by decide +kernel
theorem d_NC_init_124 : decode b_NC_init 124 = .ok (.return_, 1) := by decide +kernel

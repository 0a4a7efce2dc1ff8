theorem d_Phrase_isPart_0 : decode b_Phrase_isPart 0 = .ok (.iload_n 1, 1) := by decide +kernel
theorem d_Phrase_isPart_1 : decode b_Phrase_isPart 1 = .ok (.ifCond .lt 21, 3) := by decide +kernel
theorem d_Phrase_isPart_4 : decode b_Phrase_isPart 4 = .ok (.iload_n 1, 1) := by decide +kernel
theorem d_Phrase_isPart_5 : decode b_Phrase_isPart 5 = .ok (.aload_n 0, 1) := by decide +kernel
theorem d_Phrase_isPart_6 : decode b_Phrase_isPart 6 = .ok (.getfield 24, 3) := by decide +kernel
theorem d_Phrase_isPart_9 : decode b_Phrase_isPart 9 = .ok (.if_icmp .ge 13, 3) := by decide +kernel
theorem d_Phrase_isPart_12 : decode b_Phrase_isPart 12 = .ok (.iload_n 1, 1) := by decide +kernel
theorem d_Phrase_isPart_13 : decode b_Phrase_isPart 13 = .ok (.bipush 30, 2) := by decide +kernel
theorem d_Phrase_isPart_15 : decode b_Phrase_isPart 15 = .ok (.if_icmp .ge 7, 3) := by decide +kernel
theorem d_Phrase_isPart_18 : decode b_Phrase_isPart 18 = .ok (.iconst 1, 1) := by decide +kernel
theorem d_Phrase_isPart_19 : decode b_Phrase_isPart 19 = .ok (.goto 4, 3) := by decide +kernel
theorem d_Phrase_isPart_22 : decode b_Phrase_isPart 22 = .ok (.iconst 0, 1) := by decide +kernel
theorem d_Phrase_isPart_23 : decode b_Phrase_isPart 23 = .ok (.ireturn, 1) := by decide +kernel
theorem d_Phrase_isOwn_0 : decode b_Phrase_isOwn 0 = .ok (.iload_n 1, 1) := by decide +kernel
theorem d_Phrase_isOwn_1 : decode b_Phrase_isOwn 1 = .ok (.ifCond .lt 21, 3) := by decide +kernel
theorem d_Phrase_isOwn_4 : decode b_Phrase_isOwn 4 = .ok (.iload_n 1, 1) := by decide +kernel
theorem d_Phrase_isOwn_5 : decode b_Phrase_isOwn 5 = .ok (.aload_n 0, 1) := by decide +kernel
theorem d_Phrase_isOwn_6 : decode b_Phrase_isOwn 6 = .ok (.getfield 37, 3) := by decide +kernel
theorem d_Phrase_isOwn_9 : decode b_Phrase_isOwn 9 = .ok (.if_icmp .ge 13, 3) := by decide +kernel
theorem d_Phrase_isOwn_12 : decode b_Phrase_isOwn 12 = .ok (.iload_n 1, 1) := by decide +kernel
theorem d_Phrase_isOwn_13 : decode b_Phrase_isOwn 13 = .ok (.bipush 30, 2) := by decide +kernel
theorem d_Phrase_isOwn_15 : decode b_Phrase_isOwn 15 = .ok (.if_icmp .ge 7, 3) := by decide +kernel
theorem d_Phrase_isOwn_18 : decode b_Phrase_isOwn 18 = .ok (.iconst 1, 1) := by decide +kernel
theorem d_Phrase_isOwn_19 : decode b_Phrase_isOwn 19 = .ok (.goto 4, 3) := by decide +kernel
theorem d_Phrase_isOwn_22 : decode b_Phrase_isOwn 22 = .ok (.iconst 0, 1) := by decide +kernel
theorem d_Phrase_isOwn_23 : decode b_Phrase_isOwn 23 = .ok (.ireturn, 1) := by decide +kernel
theorem d_Phrase_isDescription_0 : decode b_Phrase_isDescription 0 = .ok (.aload_n 0, 1) := by decide +kernel
theorem d_Phrase_isDescription_1 : decode b_Phrase_isDescription 1 = .ok (.getfield 24, 3) := by decide +kernel
theorem d_Phrase_isDescription_4 : decode b_Phrase_isDescription 4 = .ok (.iconst 1, 1) := by decide +kernel
theorem d_Phrase_isDescription_5 : decode b_Phrase_isDescription 5 = .ok (.if_icmp .ne 24, 3) := by decide +kernel
theorem d_Phrase_isDescription_8 : decode b_Phrase_isDescription 8 = .ok (.aload_n 0, 1) := by decide +kernel
theorem d_Phrase_isDescription_9 : decode b_Phrase_isDescription 9 = .ok (.getfield 37, 3) := by decide +kernel
theorem d_Phrase_isDescription_12 : decode b_Phrase_isDescription 12 = .ok (.iconst 1, 1) := by decide +kernel
theorem d_Phrase_isDescription_13 : decode b_Phrase_isDescription 13 = .ok (.if_icmp .ne 16, 3) := by decide +kernel
theorem d_Phrase_isDescription_16 : decode b_Phrase_isDescription 16 = .ok (.aload_n 0, 1) := by decide +kernel
theorem d_Phrase_isDescription_17 : decode b_Phrase_isDescription 17 = .ok (.getfield 9, 3) := by decide +kernel
theorem d_Phrase_isDescription_20 : decode b_Phrase_isDescription 20 = .ok (.iconst 0, 1) := by decide +kernel
theorem d_Phrase_isDescription_21 : decode b_Phrase_isDescription 21 = .ok (.iaload, 1) := by decide +kernel
theorem d_Phrase_isDescription_22 : decode b_Phrase_isDescription 22 = .ok (.ifCond .ne 7, 3) := by decide +kernel
theorem d_Phrase_isDescription_25 : decode b_Phrase_isDescription 25 = .ok (.iconst 1, 1) := by decide +kernel
theorem d_Phrase_isDescription_26 : decode b_Phrase_isDescription 26 = .ok (.goto 4, 3) := by decide +kernel
theorem d_Phrase_isDescription_29 : decode b_Phrase_isDescription 29 = .ok (.iconst 0, 1) := by decide +kernel
theorem d_Phrase_isDescription_30 : decode b_Phrase_isDescription 30 = .ok (.ireturn, 1) := by decide +kernel
theorem d_Phrase_mayEnd_0 : decode b_Phrase_mayEnd 0 = .ok (.aload_n 0, 1) := by decide +kernel
theorem d_Phrase_mayEnd_1 : decode b_Phrase_mayEnd 1 = .ok (.getfield 40, 3) := by decide +kernel
theorem d_Phrase_mayEnd_4 : decode b_Phrase_mayEnd 4 = .ok (.iconst 1, 1) := by decide +kernel
theorem d_Phrase_mayEnd_5 : decode b_Phrase_mayEnd 5 = .ok (.if_icmp .eq 11, 3) := by decide +kernel
theorem d_Phrase_mayEnd_8 : decode b_Phrase_mayEnd 8 = .ok (.aload_n 0, 1) := by decide +kernel
theorem d_Phrase_mayEnd_9 : decode b_Phrase_mayEnd 9 = .ok (.getfield 40, 3) := by decide +kernel
theorem d_Phrase_mayEnd_12 : decode b_Phrase_mayEnd 12 = .ok (.iconst 4, 1) := by decide +kernel
theorem d_Phrase_mayEnd_13 : decode b_Phrase_mayEnd 13 = .ok (.if_icmp .ne 7, 3) := by decide +kernel
theorem d_Phrase_mayEnd_16 : decode b_Phrase_mayEnd 16 = .ok (.iconst 1, 1) := by decide +kernel
theorem d_Phrase_mayEnd_17 : decode b_Phrase_mayEnd 17 = .ok (.goto 4, 3) := by decide +kernel
theorem d_Phrase_mayEnd_20 : decode b_Phrase_mayEnd 20 = .ok (.iconst 0, 1) := by decide +kernel
theorem d_Phrase_mayEnd_21 : decode b_Phrase_mayEnd 21 = .ok (.ireturn, 1) := by decide +kernel
theorem d_Phrase_amountOf_0 : decode b_Phrase_amountOf 0 = .ok (.aload_n 0, 1) := by decide +kernel
theorem d_Phrase_amountOf_1 : decode b_Phrase_amountOf 1 = .ok (.iload_n 1, 1) := by decide +kernel
theorem d_Phrase_amountOf_2 : decode b_Phrase_amountOf 2 = .ok (.invokevirtual 54, 3) := by decide +kernel
theorem d_Phrase_amountOf_5 : decode b_Phrase_amountOf 5 = .ok (.ifCond .eq 12, 3) := by decide +kernel
theorem d_Phrase_amountOf_8 : decode b_Phrase_amountOf 8 = .ok (.aload_n 0, 1) := by decide +kernel
theorem d_Phrase_amountOf_9 : decode b_Phrase_amountOf 9 = .ok (.getfield 9, 3) := by decide +kernel
theorem d_Phrase_amountOf_12 : decode b_Phrase_amountOf 12 = .ok (.iload_n 1, 1) := by decide +kernel
theorem d_Phrase_amountOf_13 : decode b_Phrase_amountOf 13 = .ok (.iaload, 1) := by decide +kernel
theorem d_Phrase_amountOf_14 : decode b_Phrase_amountOf 14 = .ok (.goto 4, 3) := by decide +kernel
theorem d_Phrase_amountOf_17 : decode b_Phrase_amountOf 17 = .ok (.iconst 0, 1) := by decide +kernel
theorem d_Phrase_amountOf_18 : decode b_Phrase_amountOf 18 = .ok (.ireturn, 1) := by decide +kernel
theorem d_Phrase_mainOf_0 : decode b_Phrase_mainOf 0 = .ok (.aload_n 0, 1) := by decide +kernel
theorem d_Phrase_mainOf_1 : decode b_Phrase_mainOf 1 = .ok (.iload_n 1, 1) := by decide +kernel
theorem d_Phrase_mainOf_2 : decode b_Phrase_mainOf 2 = .ok (.invokevirtual 54, 3) := by decide +kernel
theorem d_Phrase_mainOf_5 : decode b_Phrase_mainOf 5 = .ok (.ifCond .eq 12, 3) := by decide +kernel
theorem d_Phrase_mainOf_8 : decode b_Phrase_mainOf 8 = .ok (.aload_n 0, 1) := by decide +kernel
theorem d_Phrase_mainOf_9 : decode b_Phrase_mainOf 9 = .ok (.getfield 15, 3) := by decide +kernel
theorem d_Phrase_mainOf_12 : decode b_Phrase_mainOf 12 = .ok (.iload_n 1, 1) := by decide +kernel
theorem d_Phrase_mainOf_13 : decode b_Phrase_mainOf 13 = .ok (.iaload, 1) := by decide +kernel
theorem d_Phrase_mainOf_14 : decode b_Phrase_mainOf 14 = .ok (.goto 4, 3) := by decide +kernel
theorem d_Phrase_mainOf_17 : decode b_Phrase_mainOf 17 = .ok (.iconst (-1), 1) := by decide +kernel
theorem d_Phrase_mainOf_18 : decode b_Phrase_mainOf 18 = .ok (.ireturn, 1) := by decide +kernel
theorem d_Phrase_exceptsStart_0 : decode b_Phrase_exceptsStart 0 = .ok (.aload_n 0, 1) := by decide +kernel
theorem d_Phrase_exceptsStart_1 : decode b_Phrase_exceptsStart 1 = .ok (.iload_n 1, 1) := by decide +kernel
theorem d_Phrase_exceptsStart_2 : decode b_Phrase_exceptsStart 2 = .ok (.invokevirtual 54, 3) := by decide +kernel
theorem d_Phrase_exceptsStart_5 : decode b_Phrase_exceptsStart 5 = .ok (.ifCond .eq 12, 3) := by decide +kernel
theorem d_Phrase_exceptsStart_8 : decode b_Phrase_exceptsStart 8 = .ok (.aload_n 0, 1) := by decide +kernel
theorem d_Phrase_exceptsStart_9 : decode b_Phrase_exceptsStart 9 = .ok (.getfield 18, 3) := by decide +kernel
theorem d_Phrase_exceptsStart_12 : decode b_Phrase_exceptsStart 12 = .ok (.iload_n 1, 1) := by decide +kernel
theorem d_Phrase_exceptsStart_13 : decode b_Phrase_exceptsStart 13 = .ok (.iaload, 1) := by decide +kernel
theorem d_Phrase_exceptsStart_14 : decode b_Phrase_exceptsStart 14 = .ok (.goto 4, 3) := by decide +kernel
theorem d_Phrase_exceptsStart_17 : decode b_Phrase_exceptsStart 17 = .ok (.iconst 0, 1) := by decide +kernel
theorem d_Phrase_exceptsStart_18 : decode b_Phrase_exceptsStart 18 = .ok (.ireturn, 1) := by decide +kernel
theorem d_Phrase_exceptsEnd_0 : decode b_Phrase_exceptsEnd 0 = .ok (.aload_n 0, 1) := by decide +kernel
theorem d_Phrase_exceptsEnd_1 : decode b_Phrase_exceptsEnd 1 = .ok (.iload_n 1, 1) := by decide +kernel
theorem d_Phrase_exceptsEnd_2 : decode b_Phrase_exceptsEnd 2 = .ok (.invokevirtual 54, 3) := by decide +kernel
theorem d_Phrase_exceptsEnd_5 : decode b_Phrase_exceptsEnd 5 = .ok (.ifCond .eq 12, 3) := by decide +kernel
theorem d_Phrase_exceptsEnd_8 : decode b_Phrase_exceptsEnd 8 = .ok (.aload_n 0, 1) := by decide +kernel
theorem d_Phrase_exceptsEnd_9 : decode b_Phrase_exceptsEnd 9 = .ok (.getfield 21, 3) := by decide +kernel
theorem d_Phrase_exceptsEnd_12 : decode b_Phrase_exceptsEnd 12 = .ok (.iload_n 1, 1) := by decide +kernel
theorem d_Phrase_exceptsEnd_13 : decode b_Phrase_exceptsEnd 13 = .ok (.iaload, 1) := by decide +kernel
theorem d_Phrase_exceptsEnd_14 : decode b_Phrase_exceptsEnd 14 = .ok (.goto 4, 3) := by decide +kernel
theorem d_Phrase_exceptsEnd_17 : decode b_Phrase_exceptsEnd 17 = .ok (.iconst 0, 1) := by decide +kernel
theorem d_Phrase_exceptsEnd_18 : decode b_Phrase_exceptsEnd 18 = .ok (.ireturn, 1) := by decide +kernel
theorem d_Phrase_leadingOf_0 : decode b_Phrase_leadingOf 0 = .ok (.aload_n 0, 1) := by decide +kernel
theorem d_Phrase_leadingOf_1 : decode b_Phrase_leadingOf 1 = .ok (.iload_n 1, 1) := by decide +kernel
theorem d_Phrase_leadingOf_2 : decode b_Phrase_leadingOf 2 = .ok (.invokevirtual 57, 3) := by decide +kernel
theorem d_Phrase_leadingOf_5 : decode b_Phrase_leadingOf 5 = .ok (.ifCond .eq 12, 3) := by decide +kernel
theorem d_Phrase_leadingOf_8 : decode b_Phrase_leadingOf 8 = .ok (.aload_n 0, 1) := by decide +kernel
theorem d_Phrase_leadingOf_9 : decode b_Phrase_leadingOf 9 = .ok (.getfield 31, 3) := by decide +kernel
theorem d_Phrase_leadingOf_12 : decode b_Phrase_leadingOf 12 = .ok (.iload_n 1, 1) := by decide +kernel
theorem d_Phrase_leadingOf_13 : decode b_Phrase_leadingOf 13 = .ok (.iaload, 1) := by decide +kernel
theorem d_Phrase_leadingOf_14 : decode b_Phrase_leadingOf 14 = .ok (.goto 4, 3) := by decide +kernel
theorem d_Phrase_leadingOf_17 : decode b_Phrase_leadingOf 17 = .ok (.iconst 0, 1) := by decide +kernel
theorem d_Phrase_leadingOf_18 : decode b_Phrase_leadingOf 18 = .ok (.ireturn, 1) := by decide +kernel
theorem d_Phrase_lastOf_0 : decode b_Phrase_lastOf 0 = .ok (.aload_n 0, 1) := by decide +kernel
theorem d_Phrase_lastOf_1 : decode b_Phrase_lastOf 1 = .ok (.iload_n 1, 1) := by decide +kernel
theorem d_Phrase_lastOf_2 : decode b_Phrase_lastOf 2 = .ok (.invokevirtual 57, 3) := by decide +kernel
theorem d_Phrase_lastOf_5 : decode b_Phrase_lastOf 5 = .ok (.ifCond .eq 12, 3) := by decide +kernel
theorem d_Phrase_lastOf_8 : decode b_Phrase_lastOf 8 = .ok (.aload_n 0, 1) := by decide +kernel
theorem d_Phrase_lastOf_9 : decode b_Phrase_lastOf 9 = .ok (.getfield 34, 3) := by decide +kernel
theorem d_Phrase_lastOf_12 : decode b_Phrase_lastOf 12 = .ok (.iload_n 1, 1) := by decide +kernel
theorem d_Phrase_lastOf_13 : decode b_Phrase_lastOf 13 = .ok (.iaload, 1) := by decide +kernel
theorem d_Phrase_lastOf_14 : decode b_Phrase_lastOf 14 = .ok (.goto 4, 3) := by decide +kernel
theorem d_Phrase_lastOf_17 : decode b_Phrase_lastOf 17 = .ok (.iconst (-1), 1) := by decide +kernel
theorem d_Phrase_lastOf_18 : decode b_Phrase_lastOf 18 = .ok (.ireturn, 1) := by decide +kernel
theorem d_Phrase_tells_0 : decode b_Phrase_tells 0 = .ok (.aload_n 0, 1) := by decide +kernel
theorem d_Phrase_tells_1 : decode b_Phrase_tells 1 = .ok (.iload_n 1, 1) := by decide +kernel
theorem d_Phrase_tells_2 : decode b_Phrase_tells 2 = .ok (.invokevirtual 57, 3) := by decide +kernel
theorem d_Phrase_tells_5 : decode b_Phrase_tells 5 = .ok (.ifCond .eq 23, 3) := by decide +kernel
theorem d_Phrase_tells_8 : decode b_Phrase_tells 8 = .ok (.aload_n 0, 1) := by decide +kernel
theorem d_Phrase_tells_9 : decode b_Phrase_tells 9 = .ok (.getfield 28, 3) := by decide +kernel
theorem d_Phrase_tells_12 : decode b_Phrase_tells 12 = .ok (.iload_n 1, 1) := by decide +kernel
theorem d_Phrase_tells_13 : decode b_Phrase_tells 13 = .ok (.iaload, 1) := by decide +kernel
theorem d_Phrase_tells_14 : decode b_Phrase_tells 14 = .ok (.iconst 1, 1) := by decide +kernel
theorem d_Phrase_tells_15 : decode b_Phrase_tells 15 = .ok (.iload_n 2, 1) := by decide +kernel
theorem d_Phrase_tells_16 : decode b_Phrase_tells 16 = .ok (.bipush 30, 2) := by decide +kernel
theorem d_Phrase_tells_18 : decode b_Phrase_tells 18 = .ok (.isub, 1) := by decide +kernel
theorem d_Phrase_tells_19 : decode b_Phrase_tells 19 = .ok (.ishl, 1) := by decide +kernel
theorem d_Phrase_tells_20 : decode b_Phrase_tells 20 = .ok (.iand, 1) := by decide +kernel
theorem d_Phrase_tells_21 : decode b_Phrase_tells 21 = .ok (.ifCond .eq 7, 3) := by decide +kernel
theorem d_Phrase_tells_24 : decode b_Phrase_tells 24 = .ok (.iconst 1, 1) := by decide +kernel
theorem d_Phrase_tells_25 : decode b_Phrase_tells 25 = .ok (.goto 4, 3) := by decide +kernel
theorem d_Phrase_tells_28 : decode b_Phrase_tells 28 = .ok (.iconst 0, 1) := by decide +kernel
theorem d_Phrase_tells_29 : decode b_Phrase_tells 29 = .ok (.ireturn, 1) := by decide +kernel
theorem d_Phrase_closePart_0 : decode b_Phrase_closePart 0 = .ok (.aload_n 0, 1) := by decide +kernel
theorem d_Phrase_closePart_1 : decode b_Phrase_closePart 1 = .ok (.iconst 0, 1) := by decide +kernel
theorem d_Phrase_closePart_2 : decode b_Phrase_closePart 2 = .ok (.putfield 40, 3) := by decide +kernel
theorem d_Phrase_closePart_5 : decode b_Phrase_closePart 5 = .ok (.iconst 1, 1) := by decide +kernel
theorem d_Phrase_closePart_6 : decode b_Phrase_closePart 6 = .ok (.ireturn, 1) := by decide +kernel
theorem d_Phrase_openPart_0 : decode b_Phrase_openPart 0 = .ok (.aload_n 0, 1) := by decide +kernel
theorem d_Phrase_openPart_1 : decode b_Phrase_openPart 1 = .ok (.getfield 24, 3) := by decide +kernel
theorem d_Phrase_openPart_4 : decode b_Phrase_openPart 4 = .ok (.bipush 30, 2) := by decide +kernel
theorem d_Phrase_openPart_6 : decode b_Phrase_openPart 6 = .ok (.if_icmp .lt 5, 3) := by decide +kernel
theorem d_Phrase_openPart_9 : decode b_Phrase_openPart 9 = .ok (.iconst 0, 1) := by decide +kernel
theorem d_Phrase_openPart_10 : decode b_Phrase_openPart 10 = .ok (.ireturn, 1) := by decide +kernel
theorem d_Phrase_openPart_11 : decode b_Phrase_openPart 11 = .ok (.aload_n 0, 1) := by decide +kernel
theorem d_Phrase_openPart_12 : decode b_Phrase_openPart 12 = .ok (.getfield 9, 3) := by decide +kernel
theorem d_Phrase_openPart_15 : decode b_Phrase_openPart 15 = .ok (.aload_n 0, 1) := by decide +kernel
theorem d_Phrase_openPart_16 : decode b_Phrase_openPart 16 = .ok (.getfield 24, 3) := by decide +kernel
theorem d_Phrase_openPart_19 : decode b_Phrase_openPart 19 = .ok (.iconst 0, 1) := by decide +kernel
theorem d_Phrase_openPart_20 : decode b_Phrase_openPart 20 = .ok (.iastore, 1) := by decide +kernel
theorem d_Phrase_openPart_21 : decode b_Phrase_openPart 21 = .ok (.aload_n 0, 1) := by decide +kernel
theorem d_Phrase_openPart_22 : decode b_Phrase_openPart 22 = .ok (.getfield 15, 3) := by decide +kernel
theorem d_Phrase_openPart_25 : decode b_Phrase_openPart 25 = .ok (.aload_n 0, 1) := by decide +kernel
theorem d_Phrase_openPart_26 : decode b_Phrase_openPart 26 = .ok (.getfield 24, 3) := by decide +kernel
theorem d_Phrase_openPart_29 : decode b_Phrase_openPart 29 = .ok (.iconst (-1), 1) := by decide +kernel
theorem d_Phrase_openPart_30 : decode b_Phrase_openPart 30 = .ok (.iastore, 1) := by decide +kernel
theorem d_Phrase_openPart_31 : decode b_Phrase_openPart 31 = .ok (.aload_n 0, 1) := by decide +kernel
theorem d_Phrase_openPart_32 : decode b_Phrase_openPart 32 = .ok (.getfield 18, 3) := by decide +kernel
theorem d_Phrase_openPart_35 : decode b_Phrase_openPart 35 = .ok (.aload_n 0, 1) := by decide +kernel
theorem d_Phrase_openPart_36 : decode b_Phrase_openPart 36 = .ok (.getfield 24, 3) := by decide +kernel
theorem d_Phrase_openPart_39 : decode b_Phrase_openPart 39 = .ok (.aload_n 0, 1) := by decide +kernel
theorem d_Phrase_openPart_40 : decode b_Phrase_openPart 40 = .ok (.getfield 37, 3) := by decide +kernel
theorem d_Phrase_openPart_43 : decode b_Phrase_openPart 43 = .ok (.iastore, 1) := by decide +kernel
theorem d_Phrase_openPart_44 : decode b_Phrase_openPart 44 = .ok (.aload_n 0, 1) := by decide +kernel
theorem d_Phrase_openPart_45 : decode b_Phrase_openPart 45 = .ok (.getfield 21, 3) := by decide +kernel
theorem d_Phrase_openPart_48 : decode b_Phrase_openPart 48 = .ok (.aload_n 0, 1) := by decide +kernel
theorem d_Phrase_openPart_49 : decode b_Phrase_openPart 49 = .ok (.getfield 24, 3) := by decide +kernel
theorem d_Phrase_openPart_52 : decode b_Phrase_openPart 52 = .ok (.aload_n 0, 1) := by decide +kernel
theorem d_Phrase_openPart_53 : decode b_Phrase_openPart 53 = .ok (.getfield 37, 3) := by decide +kernel
theorem d_Phrase_openPart_56 : decode b_Phrase_openPart 56 = .ok (.iastore, 1) := by decide +kernel
theorem d_Phrase_openPart_57 : decode b_Phrase_openPart 57 = .ok (.aload_n 0, 1) := by decide +kernel
theorem d_Phrase_openPart_58 : decode b_Phrase_openPart 58 = .ok (.dup, 1) := by decide +kernel
theorem d_Phrase_openPart_59 : decode b_Phrase_openPart 59 = .ok (.getfield 24, 3) := by decide +kernel
theorem d_Phrase_openPart_62 : decode b_Phrase_openPart 62 = .ok (.iconst 1, 1) := by decide +kernel
theorem d_Phrase_openPart_63 : decode b_Phrase_openPart 63 = .ok (.iadd, 1) := by decide +kernel
theorem d_Phrase_openPart_64 : decode b_Phrase_openPart 64 = .ok (.putfield 24, 3) := by decide +kernel
theorem d_Phrase_openPart_67 : decode b_Phrase_openPart 67 = .ok (.iconst 1, 1) := by decide +kernel
theorem d_Phrase_openPart_68 : decode b_Phrase_openPart 68 = .ok (.ireturn, 1) := by decide +kernel
theorem d_Phrase_setAmount_0 : decode b_Phrase_setAmount 0 = .ok (.aload_n 0, 1) := by decide +kernel
theorem d_Phrase_setAmount_1 : decode b_Phrase_setAmount 1 = .ok (.getfield 24, 3) := by decide +kernel
theorem d_Phrase_setAmount_4 : decode b_Phrase_setAmount 4 = .ok (.iconst 1, 1) := by decide +kernel
theorem d_Phrase_setAmount_5 : decode b_Phrase_setAmount 5 = .ok (.isub, 1) := by decide +kernel
theorem d_Phrase_setAmount_6 : decode b_Phrase_setAmount 6 = .ok (.istore_n 3, 1) := by decide +kernel
theorem d_Phrase_setAmount_7 : decode b_Phrase_setAmount 7 = .ok (.aload_n 0, 1) := by decide +kernel
theorem d_Phrase_setAmount_8 : decode b_Phrase_setAmount 8 = .ok (.iload_n 3, 1) := by decide +kernel
theorem d_Phrase_setAmount_9 : decode b_Phrase_setAmount 9 = .ok (.invokevirtual 54, 3) := by decide +kernel
theorem d_Phrase_setAmount_12 : decode b_Phrase_setAmount 12 = .ok (.ifCond .ne 5, 3) := by decide +kernel
theorem d_Phrase_setAmount_15 : decode b_Phrase_setAmount 15 = .ok (.iconst 0, 1) := by decide +kernel
theorem d_Phrase_setAmount_16 : decode b_Phrase_setAmount 16 = .ok (.ireturn, 1) := by decide +kernel
theorem d_Phrase_setAmount_17 : decode b_Phrase_setAmount 17 = .ok (.aload_n 0, 1) := by decide +kernel
theorem d_Phrase_setAmount_18 : decode b_Phrase_setAmount 18 = .ok (.getfield 9, 3) := by decide +kernel
theorem d_Phrase_setAmount_21 : decode b_Phrase_setAmount 21 = .ok (.iload_n 3, 1) := by decide +kernel
theorem d_Phrase_setAmount_22 : decode b_Phrase_setAmount 22 = .ok (.iload_n 1, 1) := by decide +kernel
theorem d_Phrase_setAmount_23 : decode b_Phrase_setAmount 23 = .ok (.iastore, 1) := by decide +kernel
theorem d_Phrase_setAmount_24 : decode b_Phrase_setAmount 24 = .ok (.aload_n 0, 1) := by decide +kernel
theorem d_Phrase_setAmount_25 : decode b_Phrase_setAmount 25 = .ok (.iload_n 2, 1) := by decide +kernel
theorem d_Phrase_setAmount_26 : decode b_Phrase_setAmount 26 = .ok (.putfield 40, 3) := by decide +kernel
theorem d_Phrase_setAmount_29 : decode b_Phrase_setAmount 29 = .ok (.iconst 1, 1) := by decide +kernel
theorem d_Phrase_setAmount_30 : decode b_Phrase_setAmount 30 = .ok (.ireturn, 1) := by decide +kernel
theorem d_Phrase_openDescription_0 : decode b_Phrase_openDescription 0 = .ok (.aload_n 0, 1) := by decide +kernel
theorem d_Phrase_openDescription_1 : decode b_Phrase_openDescription 1 = .ok (.getfield 24, 3) := by decide +kernel
theorem d_Phrase_openDescription_4 : decode b_Phrase_openDescription 4 = .ok (.iconst 1, 1) := by decide +kernel
theorem d_Phrase_openDescription_5 : decode b_Phrase_openDescription 5 = .ok (.isub, 1) := by decide +kernel
theorem d_Phrase_openDescription_6 : decode b_Phrase_openDescription 6 = .ok (.istore_n 1, 1) := by decide +kernel
theorem d_Phrase_openDescription_7 : decode b_Phrase_openDescription 7 = .ok (.aload_n 0, 1) := by decide +kernel
theorem d_Phrase_openDescription_8 : decode b_Phrase_openDescription 8 = .ok (.iload_n 1, 1) := by decide +kernel
theorem d_Phrase_openDescription_9 : decode b_Phrase_openDescription 9 = .ok (.invokevirtual 54, 3) := by decide +kernel
theorem d_Phrase_openDescription_12 : decode b_Phrase_openDescription 12 = .ok (.ifCond .eq 12, 3) := by decide +kernel
theorem d_Phrase_openDescription_15 : decode b_Phrase_openDescription 15 = .ok (.aload_n 0, 1) := by decide +kernel
theorem d_Phrase_openDescription_16 : decode b_Phrase_openDescription 16 = .ok (.getfield 37, 3) := by decide +kernel
theorem d_Phrase_openDescription_19 : decode b_Phrase_openDescription 19 = .ok (.bipush 30, 2) := by decide +kernel
theorem d_Phrase_openDescription_21 : decode b_Phrase_openDescription 21 = .ok (.if_icmp .lt 5, 3) := by decide +kernel
theorem d_Phrase_openDescription_24 : decode b_Phrase_openDescription 24 = .ok (.iconst 0, 1) := by decide +kernel
theorem d_Phrase_openDescription_25 : decode b_Phrase_openDescription 25 = .ok (.ireturn, 1) := by decide +kernel
theorem d_Phrase_openDescription_26 : decode b_Phrase_openDescription 26 = .ok (.aload_n 0, 1) := by decide +kernel
theorem d_Phrase_openDescription_27 : decode b_Phrase_openDescription 27 = .ok (.getfield 28, 3) := by decide +kernel
theorem d_Phrase_openDescription_30 : decode b_Phrase_openDescription 30 = .ok (.aload_n 0, 1) := by decide +kernel
theorem d_Phrase_openDescription_31 : decode b_Phrase_openDescription 31 = .ok (.getfield 37, 3) := by decide +kernel
theorem d_Phrase_openDescription_34 : decode b_Phrase_openDescription 34 = .ok (.iconst 0, 1) := by decide +kernel
theorem d_Phrase_openDescription_35 : decode b_Phrase_openDescription 35 = .ok (.iastore, 1) := by decide +kernel
theorem d_Phrase_openDescription_36 : decode b_Phrase_openDescription 36 = .ok (.aload_n 0, 1) := by decide +kernel
theorem d_Phrase_openDescription_37 : decode b_Phrase_openDescription 37 = .ok (.getfield 31, 3) := by decide +kernel
theorem d_Phrase_openDescription_40 : decode b_Phrase_openDescription 40 = .ok (.aload_n 0, 1) := by decide +kernel
theorem d_Phrase_openDescription_41 : decode b_Phrase_openDescription 41 = .ok (.getfield 37, 3) := by decide +kernel
theorem d_Phrase_openDescription_44 : decode b_Phrase_openDescription 44 = .ok (.iconst 0, 1) := by decide +kernel
theorem d_Phrase_openDescription_45 : decode b_Phrase_openDescription 45 = .ok (.iastore, 1) := by decide +kernel
theorem d_Phrase_openDescription_46 : decode b_Phrase_openDescription 46 = .ok (.aload_n 0, 1) := by decide +kernel
theorem d_Phrase_openDescription_47 : decode b_Phrase_openDescription 47 = .ok (.getfield 34, 3) := by decide +kernel
theorem d_Phrase_openDescription_50 : decode b_Phrase_openDescription 50 = .ok (.aload_n 0, 1) := by decide +kernel
theorem d_Phrase_openDescription_51 : decode b_Phrase_openDescription 51 = .ok (.getfield 37, 3) := by decide +kernel
theorem d_Phrase_openDescription_54 : decode b_Phrase_openDescription 54 = .ok (.iconst (-1), 1) := by decide +kernel
theorem d_Phrase_openDescription_55 : decode b_Phrase_openDescription 55 = .ok (.iastore, 1) := by decide +kernel
theorem d_Phrase_openDescription_56 : decode b_Phrase_openDescription 56 = .ok (.aload_n 0, 1) := by decide +kernel
theorem d_Phrase_openDescription_57 : decode b_Phrase_openDescription 57 = .ok (.iconst 0, 1) := by decide +kernel
theorem d_Phrase_openDescription_58 : decode b_Phrase_openDescription 58 = .ok (.putfield 43, 3) := by decide +kernel
theorem d_Phrase_openDescription_61 : decode b_Phrase_openDescription 61 = .ok (.aload_n 0, 1) := by decide +kernel
theorem d_Phrase_openDescription_62 : decode b_Phrase_openDescription 62 = .ok (.dup, 1) := by decide +kernel
theorem d_Phrase_openDescription_63 : decode b_Phrase_openDescription 63 = .ok (.getfield 37, 3) := by decide +kernel
theorem d_Phrase_openDescription_66 : decode b_Phrase_openDescription 66 = .ok (.iconst 1, 1) := by decide +kernel
theorem d_Phrase_openDescription_67 : decode b_Phrase_openDescription 67 = .ok (.iadd, 1) := by decide +kernel
theorem d_Phrase_openDescription_68 : decode b_Phrase_openDescription 68 = .ok (.putfield 37, 3) := by decide +kernel
theorem d_Phrase_openDescription_71 : decode b_Phrase_openDescription 71 = .ok (.aload_n 0, 1) := by decide +kernel
theorem d_Phrase_openDescription_72 : decode b_Phrase_openDescription 72 = .ok (.getfield 21, 3) := by decide +kernel
theorem d_Phrase_openDescription_75 : decode b_Phrase_openDescription 75 = .ok (.iload_n 1, 1) := by decide +kernel
theorem d_Phrase_openDescription_76 : decode b_Phrase_openDescription 76 = .ok (.aload_n 0, 1) := by decide +kernel
theorem d_Phrase_openDescription_77 : decode b_Phrase_openDescription 77 = .ok (.getfield 37, 3) := by decide +kernel
theorem d_Phrase_openDescription_80 : decode b_Phrase_openDescription 80 = .ok (.iastore, 1) := by decide +kernel
theorem d_Phrase_openDescription_81 : decode b_Phrase_openDescription 81 = .ok (.aload_n 0, 1) := by decide +kernel
theorem d_Phrase_openDescription_82 : decode b_Phrase_openDescription 82 = .ok (.iconst 3, 1) := by decide +kernel
theorem d_Phrase_openDescription_83 : decode b_Phrase_openDescription 83 = .ok (.putfield 40, 3) := by decide +kernel
theorem d_Phrase_openDescription_86 : decode b_Phrase_openDescription 86 = .ok (.iconst 1, 1) := by decide +kernel
theorem d_Phrase_openDescription_87 : decode b_Phrase_openDescription 87 = .ok (.ireturn, 1) := by decide +kernel
theorem d_Phrase_openMain_0 : decode b_Phrase_openMain 0 = .ok (.aload_n 0, 1) := by decide +kernel
theorem d_Phrase_openMain_1 : decode b_Phrase_openMain 1 = .ok (.getfield 24, 3) := by decide +kernel
theorem d_Phrase_openMain_4 : decode b_Phrase_openMain 4 = .ok (.iconst 1, 1) := by decide +kernel
theorem d_Phrase_openMain_5 : decode b_Phrase_openMain 5 = .ok (.isub, 1) := by decide +kernel
theorem d_Phrase_openMain_6 : decode b_Phrase_openMain 6 = .ok (.istore_n 1, 1) := by decide +kernel
theorem d_Phrase_openMain_7 : decode b_Phrase_openMain 7 = .ok (.aload_n 0, 1) := by decide +kernel
theorem d_Phrase_openMain_8 : decode b_Phrase_openMain 8 = .ok (.iload_n 1, 1) := by decide +kernel
theorem d_Phrase_openMain_9 : decode b_Phrase_openMain 9 = .ok (.invokevirtual 54, 3) := by decide +kernel
theorem d_Phrase_openMain_12 : decode b_Phrase_openMain 12 = .ok (.ifCond .eq 10, 3) := by decide +kernel
theorem d_Phrase_openMain_15 : decode b_Phrase_openMain 15 = .ok (.aload_n 0, 1) := by decide +kernel
theorem d_Phrase_openMain_16 : decode b_Phrase_openMain 16 = .ok (.invokevirtual 67, 3) := by decide +kernel
theorem d_Phrase_openMain_19 : decode b_Phrase_openMain 19 = .ok (.ifCond .ne 5, 3) := by decide +kernel
theorem d_Phrase_openMain_22 : decode b_Phrase_openMain 22 = .ok (.iconst 0, 1) := by decide +kernel
theorem d_Phrase_openMain_23 : decode b_Phrase_openMain 23 = .ok (.ireturn, 1) := by decide +kernel
theorem d_Phrase_openMain_24 : decode b_Phrase_openMain 24 = .ok (.aload_n 0, 1) := by decide +kernel
theorem d_Phrase_openMain_25 : decode b_Phrase_openMain 25 = .ok (.getfield 15, 3) := by decide +kernel
theorem d_Phrase_openMain_28 : decode b_Phrase_openMain 28 = .ok (.iload_n 1, 1) := by decide +kernel
theorem d_Phrase_openMain_29 : decode b_Phrase_openMain 29 = .ok (.aload_n 0, 1) := by decide +kernel
theorem d_Phrase_openMain_30 : decode b_Phrase_openMain 30 = .ok (.getfield 37, 3) := by decide +kernel
theorem d_Phrase_openMain_33 : decode b_Phrase_openMain 33 = .ok (.iconst 1, 1) := by decide +kernel
theorem d_Phrase_openMain_34 : decode b_Phrase_openMain 34 = .ok (.isub, 1) := by decide +kernel
theorem d_Phrase_openMain_35 : decode b_Phrase_openMain 35 = .ok (.iastore, 1) := by decide +kernel
theorem d_Phrase_openMain_36 : decode b_Phrase_openMain 36 = .ok (.aload_n 0, 1) := by decide +kernel
theorem d_Phrase_openMain_37 : decode b_Phrase_openMain 37 = .ok (.getfield 18, 3) := by decide +kernel
theorem d_Phrase_openMain_40 : decode b_Phrase_openMain 40 = .ok (.iload_n 1, 1) := by decide +kernel
theorem d_Phrase_openMain_41 : decode b_Phrase_openMain 41 = .ok (.aload_n 0, 1) := by decide +kernel
theorem d_Phrase_openMain_42 : decode b_Phrase_openMain 42 = .ok (.getfield 37, 3) := by decide +kernel
theorem d_Phrase_openMain_45 : decode b_Phrase_openMain 45 = .ok (.iastore, 1) := by decide +kernel
theorem d_Phrase_openMain_46 : decode b_Phrase_openMain 46 = .ok (.iconst 1, 1) := by decide +kernel
theorem d_Phrase_openMain_47 : decode b_Phrase_openMain 47 = .ok (.ireturn, 1) := by decide +kernel
theorem d_Phrase_addWord_0 : decode b_Phrase_addWord 0 = .ok (.aload_n 0, 1) := by decide +kernel
theorem d_Phrase_addWord_1 : decode b_Phrase_addWord 1 = .ok (.getfield 37, 3) := by decide +kernel
theorem d_Phrase_addWord_4 : decode b_Phrase_addWord 4 = .ok (.iconst 1, 1) := by decide +kernel
theorem d_Phrase_addWord_5 : decode b_Phrase_addWord 5 = .ok (.isub, 1) := by decide +kernel
theorem d_Phrase_addWord_6 : decode b_Phrase_addWord 6 = .ok (.istore_n 2, 1) := by decide +kernel
theorem d_Phrase_addWord_7 : decode b_Phrase_addWord 7 = .ok (.aload_n 0, 1) := by decide +kernel
theorem d_Phrase_addWord_8 : decode b_Phrase_addWord 8 = .ok (.iload_n 2, 1) := by decide +kernel
theorem d_Phrase_addWord_9 : decode b_Phrase_addWord 9 = .ok (.invokevirtual 57, 3) := by decide +kernel
theorem d_Phrase_addWord_12 : decode b_Phrase_addWord 12 = .ok (.ifCond .eq 12, 3) := by decide +kernel
theorem d_Phrase_addWord_15 : decode b_Phrase_addWord 15 = .ok (.aload_n 0, 1) := by decide +kernel
theorem d_Phrase_addWord_16 : decode b_Phrase_addWord 16 = .ok (.getfield 43, 3) := by decide +kernel
theorem d_Phrase_addWord_19 : decode b_Phrase_addWord 19 = .ok (.bipush 6, 2) := by decide +kernel
theorem d_Phrase_addWord_21 : decode b_Phrase_addWord 21 = .ok (.if_icmp .lt 5, 3) := by decide +kernel
theorem d_Phrase_addWord_24 : decode b_Phrase_addWord 24 = .ok (.iconst 0, 1) := by decide +kernel
theorem d_Phrase_addWord_25 : decode b_Phrase_addWord 25 = .ok (.ireturn, 1) := by decide +kernel
theorem d_Phrase_addWord_26 : decode b_Phrase_addWord 26 = .ok (.aload_n 0, 1) := by decide +kernel
theorem d_Phrase_addWord_27 : decode b_Phrase_addWord 27 = .ok (.getfield 43, 3) := by decide +kernel
theorem d_Phrase_addWord_30 : decode b_Phrase_addWord 30 = .ok (.ifCond .le 20, 3) := by decide +kernel
theorem d_Phrase_addWord_33 : decode b_Phrase_addWord 33 = .ok (.aload_n 0, 1) := by decide +kernel
theorem d_Phrase_addWord_34 : decode b_Phrase_addWord 34 = .ok (.getfield 31, 3) := by decide +kernel
theorem d_Phrase_addWord_37 : decode b_Phrase_addWord 37 = .ok (.iload_n 2, 1) := by decide +kernel
theorem d_Phrase_addWord_38 : decode b_Phrase_addWord 38 = .ok (.dup2, 1) := by decide +kernel
theorem d_Phrase_addWord_39 : decode b_Phrase_addWord 39 = .ok (.iaload, 1) := by decide +kernel
theorem d_Phrase_addWord_40 : decode b_Phrase_addWord 40 = .ok (.iconst 1, 1) := by decide +kernel
theorem d_Phrase_addWord_41 : decode b_Phrase_addWord 41 = .ok (.aload_n 0, 1) := by decide +kernel
theorem d_Phrase_addWord_42 : decode b_Phrase_addWord 42 = .ok (.getfield 34, 3) := by decide +kernel
theorem d_Phrase_addWord_45 : decode b_Phrase_addWord 45 = .ok (.iload_n 2, 1) := by decide +kernel
theorem d_Phrase_addWord_46 : decode b_Phrase_addWord 46 = .ok (.iaload, 1) := by decide +kernel
theorem d_Phrase_addWord_47 : decode b_Phrase_addWord 47 = .ok (.ishl, 1) := by decide +kernel
theorem d_Phrase_addWord_48 : decode b_Phrase_addWord 48 = .ok (.ior, 1) := by decide +kernel
theorem d_Phrase_addWord_49 : decode b_Phrase_addWord 49 = .ok (.iastore, 1) := by decide +kernel
theorem d_Phrase_addWord_50 : decode b_Phrase_addWord 50 = .ok (.aload_n 0, 1) := by decide +kernel
theorem d_Phrase_addWord_51 : decode b_Phrase_addWord 51 = .ok (.getfield 34, 3) := by decide +kernel
theorem d_Phrase_addWord_54 : decode b_Phrase_addWord 54 = .ok (.iload_n 2, 1) := by decide +kernel
theorem d_Phrase_addWord_55 : decode b_Phrase_addWord 55 = .ok (.iload_n 1, 1) := by decide +kernel
theorem d_Phrase_addWord_56 : decode b_Phrase_addWord 56 = .ok (.iastore, 1) := by decide +kernel
theorem d_Phrase_addWord_57 : decode b_Phrase_addWord 57 = .ok (.aload_n 0, 1) := by decide +kernel
theorem d_Phrase_addWord_58 : decode b_Phrase_addWord 58 = .ok (.dup, 1) := by decide +kernel
theorem d_Phrase_addWord_59 : decode b_Phrase_addWord 59 = .ok (.getfield 43, 3) := by decide +kernel
theorem d_Phrase_addWord_62 : decode b_Phrase_addWord 62 = .ok (.iconst 1, 1) := by decide +kernel
theorem d_Phrase_addWord_63 : decode b_Phrase_addWord 63 = .ok (.iadd, 1) := by decide +kernel
theorem d_Phrase_addWord_64 : decode b_Phrase_addWord 64 = .ok (.putfield 43, 3) := by decide +kernel
theorem d_Phrase_addWord_67 : decode b_Phrase_addWord 67 = .ok (.aload_n 0, 1) := by decide +kernel
theorem d_Phrase_addWord_68 : decode b_Phrase_addWord 68 = .ok (.iconst 4, 1) := by decide +kernel
theorem d_Phrase_addWord_69 : decode b_Phrase_addWord 69 = .ok (.putfield 40, 3) := by decide +kernel
theorem d_Phrase_addWord_72 : decode b_Phrase_addWord 72 = .ok (.iconst 1, 1) := by decide +kernel
theorem d_Phrase_addWord_73 : decode b_Phrase_addWord 73 = .ok (.ireturn, 1) := by decide +kernel
theorem d_Phrase_takeInDescription_0 : decode b_Phrase_takeInDescription 0 = .ok (.aload_n 0, 1) := by decide +kernel
theorem d_Phrase_takeInDescription_1 : decode b_Phrase_takeInDescription 1 = .ok (.getfield 37, 3) := by decide +kernel
theorem d_Phrase_takeInDescription_4 : decode b_Phrase_takeInDescription 4 = .ok (.iconst 1, 1) := by decide +kernel
theorem d_Phrase_takeInDescription_5 : decode b_Phrase_takeInDescription 5 = .ok (.isub, 1) := by decide +kernel
theorem d_Phrase_takeInDescription_6 : decode b_Phrase_takeInDescription 6 = .ok (.istore_n 2, 1) := by decide +kernel
theorem d_Phrase_takeInDescription_7 : decode b_Phrase_takeInDescription 7 = .ok (.iload_n 1, 1) := by decide +kernel
theorem d_Phrase_takeInDescription_8 : decode b_Phrase_takeInDescription 8 = .ok (.invokestatic 89, 3) := by decide +kernel
theorem d_Phrase_takeInDescription_11 : decode b_Phrase_takeInDescription 11 = .ok (.ifCond .eq 9, 3) := by decide +kernel
theorem d_Phrase_takeInDescription_14 : decode b_Phrase_takeInDescription 14 = .ok (.aload_n 0, 1) := by decide +kernel
theorem d_Phrase_takeInDescription_15 : decode b_Phrase_takeInDescription 15 = .ok (.iload_n 1, 1) := by decide +kernel
theorem d_Phrase_takeInDescription_16 : decode b_Phrase_takeInDescription 16 = .ok (.invokevirtual 92, 3) := by decide +kernel
theorem d_Phrase_takeInDescription_19 : decode b_Phrase_takeInDescription 19 = .ok (.ireturn, 1) := by decide +kernel
theorem d_Phrase_takeInDescription_20 : decode b_Phrase_takeInDescription 20 = .ok (.iload_n 1, 1) := by decide +kernel
theorem d_Phrase_takeInDescription_21 : decode b_Phrase_takeInDescription 21 = .ok (.invokestatic 95, 3) := by decide +kernel
theorem d_Phrase_takeInDescription_24 : decode b_Phrase_takeInDescription 24 = .ok (.ifCond .eq 27, 3) := by decide +kernel
theorem d_Phrase_takeInDescription_27 : decode b_Phrase_takeInDescription 27 = .ok (.aload_n 0, 1) := by decide +kernel
theorem d_Phrase_takeInDescription_28 : decode b_Phrase_takeInDescription 28 = .ok (.iload_n 2, 1) := by decide +kernel
theorem d_Phrase_takeInDescription_29 : decode b_Phrase_takeInDescription 29 = .ok (.invokevirtual 57, 3) := by decide +kernel
theorem d_Phrase_takeInDescription_32 : decode b_Phrase_takeInDescription 32 = .ok (.ifCond .eq 19, 3) := by decide +kernel
theorem d_Phrase_takeInDescription_35 : decode b_Phrase_takeInDescription 35 = .ok (.aload_n 0, 1) := by decide +kernel
theorem d_Phrase_takeInDescription_36 : decode b_Phrase_takeInDescription 36 = .ok (.getfield 43, 3) := by decide +kernel
theorem d_Phrase_takeInDescription_39 : decode b_Phrase_takeInDescription 39 = .ok (.ifCond .gt 12, 3) := by decide +kernel
theorem d_Phrase_takeInDescription_42 : decode b_Phrase_takeInDescription 42 = .ok (.aload_n 0, 1) := by decide +kernel
theorem d_Phrase_takeInDescription_43 : decode b_Phrase_takeInDescription 43 = .ok (.iload_n 2, 1) := by decide +kernel
theorem d_Phrase_takeInDescription_44 : decode b_Phrase_takeInDescription 44 = .ok (.iload_n 1, 1) := by decide +kernel
theorem d_Phrase_takeInDescription_45 : decode b_Phrase_takeInDescription 45 = .ok (.invokevirtual 98, 3) := by decide +kernel
theorem d_Phrase_takeInDescription_48 : decode b_Phrase_takeInDescription 48 = .ok (.ifCond .eq 5, 3) := by decide +kernel
theorem d_Phrase_takeInDescription_51 : decode b_Phrase_takeInDescription 51 = .ok (.iconst 0, 1) := by decide +kernel
theorem d_Phrase_takeInDescription_52 : decode b_Phrase_takeInDescription 52 = .ok (.ireturn, 1) := by decide +kernel
theorem d_Phrase_takeInDescription_53 : decode b_Phrase_takeInDescription 53 = .ok (.aload_n 0, 1) := by decide +kernel
theorem d_Phrase_takeInDescription_54 : decode b_Phrase_takeInDescription 54 = .ok (.getfield 28, 3) := by decide +kernel
theorem d_Phrase_takeInDescription_57 : decode b_Phrase_takeInDescription 57 = .ok (.iload_n 2, 1) := by decide +kernel
theorem d_Phrase_takeInDescription_58 : decode b_Phrase_takeInDescription 58 = .ok (.dup2, 1) := by decide +kernel
theorem d_Phrase_takeInDescription_59 : decode b_Phrase_takeInDescription 59 = .ok (.iaload, 1) := by decide +kernel
theorem d_Phrase_takeInDescription_60 : decode b_Phrase_takeInDescription 60 = .ok (.iconst 1, 1) := by decide +kernel
theorem d_Phrase_takeInDescription_61 : decode b_Phrase_takeInDescription 61 = .ok (.iload_n 1, 1) := by decide +kernel
theorem d_Phrase_takeInDescription_62 : decode b_Phrase_takeInDescription 62 = .ok (.bipush 30, 2) := by decide +kernel
theorem d_Phrase_takeInDescription_64 : decode b_Phrase_takeInDescription 64 = .ok (.isub, 1) := by decide +kernel
theorem d_Phrase_takeInDescription_65 : decode b_Phrase_takeInDescription 65 = .ok (.ishl, 1) := by decide +kernel
theorem d_Phrase_takeInDescription_66 : decode b_Phrase_takeInDescription 66 = .ok (.ior, 1) := by decide +kernel
theorem d_Phrase_takeInDescription_67 : decode b_Phrase_takeInDescription 67 = .ok (.iastore, 1) := by decide +kernel
theorem d_Phrase_takeInDescription_68 : decode b_Phrase_takeInDescription 68 = .ok (.iconst 1, 1) := by decide +kernel
theorem d_Phrase_takeInDescription_69 : decode b_Phrase_takeInDescription 69 = .ok (.ireturn, 1) := by decide +kernel
theorem d_Phrase_takeAtPart_0 : decode b_Phrase_takeAtPart 0 = .ok (.aload_n 0, 1) := by decide +kernel
theorem d_Phrase_takeAtPart_1 : decode b_Phrase_takeAtPart 1 = .ok (.invokevirtual 79, 3) := by decide +kernel
theorem d_Phrase_takeAtPart_4 : decode b_Phrase_takeAtPart 4 = .ok (.ifCond .ne 5, 3) := by decide +kernel
theorem d_Phrase_takeAtPart_7 : decode b_Phrase_takeAtPart 7 = .ok (.iconst 0, 1) := by decide +kernel
theorem d_Phrase_takeAtPart_8 : decode b_Phrase_takeAtPart 8 = .ok (.ireturn, 1) := by decide +kernel
theorem d_Phrase_takeAtPart_9 : decode b_Phrase_takeAtPart 9 = .ok (.iload_n 1, 1) := by decide +kernel
theorem d_Phrase_takeAtPart_10 : decode b_Phrase_takeAtPart 10 = .ok (.bipush 34, 2) := by decide +kernel
theorem d_Phrase_takeAtPart_12 : decode b_Phrase_takeAtPart 12 = .ok (.if_icmp .ne 10, 3) := by decide +kernel
theorem d_Phrase_takeAtPart_15 : decode b_Phrase_takeAtPart 15 = .ok (.aload_n 0, 1) := by decide +kernel
theorem d_Phrase_takeAtPart_16 : decode b_Phrase_takeAtPart 16 = .ok (.iconst (-1), 1) := by decide +kernel
theorem d_Phrase_takeAtPart_17 : decode b_Phrase_takeAtPart 17 = .ok (.iconst 1, 1) := by decide +kernel
theorem d_Phrase_takeAtPart_18 : decode b_Phrase_takeAtPart 18 = .ok (.invokevirtual 82, 3) := by decide +kernel
theorem d_Phrase_takeAtPart_21 : decode b_Phrase_takeAtPart 21 = .ok (.ireturn, 1) := by decide +kernel
theorem d_Phrase_takeAtPart_22 : decode b_Phrase_takeAtPart 22 = .ok (.iload_n 1, 1) := by decide +kernel
theorem d_Phrase_takeAtPart_23 : decode b_Phrase_takeAtPart 23 = .ok (.invokestatic 86, 3) := by decide +kernel
theorem d_Phrase_takeAtPart_26 : decode b_Phrase_takeAtPart 26 = .ok (.ifCond .eq 13, 3) := by decide +kernel
theorem d_Phrase_takeAtPart_29 : decode b_Phrase_takeAtPart 29 = .ok (.aload_n 0, 1) := by decide +kernel
theorem d_Phrase_takeAtPart_30 : decode b_Phrase_takeAtPart 30 = .ok (.iload_n 1, 1) := by decide +kernel
theorem d_Phrase_takeAtPart_31 : decode b_Phrase_takeAtPart 31 = .ok (.bipush 40, 2) := by decide +kernel
theorem d_Phrase_takeAtPart_33 : decode b_Phrase_takeAtPart 33 = .ok (.isub, 1) := by decide +kernel
theorem d_Phrase_takeAtPart_34 : decode b_Phrase_takeAtPart 34 = .ok (.iconst 2, 1) := by decide +kernel
theorem d_Phrase_takeAtPart_35 : decode b_Phrase_takeAtPart 35 = .ok (.invokevirtual 82, 3) := by decide +kernel
theorem d_Phrase_takeAtPart_38 : decode b_Phrase_takeAtPart 38 = .ok (.ireturn, 1) := by decide +kernel
theorem d_Phrase_takeAtPart_39 : decode b_Phrase_takeAtPart 39 = .ok (.aload_n 0, 1) := by decide +kernel
theorem d_Phrase_takeAtPart_40 : decode b_Phrase_takeAtPart 40 = .ok (.invokevirtual 73, 3) := by decide +kernel
theorem d_Phrase_takeAtPart_43 : decode b_Phrase_takeAtPart 43 = .ok (.ifCond .eq 15, 3) := by decide +kernel
theorem d_Phrase_takeAtPart_46 : decode b_Phrase_takeAtPart 46 = .ok (.aload_n 0, 1) := by decide +kernel
theorem d_Phrase_takeAtPart_47 : decode b_Phrase_takeAtPart 47 = .ok (.iload_n 1, 1) := by decide +kernel
theorem d_Phrase_takeAtPart_48 : decode b_Phrase_takeAtPart 48 = .ok (.invokevirtual 76, 3) := by decide +kernel
theorem d_Phrase_takeAtPart_51 : decode b_Phrase_takeAtPart 51 = .ok (.ifCond .eq 7, 3) := by decide +kernel
theorem d_Phrase_takeAtPart_54 : decode b_Phrase_takeAtPart 54 = .ok (.iconst 1, 1) := by decide +kernel
theorem d_Phrase_takeAtPart_55 : decode b_Phrase_takeAtPart 55 = .ok (.goto 4, 3) := by decide +kernel
theorem d_Phrase_takeAtPart_58 : decode b_Phrase_takeAtPart 58 = .ok (.iconst 0, 1) := by decide +kernel
theorem d_Phrase_takeAtPart_59 : decode b_Phrase_takeAtPart 59 = .ok (.ireturn, 1) := by decide +kernel
theorem d_Phrase_take_0 : decode b_Phrase_take 0 = .ok (.iload_n 1, 1) := by decide +kernel
theorem d_Phrase_take_1 : decode b_Phrase_take 1 = .ok (.bipush 36, 2) := by decide +kernel
theorem d_Phrase_take_3 : decode b_Phrase_take 3 = .ok (.if_icmp .ne 23, 3) := by decide +kernel
theorem d_Phrase_take_6 : decode b_Phrase_take 6 = .ok (.aload_n 0, 1) := by decide +kernel
theorem d_Phrase_take_7 : decode b_Phrase_take 7 = .ok (.invokevirtual 50, 3) := by decide +kernel
theorem d_Phrase_take_10 : decode b_Phrase_take 10 = .ok (.ifCond .eq 14, 3) := by decide +kernel
theorem d_Phrase_take_13 : decode b_Phrase_take 13 = .ok (.aload_n 0, 1) := by decide +kernel
theorem d_Phrase_take_14 : decode b_Phrase_take 14 = .ok (.invokevirtual 60, 3) := by decide +kernel
theorem d_Phrase_take_17 : decode b_Phrase_take 17 = .ok (.ifCond .eq 7, 3) := by decide +kernel
theorem d_Phrase_take_20 : decode b_Phrase_take 20 = .ok (.iconst 1, 1) := by decide +kernel
theorem d_Phrase_take_21 : decode b_Phrase_take 21 = .ok (.goto 4, 3) := by decide +kernel
theorem d_Phrase_take_24 : decode b_Phrase_take 24 = .ok (.iconst 0, 1) := by decide +kernel
theorem d_Phrase_take_25 : decode b_Phrase_take 25 = .ok (.ireturn, 1) := by decide +kernel
theorem d_Phrase_take_26 : decode b_Phrase_take 26 = .ok (.iload_n 1, 1) := by decide +kernel
theorem d_Phrase_take_27 : decode b_Phrase_take 27 = .ok (.bipush 35, 2) := by decide +kernel
theorem d_Phrase_take_29 : decode b_Phrase_take 29 = .ok (.if_icmp .ne 37, 3) := by decide +kernel
theorem d_Phrase_take_32 : decode b_Phrase_take 32 = .ok (.aload_n 0, 1) := by decide +kernel
theorem d_Phrase_take_33 : decode b_Phrase_take 33 = .ok (.invokevirtual 50, 3) := by decide +kernel
theorem d_Phrase_take_36 : decode b_Phrase_take 36 = .ok (.ifCond .eq 28, 3) := by decide +kernel
theorem d_Phrase_take_39 : decode b_Phrase_take 39 = .ok (.aload_n 0, 1) := by decide +kernel
theorem d_Phrase_take_40 : decode b_Phrase_take 40 = .ok (.aload_n 0, 1) := by decide +kernel
theorem d_Phrase_take_41 : decode b_Phrase_take 41 = .ok (.getfield 24, 3) := by decide +kernel
theorem d_Phrase_take_44 : decode b_Phrase_take 44 = .ok (.iconst 1, 1) := by decide +kernel
theorem d_Phrase_take_45 : decode b_Phrase_take 45 = .ok (.isub, 1) := by decide +kernel
theorem d_Phrase_take_46 : decode b_Phrase_take 46 = .ok (.invokevirtual 63, 3) := by decide +kernel
theorem d_Phrase_take_49 : decode b_Phrase_take 49 = .ok (.iconst (-1), 1) := by decide +kernel
theorem d_Phrase_take_50 : decode b_Phrase_take 50 = .ok (.if_icmp .ne 14, 3) := by decide +kernel
theorem d_Phrase_take_53 : decode b_Phrase_take 53 = .ok (.aload_n 0, 1) := by decide +kernel
theorem d_Phrase_take_54 : decode b_Phrase_take 54 = .ok (.invokevirtual 67, 3) := by decide +kernel
theorem d_Phrase_take_57 : decode b_Phrase_take 57 = .ok (.ifCond .eq 7, 3) := by decide +kernel
theorem d_Phrase_take_60 : decode b_Phrase_take 60 = .ok (.iconst 1, 1) := by decide +kernel
theorem d_Phrase_take_61 : decode b_Phrase_take 61 = .ok (.goto 4, 3) := by decide +kernel
theorem d_Phrase_take_64 : decode b_Phrase_take 64 = .ok (.iconst 0, 1) := by decide +kernel
theorem d_Phrase_take_65 : decode b_Phrase_take 65 = .ok (.ireturn, 1) := by decide +kernel
theorem d_Phrase_take_66 : decode b_Phrase_take 66 = .ok (.aload_n 0, 1) := by decide +kernel
theorem d_Phrase_take_67 : decode b_Phrase_take 67 = .ok (.getfield 40, 3) := by decide +kernel
theorem d_Phrase_take_70 : decode b_Phrase_take 70 = .ok (.ifCond .ne 9, 3) := by decide +kernel
theorem d_Phrase_take_73 : decode b_Phrase_take 73 = .ok (.aload_n 0, 1) := by decide +kernel
theorem d_Phrase_take_74 : decode b_Phrase_take 74 = .ok (.iload_n 1, 1) := by decide +kernel
theorem d_Phrase_take_75 : decode b_Phrase_take 75 = .ok (.invokevirtual 70, 3) := by decide +kernel
theorem d_Phrase_take_78 : decode b_Phrase_take 78 = .ok (.ireturn, 1) := by decide +kernel
theorem d_Phrase_take_79 : decode b_Phrase_take 79 = .ok (.aload_n 0, 1) := by decide +kernel
theorem d_Phrase_take_80 : decode b_Phrase_take 80 = .ok (.getfield 40, 3) := by decide +kernel
theorem d_Phrase_take_83 : decode b_Phrase_take 83 = .ok (.iconst 1, 1) := by decide +kernel
theorem d_Phrase_take_84 : decode b_Phrase_take 84 = .ok (.if_icmp .eq 11, 3) := by decide +kernel
theorem d_Phrase_take_87 : decode b_Phrase_take 87 = .ok (.aload_n 0, 1) := by decide +kernel
theorem d_Phrase_take_88 : decode b_Phrase_take 88 = .ok (.getfield 40, 3) := by decide +kernel
theorem d_Phrase_take_91 : decode b_Phrase_take 91 = .ok (.iconst 2, 1) := by decide +kernel
theorem d_Phrase_take_92 : decode b_Phrase_take 92 = .ok (.if_icmp .ne 30, 3) := by decide +kernel
theorem d_Phrase_take_95 : decode b_Phrase_take 95 = .ok (.aload_n 0, 1) := by decide +kernel
theorem d_Phrase_take_96 : decode b_Phrase_take 96 = .ok (.invokevirtual 73, 3) := by decide +kernel
theorem d_Phrase_take_99 : decode b_Phrase_take 99 = .ok (.ifCond .eq 21, 3) := by decide +kernel
theorem d_Phrase_take_102 : decode b_Phrase_take 102 = .ok (.iload_n 1, 1) := by decide +kernel
theorem d_Phrase_take_103 : decode b_Phrase_take 103 = .ok (.bipush 37, 2) := by decide +kernel
theorem d_Phrase_take_105 : decode b_Phrase_take 105 = .ok (.if_icmp .eq 11, 3) := by decide +kernel
theorem d_Phrase_take_108 : decode b_Phrase_take 108 = .ok (.aload_n 0, 1) := by decide +kernel
theorem d_Phrase_take_109 : decode b_Phrase_take 109 = .ok (.iload_n 1, 1) := by decide +kernel
theorem d_Phrase_take_110 : decode b_Phrase_take 110 = .ok (.invokevirtual 76, 3) := by decide +kernel
theorem d_Phrase_take_113 : decode b_Phrase_take 113 = .ok (.ifCond .eq 7, 3) := by decide +kernel
theorem d_Phrase_take_116 : decode b_Phrase_take 116 = .ok (.iconst 1, 1) := by decide +kernel
theorem d_Phrase_take_117 : decode b_Phrase_take 117 = .ok (.goto 4, 3) := by decide +kernel
theorem d_Phrase_take_120 : decode b_Phrase_take 120 = .ok (.iconst 0, 1) := by decide +kernel
theorem d_Phrase_take_121 : decode b_Phrase_take 121 = .ok (.ireturn, 1) := by decide +kernel
theorem d_Phrase_take_122 : decode b_Phrase_take 122 = .ok (.aload_n 0, 1) := by decide +kernel
theorem d_Phrase_take_123 : decode b_Phrase_take 123 = .ok (.iload_n 1, 1) := by decide +kernel
theorem d_Phrase_take_124 : decode b_Phrase_take 124 = .ok (.invokevirtual 76, 3) := by decide +kernel
theorem d_Phrase_take_127 : decode b_Phrase_take 127 = .ok (.ireturn, 1) := by decide +kernel
theorem d_Phrase_read_0 : decode b_Phrase_read 0 = .ok (.aload_n 0, 1) := by decide +kernel
theorem d_Phrase_read_1 : decode b_Phrase_read 1 = .ok (.iconst 0, 1) := by decide +kernel
theorem d_Phrase_read_2 : decode b_Phrase_read 2 = .ok (.putfield 24, 3) := by decide +kernel
theorem d_Phrase_read_5 : decode b_Phrase_read 5 = .ok (.aload_n 0, 1) := by decide +kernel
theorem d_Phrase_read_6 : decode b_Phrase_read 6 = .ok (.iconst 0, 1) := by decide +kernel
theorem d_Phrase_read_7 : decode b_Phrase_read 7 = .ok (.putfield 37, 3) := by decide +kernel
theorem d_Phrase_read_10 : decode b_Phrase_read 10 = .ok (.aload_n 0, 1) := by decide +kernel
theorem d_Phrase_read_11 : decode b_Phrase_read 11 = .ok (.iconst 0, 1) := by decide +kernel
theorem d_Phrase_read_12 : decode b_Phrase_read 12 = .ok (.putfield 40, 3) := by decide +kernel
theorem d_Phrase_read_15 : decode b_Phrase_read 15 = .ok (.iconst 0, 1) := by decide +kernel
theorem d_Phrase_read_16 : decode b_Phrase_read 16 = .ok (.istore_n 3, 1) := by decide +kernel
theorem d_Phrase_read_17 : decode b_Phrase_read 17 = .ok (.iload_n 3, 1) := by decide +kernel
theorem d_Phrase_read_18 : decode b_Phrase_read 18 = .ok (.iload_n 2, 1) := by decide +kernel
theorem d_Phrase_read_19 : decode b_Phrase_read 19 = .ok (.if_icmp .ge 27, 3) := by decide +kernel
theorem d_Phrase_read_22 : decode b_Phrase_read 22 = .ok (.iload_n 3, 1) := by decide +kernel
theorem d_Phrase_read_23 : decode b_Phrase_read 23 = .ok (.aload_n 1, 1) := by decide +kernel
theorem d_Phrase_read_24 : decode b_Phrase_read 24 = .ok (.arraylength, 1) := by decide +kernel
theorem d_Phrase_read_25 : decode b_Phrase_read 25 = .ok (.if_icmp .ge 21, 3) := by decide +kernel
theorem d_Phrase_read_28 : decode b_Phrase_read 28 = .ok (.aload_n 0, 1) := by decide +kernel
theorem d_Phrase_read_29 : decode b_Phrase_read 29 = .ok (.aload_n 1, 1) := by decide +kernel
theorem d_Phrase_read_30 : decode b_Phrase_read 30 = .ok (.iload_n 3, 1) := by decide +kernel
theorem d_Phrase_read_31 : decode b_Phrase_read 31 = .ok (.iaload, 1) := by decide +kernel
theorem d_Phrase_read_32 : decode b_Phrase_read 32 = .ok (.invokevirtual 46, 3) := by decide +kernel
theorem d_Phrase_read_35 : decode b_Phrase_read 35 = .ok (.ifCond .ne 5, 3) := by decide +kernel
theorem d_Phrase_read_38 : decode b_Phrase_read 38 = .ok (.iload_n 3, 1) := by decide +kernel
theorem d_Phrase_read_39 : decode b_Phrase_read 39 = .ok (.ireturn, 1) := by decide +kernel
theorem d_Phrase_read_40 : decode b_Phrase_read 40 = .ok (.iinc 3 1, 3) := by decide +kernel
theorem d_Phrase_read_43 : decode b_Phrase_read 43 = .ok (.goto (-26), 3) := by decide +kernel
theorem d_Phrase_read_46 : decode b_Phrase_read 46 = .ok (.aload_n 0, 1) := by decide +kernel
theorem d_Phrase_read_47 : decode b_Phrase_read 47 = .ok (.invokevirtual 50, 3) := by decide +kernel
theorem d_Phrase_read_50 : decode b_Phrase_read 50 = .ok (.ifCond .eq 7, 3) := by decide +kernel
theorem d_Phrase_read_53 : decode b_Phrase_read 53 = .ok (.iconst (-1), 1) := by decide +kernel
theorem d_Phrase_read_54 : decode b_Phrase_read 54 = .ok (.goto 4, 3) := by decide +kernel
theorem d_Phrase_read_57 : decode b_Phrase_read 57 = .ok (.iload_n 2, 1) := by decide +kernel
theorem d_Phrase_read_58 : decode b_Phrase_read 58 = .ok (.ireturn, 1) := by decide +kernel
theorem d_Phrase_init_0 : decode b_Phrase_init 0 = .ok (.aload_n 0, 1) := by decide +kernel
theorem d_Phrase_init_1 : decode b_Phrase_init 1 = .ok (.invokespecial 3, 3) := by decide +kernel
theorem d_Phrase_init_4 : decode b_Phrase_init 4 = .ok (.aload_n 0, 1) := by decide +kernel
theorem d_Phrase_init_5 : decode b_Phrase_init 5 = .ok (.bipush 30, 2) := by decide +kernel
theorem d_Phrase_init_7 : decode b_Phrase_init 7 = .ok (.newarray .int, 2) := by decide +kernel
theorem d_Phrase_init_9 : decode b_Phrase_init 9 = .ok (.putfield 9, 3) := by decide +kernel
theorem d_Phrase_init_12 : decode b_Phrase_init 12 = .ok (.aload_n 0, 1) := by decide +kernel
theorem d_Phrase_init_13 : decode b_Phrase_init 13 = .ok (.bipush 30, 2) := by decide +kernel
theorem d_Phrase_init_15 : decode b_Phrase_init 15 = .ok (.newarray .int, 2) := by decide +kernel
theorem d_Phrase_init_17 : decode b_Phrase_init 17 = .ok (.putfield 15, 3) := by decide +kernel
theorem d_Phrase_init_20 : decode b_Phrase_init 20 = .ok (.aload_n 0, 1) := by decide +kernel
theorem d_Phrase_init_21 : decode b_Phrase_init 21 = .ok (.bipush 30, 2) := by decide +kernel
theorem d_Phrase_init_23 : decode b_Phrase_init 23 = .ok (.newarray .int, 2) := by decide +kernel
theorem d_Phrase_init_25 : decode b_Phrase_init 25 = .ok (.putfield 18, 3) := by decide +kernel
theorem d_Phrase_init_28 : decode b_Phrase_init 28 = .ok (.aload_n 0, 1) := by decide +kernel
theorem d_Phrase_init_29 : decode b_Phrase_init 29 = .ok (.bipush 30, 2) := by decide +kernel
theorem d_Phrase_init_31 : decode b_Phrase_init 31 = .ok (.newarray .int, 2) := by decide +kernel
theorem d_Phrase_init_33 : decode b_Phrase_init 33 = .ok (.putfield 21, 3) := by decide +kernel
theorem d_Phrase_init_36 : decode b_Phrase_init 36 = .ok (.aload_n 0, 1) := by decide +kernel
theorem d_Phrase_init_37 : decode b_Phrase_init 37 = .ok (.iconst 0, 1) := by decide +kernel
theorem d_Phrase_init_38 : decode b_Phrase_init 38 = .ok (.putfield 24, 3) := by decide +kernel
theorem d_Phrase_init_41 : decode b_Phrase_init 41 = .ok (.aload_n 0, 1) := by decide +kernel
theorem d_Phrase_init_42 : decode b_Phrase_init 42 = .ok (.bipush 30, 2) := by decide +kernel
theorem d_Phrase_init_44 : decode b_Phrase_init 44 = .ok (.newarray .int, 2) := by decide +kernel
theorem d_Phrase_init_46 : decode b_Phrase_init 46 = .ok (.putfield 28, 3) := by decide +kernel
theorem d_Phrase_init_49 : decode b_Phrase_init 49 = .ok (.aload_n 0, 1) := by decide +kernel
theorem d_Phrase_init_50 : decode b_Phrase_init 50 = .ok (.bipush 30, 2) := by decide +kernel
theorem d_Phrase_init_52 : decode b_Phrase_init 52 = .ok (.newarray .int, 2) := by decide +kernel
theorem d_Phrase_init_54 : decode b_Phrase_init 54 = .ok (.putfield 31, 3) := by decide +kernel
theorem d_Phrase_init_57 : decode b_Phrase_init 57 = .ok (.aload_n 0, 1) := by decide +kernel
theorem d_Phrase_init_58 : decode b_Phrase_init 58 = .ok (.bipush 30, 2) := by decide +kernel
theorem d_Phrase_init_60 : decode b_Phrase_init 60 = .ok (.newarray .int, 2) := by decide +kernel
theorem d_Phrase_init_62 : decode b_Phrase_init 62 = .ok (.putfield 34, 3) := by decide +kernel
theorem d_Phrase_init_65 : decode b_Phrase_init 65 = .ok (.aload_n 0, 1) := by decide +kernel
theorem d_Phrase_init_66 : decode b_Phrase_init 66 = .ok (.iconst 0, 1) := by decide +kernel
theorem d_Phrase_init_67 : decode b_Phrase_init 67 = .ok (.putfield 37, 3) := by decide +kernel
theorem d_Phrase_init_70 : decode b_Phrase_init 70 = .ok (.aload_n 0, 1) := by decide +kernel
theorem d_Phrase_init_71 : decode b_Phrase_init 71 = .ok (.iconst 0, 1) := by decide +kernel
theorem d_Phrase_init_72 : decode b_Phrase_init 72 = .ok (.putfield 40, 3) := by decide +kernel
theorem d_Phrase_init_75 : decode b_Phrase_init 75 = .ok (.aload_n 0, 1) := by decide +kernel
theorem d_Phrase_init_76 : decode b_Phrase_init 76 = .ok (.iconst 0, 1) := by decide +kernel
theorem d_Phrase_init_77 : decode b_Phrase_init 77 = .ok (.putfield 43, 3) := by decide +kernel
theorem d_Phrase_init_80 : decode b_Phrase_init 80 = .ok (.return_, 1) := by decide +kernel

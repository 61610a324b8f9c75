/-! DECODE ROWS -/
theorem prd_R_take_0 : decode prb_R_take 0 = .ok (.aload_n 0, 1) := by decide +kernel
theorem prd_R_take_1 : decode prb_R_take 1 = .ok (.getfield 9, 3) := by decide +kernel
theorem prd_R_take_4 : decode prb_R_take 4 = .ok (.aload_n 0, 1) := by decide +kernel
theorem prd_R_take_5 : decode prb_R_take 5 = .ok (.getfield 19, 3) := by decide +kernel
theorem prd_R_take_8 : decode prb_R_take 8 = .ok (.invokevirtual 53, 3) := by decide +kernel
theorem prd_R_take_11 : decode prb_R_take 11 = .ok (.iload_n 1, 1) := by decide +kernel
theorem prd_R_take_12 : decode prb_R_take 12 = .ok (.if_icmp .eq 5, 3) := by decide +kernel
theorem prd_R_take_17 : decode prb_R_take 17 = .ok (.aload_n 0, 1) := by decide +kernel
theorem prd_R_take_18 : decode prb_R_take 18 = .ok (.dup, 1) := by decide +kernel
theorem prd_R_take_19 : decode prb_R_take 19 = .ok (.getfield 19, 3) := by decide +kernel
theorem prd_R_take_22 : decode prb_R_take 22 = .ok (.iconst 1, 1) := by decide +kernel
theorem prd_R_take_23 : decode prb_R_take 23 = .ok (.iadd, 1) := by decide +kernel
theorem prd_R_take_24 : decode prb_R_take 24 = .ok (.putfield 19, 3) := by decide +kernel
theorem prd_R_take_27 : decode prb_R_take 27 = .ok (.iconst 1, 1) := by decide +kernel
theorem prd_R_take_28 : decode prb_R_take 28 = .ok (.ireturn, 1) := by decide +kernel
theorem prd_R_take_15 : decode prb_R_take 15 = .ok (.iconst 0, 1) := by decide +kernel
theorem prd_R_take_16 : decode prb_R_take 16 = .ok (.ireturn, 1) := by decide +kernel
theorem prd_R_now_0 : decode prb_R_now 0 = .ok (.aload_n 0, 1) := by decide +kernel
theorem prd_R_now_1 : decode prb_R_now 1 = .ok (.getfield 9, 3) := by decide +kernel
theorem prd_R_now_4 : decode prb_R_now 4 = .ok (.aload_n 0, 1) := by decide +kernel
theorem prd_R_now_5 : decode prb_R_now 5 = .ok (.getfield 19, 3) := by decide +kernel
theorem prd_R_now_8 : decode prb_R_now 8 = .ok (.invokevirtual 53, 3) := by decide +kernel
theorem prd_R_now_11 : decode prb_R_now 11 = .ok (.ireturn, 1) := by decide +kernel
theorem prd_R_readNames_0 : decode prb_R_readNames 0 = .ok (.aload_n 0, 1) := by decide +kernel
theorem prd_R_readNames_1 : decode prb_R_readNames 1 = .ok (.iconst 2, 1) := by decide +kernel
theorem prd_R_readNames_2 : decode prb_R_readNames 2 = .ok (.invokevirtual 56, 3) := by decide +kernel
theorem prd_R_readNames_5 : decode prb_R_readNames 5 = .ok (.ifCond .ne 5, 3) := by decide +kernel
theorem prd_R_readNames_10 : decode prb_R_readNames 10 = .ok (.iconst 1, 1) := by decide +kernel
theorem prd_R_readNames_11 : decode prb_R_readNames 11 = .ok (.istore_n 1, 1) := by decide +kernel
theorem prd_R_readNames_12 : decode prb_R_readNames 12 = .ok (.iconst 0, 1) := by decide +kernel
theorem prd_R_readNames_13 : decode prb_R_readNames 13 = .ok (.istore_n 2, 1) := by decide +kernel
theorem prd_R_readNames_8 : decode prb_R_readNames 8 = .ok (.iconst (-1), 1) := by decide +kernel
theorem prd_R_readNames_9 : decode prb_R_readNames 9 = .ok (.ireturn, 1) := by decide +kernel
theorem prd_R_readNames_14 : decode prb_R_readNames 14 = .ok (.iload_n 2, 1) := by decide +kernel
theorem prd_R_readNames_15 : decode prb_R_readNames 15 = .ok (.sipush 8000, 3) := by decide +kernel
theorem prd_R_readNames_18 : decode prb_R_readNames 18 = .ok (.if_icmp .ge 31, 3) := by decide +kernel
theorem prd_R_readNames_49 : decode prb_R_readNames 49 = .ok (.iload_n 1, 1) := by decide +kernel
theorem prd_R_readNames_50 : decode prb_R_readNames 50 = .ok (.ireturn, 1) := by decide +kernel
theorem prd_R_readNames_21 : decode prb_R_readNames 21 = .ok (.aload_n 0, 1) := by decide +kernel
theorem prd_R_readNames_22 : decode prb_R_readNames 22 = .ok (.bipush 18, 2) := by decide +kernel
theorem prd_R_readNames_24 : decode prb_R_readNames 24 = .ok (.invokevirtual 56, 3) := by decide +kernel
theorem prd_R_readNames_27 : decode prb_R_readNames 27 = .ok (.ifCond .eq 22, 3) := by decide +kernel
theorem prd_R_readNames_30 : decode prb_R_readNames 30 = .ok (.aload_n 0, 1) := by decide +kernel
theorem prd_R_readNames_31 : decode prb_R_readNames 31 = .ok (.iconst 2, 1) := by decide +kernel
theorem prd_R_readNames_32 : decode prb_R_readNames 32 = .ok (.invokevirtual 56, 3) := by decide +kernel
theorem prd_R_readNames_35 : decode prb_R_readNames 35 = .ok (.ifCond .ne 5, 3) := by decide +kernel
theorem prd_R_readNames_40 : decode prb_R_readNames 40 = .ok (.iinc 1 1, 3) := by decide +kernel
theorem prd_R_readNames_43 : decode prb_R_readNames 43 = .ok (.iinc 2 1, 3) := by decide +kernel
theorem prd_R_readNames_46 : decode prb_R_readNames 46 = .ok (.goto (-32), 3) := by decide +kernel
theorem prd_R_readNames_38 : decode prb_R_readNames 38 = .ok (.iconst (-1), 1) := by decide +kernel
theorem prd_R_readNames_39 : decode prb_R_readNames 39 = .ok (.ireturn, 1) := by decide +kernel
theorem prd_R_readHead_0 : decode prb_R_readHead 0 = .ok (.aload_n 0, 1) := by decide +kernel
theorem prd_R_readHead_1 : decode prb_R_readHead 1 = .ok (.iconst 4, 1) := by decide +kernel
theorem prd_R_readHead_2 : decode prb_R_readHead 2 = .ok (.invokevirtual 56, 3) := by decide +kernel
theorem prd_R_readHead_5 : decode prb_R_readHead 5 = .ok (.ifCond .ne 5, 3) := by decide +kernel
theorem prd_R_readHead_10 : decode prb_R_readHead 10 = .ok (.aload_n 0, 1) := by decide +kernel
theorem prd_R_readHead_11 : decode prb_R_readHead 11 = .ok (.getfield 19, 3) := by decide +kernel
theorem prd_R_readHead_14 : decode prb_R_readHead 14 = .ok (.istore_n 1, 1) := by decide +kernel
theorem prd_R_readHead_15 : decode prb_R_readHead 15 = .ok (.aload_n 0, 1) := by decide +kernel
theorem prd_R_readHead_16 : decode prb_R_readHead 16 = .ok (.iconst 2, 1) := by decide +kernel
theorem prd_R_readHead_17 : decode prb_R_readHead 17 = .ok (.invokevirtual 56, 3) := by decide +kernel
theorem prd_R_readHead_20 : decode prb_R_readHead 20 = .ok (.ifCond .eq 12, 3) := by decide +kernel
theorem prd_R_readHead_32 : decode prb_R_readHead 32 = .ok (.iconst 0, 1) := by decide +kernel
theorem prd_R_readHead_33 : decode prb_R_readHead 33 = .ok (.ireturn, 1) := by decide +kernel
theorem prd_R_readHead_23 : decode prb_R_readHead 23 = .ok (.aload_n 0, 1) := by decide +kernel
theorem prd_R_readHead_24 : decode prb_R_readHead 24 = .ok (.bipush 12, 2) := by decide +kernel
theorem prd_R_readHead_26 : decode prb_R_readHead 26 = .ok (.invokevirtual 56, 3) := by decide +kernel
theorem prd_R_readHead_29 : decode prb_R_readHead 29 = .ok (.ifCond .ne 5, 3) := by decide +kernel
theorem prd_R_readHead_34 : decode prb_R_readHead 34 = .ok (.iconst 0, 1) := by decide +kernel
theorem prd_R_readHead_35 : decode prb_R_readHead 35 = .ok (.istore_n 2, 1) := by decide +kernel
theorem prd_R_readHead_36 : decode prb_R_readHead 36 = .ok (.aload_n 0, 1) := by decide +kernel
theorem prd_R_readHead_37 : decode prb_R_readHead 37 = .ok (.invokevirtual 49, 3) := by decide +kernel
theorem prd_R_readHead_40 : decode prb_R_readHead 40 = .ok (.bipush 13, 2) := by decide +kernel
theorem prd_R_readHead_42 : decode prb_R_readHead 42 = .ok (.if_icmp .eq 8, 3) := by decide +kernel
theorem prd_R_readHead_45 : decode prb_R_readHead 45 = .ok (.aload_n 0, 1) := by decide +kernel
theorem prd_R_readHead_46 : decode prb_R_readHead 46 = .ok (.invokevirtual 59, 3) := by decide +kernel
theorem prd_R_readHead_49 : decode prb_R_readHead 49 = .ok (.istore_n 2, 1) := by decide +kernel
theorem prd_R_readHead_8 : decode prb_R_readHead 8 = .ok (.iconst 0, 1) := by decide +kernel
theorem prd_R_readHead_9 : decode prb_R_readHead 9 = .ok (.ireturn, 1) := by decide +kernel
theorem prd_R_readHead_50 : decode prb_R_readHead 50 = .ok (.iload_n 2, 1) := by decide +kernel
theorem prd_R_readHead_51 : decode prb_R_readHead 51 = .ok (.iconst (-1), 1) := by decide +kernel
theorem prd_R_readHead_52 : decode prb_R_readHead 52 = .ok (.if_icmp .eq 28, 3) := by decide +kernel
theorem prd_R_readHead_80 : decode prb_R_readHead 80 = .ok (.iconst 0, 1) := by decide +kernel
theorem prd_R_readHead_81 : decode prb_R_readHead 81 = .ok (.ireturn, 1) := by decide +kernel
theorem prd_R_readHead_55 : decode prb_R_readHead 55 = .ok (.aload_n 0, 1) := by decide +kernel
theorem prd_R_readHead_56 : decode prb_R_readHead 56 = .ok (.bipush 13, 2) := by decide +kernel
theorem prd_R_readHead_58 : decode prb_R_readHead 58 = .ok (.invokevirtual 56, 3) := by decide +kernel
theorem prd_R_readHead_61 : decode prb_R_readHead 61 = .ok (.ifCond .eq 19, 3) := by decide +kernel
theorem prd_R_readHead_64 : decode prb_R_readHead 64 = .ok (.aload_n 0, 1) := by decide +kernel
theorem prd_R_readHead_65 : decode prb_R_readHead 65 = .ok (.getfield 15, 3) := by decide +kernel
theorem prd_R_readHead_68 : decode prb_R_readHead 68 = .ok (.iload_n 1, 1) := by decide +kernel
theorem prd_R_readHead_69 : decode prb_R_readHead 69 = .ok (.iload_n 2, 1) := by decide +kernel
theorem prd_R_readHead_70 : decode prb_R_readHead 70 = .ok (.invokevirtual 62, 3) := by decide +kernel
theorem prd_R_readHead_73 : decode prb_R_readHead 73 = .ok (.ifCond .eq 7, 3) := by decide +kernel
theorem prd_R_readHead_76 : decode prb_R_readHead 76 = .ok (.iconst 1, 1) := by decide +kernel
theorem prd_R_readHead_77 : decode prb_R_readHead 77 = .ok (.goto 4, 3) := by decide +kernel
theorem prd_R_isCallAt_0 : decode prb_R_isCallAt 0 = .ok (.aload_n 0, 1) := by decide +kernel
theorem prd_R_isCallAt_1 : decode prb_R_isCallAt 1 = .ok (.getfield 9, 3) := by decide +kernel
theorem prd_R_isCallAt_4 : decode prb_R_isCallAt 4 = .ok (.iload_n 1, 1) := by decide +kernel
theorem prd_R_isCallAt_5 : decode prb_R_isCallAt 5 = .ok (.invokevirtual 53, 3) := by decide +kernel
theorem prd_R_isCallAt_8 : decode prb_R_isCallAt 8 = .ok (.iconst 2, 1) := by decide +kernel
theorem prd_R_isCallAt_9 : decode prb_R_isCallAt 9 = .ok (.if_icmp .ne 22, 3) := by decide +kernel
theorem prd_R_isCallAt_31 : decode prb_R_isCallAt 31 = .ok (.iconst 0, 1) := by decide +kernel
theorem prd_R_isCallAt_32 : decode prb_R_isCallAt 32 = .ok (.ireturn, 1) := by decide +kernel
theorem prd_R_isCallAt_12 : decode prb_R_isCallAt 12 = .ok (.aload_n 0, 1) := by decide +kernel
theorem prd_R_isCallAt_13 : decode prb_R_isCallAt 13 = .ok (.getfield 9, 3) := by decide +kernel
theorem prd_R_isCallAt_16 : decode prb_R_isCallAt 16 = .ok (.iload_n 1, 1) := by decide +kernel
theorem prd_R_isCallAt_17 : decode prb_R_isCallAt 17 = .ok (.iconst 1, 1) := by decide +kernel
theorem prd_R_isCallAt_18 : decode prb_R_isCallAt 18 = .ok (.iadd, 1) := by decide +kernel
theorem prd_R_isCallAt_19 : decode prb_R_isCallAt 19 = .ok (.invokevirtual 53, 3) := by decide +kernel
theorem prd_R_isCallAt_22 : decode prb_R_isCallAt 22 = .ok (.bipush 12, 2) := by decide +kernel
theorem prd_R_isCallAt_24 : decode prb_R_isCallAt 24 = .ok (.if_icmp .ne 7, 3) := by decide +kernel
theorem prd_R_isCallAt_27 : decode prb_R_isCallAt 27 = .ok (.iconst 1, 1) := by decide +kernel
theorem prd_R_isCallAt_28 : decode prb_R_isCallAt 28 = .ok (.goto 4, 3) := by decide +kernel
theorem prd_R_kindBehindName_0 : decode prb_R_kindBehindName 0 = .ok (.aload_n 0, 1) := by decide +kernel
theorem prd_R_kindBehindName_1 : decode prb_R_kindBehindName 1 = .ok (.getfield 9, 3) := by decide +kernel
theorem prd_R_kindBehindName_4 : decode prb_R_kindBehindName 4 = .ok (.aload_n 0, 1) := by decide +kernel
theorem prd_R_kindBehindName_5 : decode prb_R_kindBehindName 5 = .ok (.getfield 19, 3) := by decide +kernel
theorem prd_R_kindBehindName_8 : decode prb_R_kindBehindName 8 = .ok (.iconst 1, 1) := by decide +kernel
theorem prd_R_kindBehindName_9 : decode prb_R_kindBehindName 9 = .ok (.iadd, 1) := by decide +kernel
theorem prd_R_kindBehindName_10 : decode prb_R_kindBehindName 10 = .ok (.invokevirtual 53, 3) := by decide +kernel
theorem prd_R_kindBehindName_13 : decode prb_R_kindBehindName 13 = .ok (.istore_n 1, 1) := by decide +kernel
theorem prd_R_kindBehindName_14 : decode prb_R_kindBehindName 14 = .ok (.iload_n 1, 1) := by decide +kernel
theorem prd_R_kindBehindName_15 : decode prb_R_kindBehindName 15 = .ok (.bipush 12, 2) := by decide +kernel
theorem prd_R_kindBehindName_17 : decode prb_R_kindBehindName 17 = .ok (.if_icmp .eq 22, 3) := by decide +kernel
theorem prd_R_kindBehindName_39 : decode prb_R_kindBehindName 39 = .ok (.iconst 4, 1) := by decide +kernel
theorem prd_R_kindBehindName_40 : decode prb_R_kindBehindName 40 = .ok (.ireturn, 1) := by decide +kernel
theorem prd_R_kindBehindName_20 : decode prb_R_kindBehindName 20 = .ok (.iload_n 1, 1) := by decide +kernel
theorem prd_R_kindBehindName_21 : decode prb_R_kindBehindName 21 = .ok (.bipush 20, 2) := by decide +kernel
theorem prd_R_kindBehindName_23 : decode prb_R_kindBehindName 23 = .ok (.if_icmp .ne 18, 3) := by decide +kernel
theorem prd_R_kindBehindName_41 : decode prb_R_kindBehindName 41 = .ok (.iload_n 1, 1) := by decide +kernel
theorem prd_R_kindBehindName_42 : decode prb_R_kindBehindName 42 = .ok (.bipush 16, 2) := by decide +kernel
theorem prd_R_kindBehindName_44 : decode prb_R_kindBehindName 44 = .ok (.if_icmp .ne 7, 3) := by decide +kernel
theorem prd_R_kindBehindName_51 : decode prb_R_kindBehindName 51 = .ok (.iconst 2, 1) := by decide +kernel
theorem prd_R_kindBehindName_52 : decode prb_R_kindBehindName 52 = .ok (.ireturn, 1) := by decide +kernel
theorem prd_R_kindBehindName_47 : decode prb_R_kindBehindName 47 = .ok (.iconst 3, 1) := by decide +kernel
theorem prd_R_kindBehindName_48 : decode prb_R_kindBehindName 48 = .ok (.goto 4, 3) := by decide +kernel
theorem prd_R_kindBehindName_26 : decode prb_R_kindBehindName 26 = .ok (.aload_n 0, 1) := by decide +kernel
theorem prd_R_kindBehindName_27 : decode prb_R_kindBehindName 27 = .ok (.aload_n 0, 1) := by decide +kernel
theorem prd_R_kindBehindName_28 : decode prb_R_kindBehindName 28 = .ok (.getfield 19, 3) := by decide +kernel
theorem prd_R_kindBehindName_31 : decode prb_R_kindBehindName 31 = .ok (.iconst 2, 1) := by decide +kernel
theorem prd_R_kindBehindName_32 : decode prb_R_kindBehindName 32 = .ok (.iadd, 1) := by decide +kernel
theorem prd_R_kindBehindName_33 : decode prb_R_kindBehindName 33 = .ok (.invokevirtual 102, 3) := by decide +kernel
theorem prd_R_kindBehindName_36 : decode prb_R_kindBehindName 36 = .ok (.ifCond .eq 5, 3) := by decide +kernel
theorem prd_R_statementKind_0 : decode prb_R_statementKind 0 = .ok (.aload_n 0, 1) := by decide +kernel
theorem prd_R_statementKind_1 : decode prb_R_statementKind 1 = .ok (.invokevirtual 49, 3) := by decide +kernel
theorem prd_R_statementKind_4 : decode prb_R_statementKind 4 = .ok (.tableswitch 70 2 10 #[65, 70, 70, 52, 54, 70, 56, 59, 62], 52) := by decide +kernel
theorem prd_R_statementKind_69 : decode prb_R_statementKind 69 = .ok (.aload_n 0, 1) := by decide +kernel
theorem prd_R_statementKind_70 : decode prb_R_statementKind 70 = .ok (.invokevirtual 99, 3) := by decide +kernel
theorem prd_R_statementKind_73 : decode prb_R_statementKind 73 = .ok (.ireturn, 1) := by decide +kernel
theorem prd_R_statementKind_74 : decode prb_R_statementKind 74 = .ok (.iconst 0, 1) := by decide +kernel
theorem prd_R_statementKind_75 : decode prb_R_statementKind 75 = .ok (.ireturn, 1) := by decide +kernel
theorem prd_R_statementKind_56 : decode prb_R_statementKind 56 = .ok (.iconst 1, 1) := by decide +kernel
theorem prd_R_statementKind_57 : decode prb_R_statementKind 57 = .ok (.ireturn, 1) := by decide +kernel
theorem prd_R_statementKind_58 : decode prb_R_statementKind 58 = .ok (.iconst 5, 1) := by decide +kernel
theorem prd_R_statementKind_59 : decode prb_R_statementKind 59 = .ok (.ireturn, 1) := by decide +kernel
theorem prd_R_statementKind_60 : decode prb_R_statementKind 60 = .ok (.bipush 6, 2) := by decide +kernel
theorem prd_R_statementKind_62 : decode prb_R_statementKind 62 = .ok (.ireturn, 1) := by decide +kernel
theorem prd_R_statementKind_63 : decode prb_R_statementKind 63 = .ok (.bipush 7, 2) := by decide +kernel
theorem prd_R_statementKind_65 : decode prb_R_statementKind 65 = .ok (.ireturn, 1) := by decide +kernel
theorem prd_R_statementKind_66 : decode prb_R_statementKind 66 = .ok (.bipush 8, 2) := by decide +kernel
theorem prd_R_statementKind_68 : decode prb_R_statementKind 68 = .ok (.ireturn, 1) := by decide +kernel
theorem prd_R_readLimit_0 : decode prb_R_readLimit 0 = .ok (.aload_n 0, 1) := by decide +kernel
theorem prd_R_readLimit_1 : decode prb_R_readLimit 1 = .ok (.invokevirtual 49, 3) := by decide +kernel
theorem prd_R_readLimit_4 : decode prb_R_readLimit 4 = .ok (.bipush 22, 2) := by decide +kernel
theorem prd_R_readLimit_6 : decode prb_R_readLimit 6 = .ok (.if_icmp .ne 13, 3) := by decide +kernel
theorem prd_R_readLimit_19 : decode prb_R_readLimit 19 = .ok (.aload_n 0, 1) := by decide +kernel
theorem prd_R_readLimit_20 : decode prb_R_readLimit 20 = .ok (.iconst 3, 1) := by decide +kernel
theorem prd_R_readLimit_21 : decode prb_R_readLimit 21 = .ok (.invokevirtual 56, 3) := by decide +kernel
theorem prd_R_readLimit_24 : decode prb_R_readLimit 24 = .ok (.ireturn, 1) := by decide +kernel
theorem prd_R_readLimit_9 : decode prb_R_readLimit 9 = .ok (.aload_n 0, 1) := by decide +kernel
theorem prd_R_readLimit_10 : decode prb_R_readLimit 10 = .ok (.dup, 1) := by decide +kernel
theorem prd_R_readLimit_11 : decode prb_R_readLimit 11 = .ok (.getfield 19, 3) := by decide +kernel
theorem prd_R_readLimit_14 : decode prb_R_readLimit 14 = .ok (.iconst 1, 1) := by decide +kernel
theorem prd_R_readLimit_15 : decode prb_R_readLimit 15 = .ok (.iadd, 1) := by decide +kernel
theorem prd_R_readLimit_16 : decode prb_R_readLimit 16 = .ok (.putfield 19, 3) := by decide +kernel
theorem prd_R_readTerm_0 : decode prb_R_readTerm 0 = .ok (.aload_n 0, 1) := by decide +kernel
theorem prd_R_readTerm_1 : decode prb_R_readTerm 1 = .ok (.iload_n 1, 1) := by decide +kernel
theorem prd_R_readTerm_2 : decode prb_R_readTerm 2 = .ok (.invokevirtual 130, 3) := by decide +kernel
theorem prd_R_readTerm_5 : decode prb_R_readTerm 5 = .ok (.ifCond .ne 5, 3) := by decide +kernel
theorem prd_R_readTerm_10 : decode prb_R_readTerm 10 = .ok (.iconst 0, 1) := by decide +kernel
theorem prd_R_readTerm_11 : decode prb_R_readTerm 11 = .ok (.istore_n 2, 1) := by decide +kernel
theorem prd_R_readTerm_8 : decode prb_R_readTerm 8 = .ok (.iconst 0, 1) := by decide +kernel
theorem prd_R_readTerm_9 : decode prb_R_readTerm 9 = .ok (.ireturn, 1) := by decide +kernel
theorem prd_R_readTerm_12 : decode prb_R_readTerm 12 = .ok (.iload_n 2, 1) := by decide +kernel
theorem prd_R_readTerm_13 : decode prb_R_readTerm 13 = .ok (.sipush 8000, 3) := by decide +kernel
theorem prd_R_readTerm_16 : decode prb_R_readTerm 16 = .ok (.if_icmp .ge 61, 3) := by decide +kernel
theorem prd_R_readTerm_77 : decode prb_R_readTerm 77 = .ok (.iconst 1, 1) := by decide +kernel
theorem prd_R_readTerm_78 : decode prb_R_readTerm 78 = .ok (.ireturn, 1) := by decide +kernel
theorem prd_R_readTerm_19 : decode prb_R_readTerm 19 = .ok (.aload_n 0, 1) := by decide +kernel
theorem prd_R_readTerm_20 : decode prb_R_readTerm 20 = .ok (.invokevirtual 49, 3) := by decide +kernel
theorem prd_R_readTerm_23 : decode prb_R_readTerm 23 = .ok (.bipush 23, 2) := by decide +kernel
theorem prd_R_readTerm_25 : decode prb_R_readTerm 25 = .ok (.if_icmp .lt 52, 3) := by decide +kernel
theorem prd_R_readTerm_28 : decode prb_R_readTerm 28 = .ok (.aload_n 0, 1) := by decide +kernel
theorem prd_R_readTerm_29 : decode prb_R_readTerm 29 = .ok (.invokevirtual 49, 3) := by decide +kernel
theorem prd_R_readTerm_32 : decode prb_R_readTerm 32 = .ok (.bipush 25, 2) := by decide +kernel
theorem prd_R_readTerm_34 : decode prb_R_readTerm 34 = .ok (.if_icmp .gt 43, 3) := by decide +kernel
theorem prd_R_readTerm_37 : decode prb_R_readTerm 37 = .ok (.aload_n 0, 1) := by decide +kernel
theorem prd_R_readTerm_38 : decode prb_R_readTerm 38 = .ok (.invokevirtual 49, 3) := by decide +kernel
theorem prd_R_readTerm_41 : decode prb_R_readTerm 41 = .ok (.istore_n 3, 1) := by decide +kernel
theorem prd_R_readTerm_42 : decode prb_R_readTerm 42 = .ok (.aload_n 0, 1) := by decide +kernel
theorem prd_R_readTerm_43 : decode prb_R_readTerm 43 = .ok (.dup, 1) := by decide +kernel
theorem prd_R_readTerm_44 : decode prb_R_readTerm 44 = .ok (.getfield 19, 3) := by decide +kernel
theorem prd_R_readTerm_47 : decode prb_R_readTerm 47 = .ok (.iconst 1, 1) := by decide +kernel
theorem prd_R_readTerm_48 : decode prb_R_readTerm 48 = .ok (.iadd, 1) := by decide +kernel
theorem prd_R_readTerm_49 : decode prb_R_readTerm 49 = .ok (.putfield 19, 3) := by decide +kernel
theorem prd_R_readTerm_52 : decode prb_R_readTerm 52 = .ok (.aload_n 0, 1) := by decide +kernel
theorem prd_R_readTerm_53 : decode prb_R_readTerm 53 = .ok (.iload_n 1, 1) := by decide +kernel
theorem prd_R_readTerm_54 : decode prb_R_readTerm 54 = .ok (.invokevirtual 130, 3) := by decide +kernel
theorem prd_R_readTerm_57 : decode prb_R_readTerm 57 = .ok (.ifCond .ne 5, 3) := by decide +kernel
theorem prd_R_readTerm_62 : decode prb_R_readTerm 62 = .ok (.aload_n 0, 1) := by decide +kernel
theorem prd_R_readTerm_63 : decode prb_R_readTerm 63 = .ok (.getfield 15, 3) := by decide +kernel
theorem prd_R_readTerm_66 : decode prb_R_readTerm 66 = .ok (.iload_n 3, 1) := by decide +kernel
theorem prd_R_readTerm_67 : decode prb_R_readTerm 67 = .ok (.iconst (-1), 1) := by decide +kernel
theorem prd_R_readTerm_68 : decode prb_R_readTerm 68 = .ok (.invokevirtual 108, 3) := by decide +kernel
theorem prd_R_readTerm_71 : decode prb_R_readTerm 71 = .ok (.iinc 2 1, 3) := by decide +kernel
theorem prd_R_readTerm_74 : decode prb_R_readTerm 74 = .ok (.goto (-62), 3) := by decide +kernel
theorem prd_R_readTerm_60 : decode prb_R_readTerm 60 = .ok (.iconst 0, 1) := by decide +kernel
theorem prd_R_readTerm_61 : decode prb_R_readTerm 61 = .ok (.ireturn, 1) := by decide +kernel
theorem prd_R_readSum_0 : decode prb_R_readSum 0 = .ok (.iload_n 1, 1) := by decide +kernel
theorem prd_R_readSum_1 : decode prb_R_readSum 1 = .ok (.bipush 60, 2) := by decide +kernel
theorem prd_R_readSum_3 : decode prb_R_readSum 3 = .ok (.if_icmp .gt 11, 3) := by decide +kernel
theorem prd_R_readSum_14 : decode prb_R_readSum 14 = .ok (.iconst 0, 1) := by decide +kernel
theorem prd_R_readSum_15 : decode prb_R_readSum 15 = .ok (.ireturn, 1) := by decide +kernel
theorem prd_R_readSum_6 : decode prb_R_readSum 6 = .ok (.aload_n 0, 1) := by decide +kernel
theorem prd_R_readSum_7 : decode prb_R_readSum 7 = .ok (.iload_n 1, 1) := by decide +kernel
theorem prd_R_readSum_8 : decode prb_R_readSum 8 = .ok (.invokevirtual 127, 3) := by decide +kernel
theorem prd_R_readSum_11 : decode prb_R_readSum 11 = .ok (.ifCond .ne 5, 3) := by decide +kernel
theorem prd_R_readSum_16 : decode prb_R_readSum 16 = .ok (.iconst 0, 1) := by decide +kernel
theorem prd_R_readSum_17 : decode prb_R_readSum 17 = .ok (.istore_n 2, 1) := by decide +kernel
theorem prd_R_readSum_18 : decode prb_R_readSum 18 = .ok (.iload_n 2, 1) := by decide +kernel
theorem prd_R_readSum_19 : decode prb_R_readSum 19 = .ok (.sipush 8000, 3) := by decide +kernel
theorem prd_R_readSum_22 : decode prb_R_readSum 22 = .ok (.if_icmp .ge 61, 3) := by decide +kernel
theorem prd_R_readSum_83 : decode prb_R_readSum 83 = .ok (.iconst 1, 1) := by decide +kernel
theorem prd_R_readSum_84 : decode prb_R_readSum 84 = .ok (.ireturn, 1) := by decide +kernel
theorem prd_R_readSum_25 : decode prb_R_readSum 25 = .ok (.aload_n 0, 1) := by decide +kernel
theorem prd_R_readSum_26 : decode prb_R_readSum 26 = .ok (.invokevirtual 49, 3) := by decide +kernel
theorem prd_R_readSum_29 : decode prb_R_readSum 29 = .ok (.bipush 21, 2) := by decide +kernel
theorem prd_R_readSum_31 : decode prb_R_readSum 31 = .ok (.if_icmp .eq 12, 3) := by decide +kernel
theorem prd_R_readSum_34 : decode prb_R_readSum 34 = .ok (.aload_n 0, 1) := by decide +kernel
theorem prd_R_readSum_35 : decode prb_R_readSum 35 = .ok (.invokevirtual 49, 3) := by decide +kernel
theorem prd_R_readSum_38 : decode prb_R_readSum 38 = .ok (.bipush 22, 2) := by decide +kernel
theorem prd_R_readSum_40 : decode prb_R_readSum 40 = .ok (.if_icmp .ne 43, 3) := by decide +kernel
theorem prd_R_readSum_43 : decode prb_R_readSum 43 = .ok (.aload_n 0, 1) := by decide +kernel
theorem prd_R_readSum_44 : decode prb_R_readSum 44 = .ok (.invokevirtual 49, 3) := by decide +kernel
theorem prd_R_readSum_47 : decode prb_R_readSum 47 = .ok (.istore_n 3, 1) := by decide +kernel
theorem prd_R_readSum_48 : decode prb_R_readSum 48 = .ok (.aload_n 0, 1) := by decide +kernel
theorem prd_R_readSum_49 : decode prb_R_readSum 49 = .ok (.dup, 1) := by decide +kernel
theorem prd_R_readSum_50 : decode prb_R_readSum 50 = .ok (.getfield 19, 3) := by decide +kernel
theorem prd_R_readSum_53 : decode prb_R_readSum 53 = .ok (.iconst 1, 1) := by decide +kernel
theorem prd_R_readSum_54 : decode prb_R_readSum 54 = .ok (.iadd, 1) := by decide +kernel
theorem prd_R_readSum_55 : decode prb_R_readSum 55 = .ok (.putfield 19, 3) := by decide +kernel
theorem prd_R_readSum_58 : decode prb_R_readSum 58 = .ok (.aload_n 0, 1) := by decide +kernel
theorem prd_R_readSum_59 : decode prb_R_readSum 59 = .ok (.iload_n 1, 1) := by decide +kernel
theorem prd_R_readSum_60 : decode prb_R_readSum 60 = .ok (.invokevirtual 127, 3) := by decide +kernel
theorem prd_R_readSum_63 : decode prb_R_readSum 63 = .ok (.ifCond .ne 5, 3) := by decide +kernel
theorem prd_R_readSum_68 : decode prb_R_readSum 68 = .ok (.aload_n 0, 1) := by decide +kernel
theorem prd_R_readSum_69 : decode prb_R_readSum 69 = .ok (.getfield 15, 3) := by decide +kernel
theorem prd_R_readSum_72 : decode prb_R_readSum 72 = .ok (.iload_n 3, 1) := by decide +kernel
theorem prd_R_readSum_73 : decode prb_R_readSum 73 = .ok (.iconst (-1), 1) := by decide +kernel
theorem prd_R_readSum_74 : decode prb_R_readSum 74 = .ok (.invokevirtual 108, 3) := by decide +kernel
theorem prd_R_readSum_77 : decode prb_R_readSum 77 = .ok (.iinc 2 1, 3) := by decide +kernel
theorem prd_R_readSum_80 : decode prb_R_readSum 80 = .ok (.goto (-62), 3) := by decide +kernel
theorem prd_R_readSum_66 : decode prb_R_readSum 66 = .ok (.iconst 0, 1) := by decide +kernel
theorem prd_R_readSum_67 : decode prb_R_readSum 67 = .ok (.ireturn, 1) := by decide +kernel
theorem prd_R_readFactor_0 : decode prb_R_readFactor 0 = .ok (.aload_n 0, 1) := by decide +kernel
theorem prd_R_readFactor_1 : decode prb_R_readFactor 1 = .ok (.getfield 19, 3) := by decide +kernel
theorem prd_R_readFactor_4 : decode prb_R_readFactor 4 = .ok (.istore_n 2, 1) := by decide +kernel
theorem prd_R_readFactor_5 : decode prb_R_readFactor 5 = .ok (.aload_n 0, 1) := by decide +kernel
theorem prd_R_readFactor_6 : decode prb_R_readFactor 6 = .ok (.invokevirtual 49, 3) := by decide +kernel
theorem prd_R_readFactor_9 : decode prb_R_readFactor 9 = .ok (.lookupswitch 281 #[(2, 208), (3, 51), (11, 66), (12, 133), (22, 168)], 51) := by decide +kernel
theorem prd_R_readFactor_217 : decode prb_R_readFactor 217 = .ok (.aload_n 0, 1) := by decide +kernel
theorem prd_R_readFactor_218 : decode prb_R_readFactor 218 = .ok (.dup, 1) := by decide +kernel
theorem prd_R_readFactor_219 : decode prb_R_readFactor 219 = .ok (.getfield 19, 3) := by decide +kernel
theorem prd_R_readFactor_222 : decode prb_R_readFactor 222 = .ok (.iconst 1, 1) := by decide +kernel
theorem prd_R_readFactor_223 : decode prb_R_readFactor 223 = .ok (.iadd, 1) := by decide +kernel
theorem prd_R_readFactor_224 : decode prb_R_readFactor 224 = .ok (.putfield 19, 3) := by decide +kernel
theorem prd_R_readFactor_227 : decode prb_R_readFactor 227 = .ok (.aload_n 0, 1) := by decide +kernel
theorem prd_R_readFactor_228 : decode prb_R_readFactor 228 = .ok (.bipush 16, 2) := by decide +kernel
theorem prd_R_readFactor_230 : decode prb_R_readFactor 230 = .ok (.invokevirtual 56, 3) := by decide +kernel
theorem prd_R_readFactor_233 : decode prb_R_readFactor 233 = .ok (.ifCond .ne 14, 3) := by decide +kernel
theorem prd_R_readFactor_247 : decode prb_R_readFactor 247 = .ok (.aload_n 0, 1) := by decide +kernel
theorem prd_R_readFactor_248 : decode prb_R_readFactor 248 = .ok (.getfield 15, 3) := by decide +kernel
theorem prd_R_readFactor_251 : decode prb_R_readFactor 251 = .ok (.bipush 36, 2) := by decide +kernel
theorem prd_R_readFactor_253 : decode prb_R_readFactor 253 = .ok (.iload_n 2, 1) := by decide +kernel
theorem prd_R_readFactor_254 : decode prb_R_readFactor 254 = .ok (.invokevirtual 108, 3) := by decide +kernel
theorem prd_R_readFactor_257 : decode prb_R_readFactor 257 = .ok (.aload_n 0, 1) := by decide +kernel
theorem prd_R_readFactor_258 : decode prb_R_readFactor 258 = .ok (.iload_n 1, 1) := by decide +kernel
theorem prd_R_readFactor_259 : decode prb_R_readFactor 259 = .ok (.iconst 1, 1) := by decide +kernel
theorem prd_R_readFactor_260 : decode prb_R_readFactor 260 = .ok (.iadd, 1) := by decide +kernel
theorem prd_R_readFactor_261 : decode prb_R_readFactor 261 = .ok (.invokevirtual 79, 3) := by decide +kernel
theorem prd_R_readFactor_264 : decode prb_R_readFactor 264 = .ok (.ifCond .eq 12, 3) := by decide +kernel
theorem prd_R_readFactor_276 : decode prb_R_readFactor 276 = .ok (.iconst 0, 1) := by decide +kernel
theorem prd_R_readFactor_277 : decode prb_R_readFactor 277 = .ok (.ireturn, 1) := by decide +kernel
theorem prd_R_readFactor_267 : decode prb_R_readFactor 267 = .ok (.aload_n 0, 1) := by decide +kernel
theorem prd_R_readFactor_268 : decode prb_R_readFactor 268 = .ok (.bipush 17, 2) := by decide +kernel
theorem prd_R_readFactor_270 : decode prb_R_readFactor 270 = .ok (.invokevirtual 56, 3) := by decide +kernel
theorem prd_R_readFactor_273 : decode prb_R_readFactor 273 = .ok (.ifCond .ne 5, 3) := by decide +kernel
theorem prd_R_readFactor_278 : decode prb_R_readFactor 278 = .ok (.aload_n 0, 1) := by decide +kernel
theorem prd_R_readFactor_279 : decode prb_R_readFactor 279 = .ok (.getfield 15, 3) := by decide +kernel
theorem prd_R_readFactor_282 : decode prb_R_readFactor 282 = .ok (.bipush 38, 2) := by decide +kernel
theorem prd_R_readFactor_284 : decode prb_R_readFactor 284 = .ok (.iconst (-1), 1) := by decide +kernel
theorem prd_R_readFactor_285 : decode prb_R_readFactor 285 = .ok (.invokevirtual 108, 3) := by decide +kernel
theorem prd_R_readFactor_288 : decode prb_R_readFactor 288 = .ok (.iconst 1, 1) := by decide +kernel
theorem prd_R_readFactor_289 : decode prb_R_readFactor 289 = .ok (.ireturn, 1) := by decide +kernel
theorem prd_R_readFactor_236 : decode prb_R_readFactor 236 = .ok (.aload_n 0, 1) := by decide +kernel
theorem prd_R_readFactor_237 : decode prb_R_readFactor 237 = .ok (.getfield 15, 3) := by decide +kernel
theorem prd_R_readFactor_240 : decode prb_R_readFactor 240 = .ok (.iconst 2, 1) := by decide +kernel
theorem prd_R_readFactor_241 : decode prb_R_readFactor 241 = .ok (.iload_n 2, 1) := by decide +kernel
theorem prd_R_readFactor_242 : decode prb_R_readFactor 242 = .ok (.invokevirtual 108, 3) := by decide +kernel
theorem prd_R_readFactor_245 : decode prb_R_readFactor 245 = .ok (.iconst 1, 1) := by decide +kernel
theorem prd_R_readFactor_246 : decode prb_R_readFactor 246 = .ok (.ireturn, 1) := by decide +kernel
theorem prd_R_readFactor_60 : decode prb_R_readFactor 60 = .ok (.aload_n 0, 1) := by decide +kernel
theorem prd_R_readFactor_61 : decode prb_R_readFactor 61 = .ok (.getfield 15, 3) := by decide +kernel
theorem prd_R_readFactor_64 : decode prb_R_readFactor 64 = .ok (.iconst 3, 1) := by decide +kernel
theorem prd_R_readFactor_65 : decode prb_R_readFactor 65 = .ok (.iload_n 2, 1) := by decide +kernel
theorem prd_R_readFactor_66 : decode prb_R_readFactor 66 = .ok (.invokevirtual 108, 3) := by decide +kernel
theorem prd_R_readFactor_69 : decode prb_R_readFactor 69 = .ok (.aload_n 0, 1) := by decide +kernel
theorem prd_R_readFactor_70 : decode prb_R_readFactor 70 = .ok (.iconst 3, 1) := by decide +kernel
theorem prd_R_readFactor_71 : decode prb_R_readFactor 71 = .ok (.invokevirtual 56, 3) := by decide +kernel
theorem prd_R_readFactor_74 : decode prb_R_readFactor 74 = .ok (.ireturn, 1) := by decide +kernel
theorem prd_R_readFactor_75 : decode prb_R_readFactor 75 = .ok (.aload_n 0, 1) := by decide +kernel
theorem prd_R_readFactor_76 : decode prb_R_readFactor 76 = .ok (.getfield 15, 3) := by decide +kernel
theorem prd_R_readFactor_79 : decode prb_R_readFactor 79 = .ok (.bipush 11, 2) := by decide +kernel
theorem prd_R_readFactor_81 : decode prb_R_readFactor 81 = .ok (.iload_n 2, 1) := by decide +kernel
theorem prd_R_readFactor_82 : decode prb_R_readFactor 82 = .ok (.invokevirtual 108, 3) := by decide +kernel
theorem prd_R_readFactor_85 : decode prb_R_readFactor 85 = .ok (.aload_n 0, 1) := by decide +kernel
theorem prd_R_readFactor_86 : decode prb_R_readFactor 86 = .ok (.dup, 1) := by decide +kernel
theorem prd_R_readFactor_87 : decode prb_R_readFactor 87 = .ok (.getfield 19, 3) := by decide +kernel
theorem prd_R_readFactor_90 : decode prb_R_readFactor 90 = .ok (.iconst 1, 1) := by decide +kernel
theorem prd_R_readFactor_91 : decode prb_R_readFactor 91 = .ok (.iadd, 1) := by decide +kernel
theorem prd_R_readFactor_92 : decode prb_R_readFactor 92 = .ok (.putfield 19, 3) := by decide +kernel
theorem prd_R_readFactor_95 : decode prb_R_readFactor 95 = .ok (.aload_n 0, 1) := by decide +kernel
theorem prd_R_readFactor_96 : decode prb_R_readFactor 96 = .ok (.bipush 12, 2) := by decide +kernel
theorem prd_R_readFactor_98 : decode prb_R_readFactor 98 = .ok (.invokevirtual 56, 3) := by decide +kernel
theorem prd_R_readFactor_101 : decode prb_R_readFactor 101 = .ok (.ifCond .eq 35, 3) := by decide +kernel
theorem prd_R_readFactor_136 : decode prb_R_readFactor 136 = .ok (.iconst 1, 1) := by decide +kernel
theorem prd_R_readFactor_137 : decode prb_R_readFactor 137 = .ok (.goto 4, 3) := by decide +kernel
theorem prd_R_readFactor_141 : decode prb_R_readFactor 141 = .ok (.ireturn, 1) := by decide +kernel
theorem prd_R_readFactor_104 : decode prb_R_readFactor 104 = .ok (.aload_n 0, 1) := by decide +kernel
theorem prd_R_readFactor_105 : decode prb_R_readFactor 105 = .ok (.invokevirtual 133, 3) := by decide +kernel
theorem prd_R_readFactor_108 : decode prb_R_readFactor 108 = .ok (.ifCond .eq 32, 3) := by decide +kernel
theorem prd_R_readFactor_140 : decode prb_R_readFactor 140 = .ok (.iconst 0, 1) := by decide +kernel
theorem prd_R_readFactor_111 : decode prb_R_readFactor 111 = .ok (.aload_n 0, 1) := by decide +kernel
theorem prd_R_readFactor_112 : decode prb_R_readFactor 112 = .ok (.bipush 18, 2) := by decide +kernel
theorem prd_R_readFactor_114 : decode prb_R_readFactor 114 = .ok (.invokevirtual 56, 3) := by decide +kernel
theorem prd_R_readFactor_117 : decode prb_R_readFactor 117 = .ok (.ifCond .eq 23, 3) := by decide +kernel
theorem prd_R_readFactor_120 : decode prb_R_readFactor 120 = .ok (.aload_n 0, 1) := by decide +kernel
theorem prd_R_readFactor_121 : decode prb_R_readFactor 121 = .ok (.invokevirtual 133, 3) := by decide +kernel
theorem prd_R_readFactor_124 : decode prb_R_readFactor 124 = .ok (.ifCond .eq 16, 3) := by decide +kernel
theorem prd_R_readFactor_127 : decode prb_R_readFactor 127 = .ok (.aload_n 0, 1) := by decide +kernel
theorem prd_R_readFactor_128 : decode prb_R_readFactor 128 = .ok (.bipush 13, 2) := by decide +kernel
theorem prd_R_readFactor_130 : decode prb_R_readFactor 130 = .ok (.invokevirtual 56, 3) := by decide +kernel
theorem prd_R_readFactor_133 : decode prb_R_readFactor 133 = .ok (.ifCond .eq 7, 3) := by decide +kernel
theorem prd_R_readFactor_142 : decode prb_R_readFactor 142 = .ok (.aload_n 0, 1) := by decide +kernel
theorem prd_R_readFactor_143 : decode prb_R_readFactor 143 = .ok (.dup, 1) := by decide +kernel
theorem prd_R_readFactor_144 : decode prb_R_readFactor 144 = .ok (.getfield 19, 3) := by decide +kernel
theorem prd_R_readFactor_147 : decode prb_R_readFactor 147 = .ok (.iconst 1, 1) := by decide +kernel
theorem prd_R_readFactor_148 : decode prb_R_readFactor 148 = .ok (.iadd, 1) := by decide +kernel
theorem prd_R_readFactor_149 : decode prb_R_readFactor 149 = .ok (.putfield 19, 3) := by decide +kernel
theorem prd_R_readFactor_152 : decode prb_R_readFactor 152 = .ok (.aload_n 0, 1) := by decide +kernel
theorem prd_R_readFactor_153 : decode prb_R_readFactor 153 = .ok (.iload_n 1, 1) := by decide +kernel
theorem prd_R_readFactor_154 : decode prb_R_readFactor 154 = .ok (.iconst 1, 1) := by decide +kernel
theorem prd_R_readFactor_155 : decode prb_R_readFactor 155 = .ok (.iadd, 1) := by decide +kernel
theorem prd_R_readFactor_156 : decode prb_R_readFactor 156 = .ok (.invokevirtual 79, 3) := by decide +kernel
theorem prd_R_readFactor_159 : decode prb_R_readFactor 159 = .ok (.ifCond .eq 16, 3) := by decide +kernel
theorem prd_R_readFactor_175 : decode prb_R_readFactor 175 = .ok (.iconst 0, 1) := by decide +kernel
theorem prd_R_readFactor_176 : decode prb_R_readFactor 176 = .ok (.ireturn, 1) := by decide +kernel
theorem prd_R_readFactor_162 : decode prb_R_readFactor 162 = .ok (.aload_n 0, 1) := by decide +kernel
theorem prd_R_readFactor_163 : decode prb_R_readFactor 163 = .ok (.bipush 13, 2) := by decide +kernel
theorem prd_R_readFactor_165 : decode prb_R_readFactor 165 = .ok (.invokevirtual 56, 3) := by decide +kernel
theorem prd_R_readFactor_168 : decode prb_R_readFactor 168 = .ok (.ifCond .eq 7, 3) := by decide +kernel
theorem prd_R_readFactor_171 : decode prb_R_readFactor 171 = .ok (.iconst 1, 1) := by decide +kernel
theorem prd_R_readFactor_172 : decode prb_R_readFactor 172 = .ok (.goto 4, 3) := by decide +kernel
theorem prd_R_readFactor_177 : decode prb_R_readFactor 177 = .ok (.aload_n 0, 1) := by decide +kernel
theorem prd_R_readFactor_178 : decode prb_R_readFactor 178 = .ok (.dup, 1) := by decide +kernel
theorem prd_R_readFactor_179 : decode prb_R_readFactor 179 = .ok (.getfield 19, 3) := by decide +kernel
theorem prd_R_readFactor_182 : decode prb_R_readFactor 182 = .ok (.iconst 1, 1) := by decide +kernel
theorem prd_R_readFactor_183 : decode prb_R_readFactor 183 = .ok (.iadd, 1) := by decide +kernel
theorem prd_R_readFactor_184 : decode prb_R_readFactor 184 = .ok (.putfield 19, 3) := by decide +kernel
theorem prd_R_readFactor_187 : decode prb_R_readFactor 187 = .ok (.iload_n 1, 1) := by decide +kernel
theorem prd_R_readFactor_188 : decode prb_R_readFactor 188 = .ok (.bipush 60, 2) := by decide +kernel
theorem prd_R_readFactor_190 : decode prb_R_readFactor 190 = .ok (.if_icmp .ge 13, 3) := by decide +kernel
theorem prd_R_readFactor_203 : decode prb_R_readFactor 203 = .ok (.iconst 0, 1) := by decide +kernel
theorem prd_R_readFactor_204 : decode prb_R_readFactor 204 = .ok (.ireturn, 1) := by decide +kernel
theorem prd_R_readFactor_193 : decode prb_R_readFactor 193 = .ok (.aload_n 0, 1) := by decide +kernel
theorem prd_R_readFactor_194 : decode prb_R_readFactor 194 = .ok (.iload_n 1, 1) := by decide +kernel
theorem prd_R_readFactor_195 : decode prb_R_readFactor 195 = .ok (.iconst 1, 1) := by decide +kernel
theorem prd_R_readFactor_196 : decode prb_R_readFactor 196 = .ok (.iadd, 1) := by decide +kernel
theorem prd_R_readFactor_197 : decode prb_R_readFactor 197 = .ok (.invokevirtual 130, 3) := by decide +kernel
theorem prd_R_readFactor_200 : decode prb_R_readFactor 200 = .ok (.ifCond .ne 5, 3) := by decide +kernel
theorem prd_R_readFactor_205 : decode prb_R_readFactor 205 = .ok (.aload_n 0, 1) := by decide +kernel
theorem prd_R_readFactor_206 : decode prb_R_readFactor 206 = .ok (.getfield 15, 3) := by decide +kernel
theorem prd_R_readFactor_209 : decode prb_R_readFactor 209 = .ok (.bipush 35, 2) := by decide +kernel
theorem prd_R_readFactor_211 : decode prb_R_readFactor 211 = .ok (.iconst (-1), 1) := by decide +kernel
theorem prd_R_readFactor_212 : decode prb_R_readFactor 212 = .ok (.invokevirtual 108, 3) := by decide +kernel
theorem prd_R_readFactor_215 : decode prb_R_readFactor 215 = .ok (.iconst 1, 1) := by decide +kernel
theorem prd_R_readFactor_216 : decode prb_R_readFactor 216 = .ok (.ireturn, 1) := by decide +kernel
theorem prd_R_readFactor_290 : decode prb_R_readFactor 290 = .ok (.iconst 0, 1) := by decide +kernel
theorem prd_R_readFactor_291 : decode prb_R_readFactor 291 = .ok (.ireturn, 1) := by decide +kernel
theorem prd_R_readVar_0 : decode prb_R_readVar 0 = .ok (.aload_n 0, 1) := by decide +kernel
theorem prd_R_readVar_1 : decode prb_R_readVar 1 = .ok (.iconst 5, 1) := by decide +kernel
theorem prd_R_readVar_2 : decode prb_R_readVar 2 = .ok (.invokevirtual 56, 3) := by decide +kernel
theorem prd_R_readVar_5 : decode prb_R_readVar 5 = .ok (.ifCond .eq 11, 3) := by decide +kernel
theorem prd_R_readVar_16 : decode prb_R_readVar 16 = .ok (.iconst 0, 1) := by decide +kernel
theorem prd_R_readVar_17 : decode prb_R_readVar 17 = .ok (.ireturn, 1) := by decide +kernel
theorem prd_R_readVar_8 : decode prb_R_readVar 8 = .ok (.aload_n 0, 1) := by decide +kernel
theorem prd_R_readVar_9 : decode prb_R_readVar 9 = .ok (.iconst 2, 1) := by decide +kernel
theorem prd_R_readVar_10 : decode prb_R_readVar 10 = .ok (.invokevirtual 56, 3) := by decide +kernel
theorem prd_R_readVar_13 : decode prb_R_readVar 13 = .ok (.ifCond .ne 5, 3) := by decide +kernel
theorem prd_R_readVar_18 : decode prb_R_readVar 18 = .ok (.aload_n 0, 1) := by decide +kernel
theorem prd_R_readVar_19 : decode prb_R_readVar 19 = .ok (.bipush 16, 2) := by decide +kernel
theorem prd_R_readVar_21 : decode prb_R_readVar 21 = .ok (.invokevirtual 56, 3) := by decide +kernel
theorem prd_R_readVar_24 : decode prb_R_readVar 24 = .ok (.ifCond .eq 26, 3) := by decide +kernel
theorem prd_R_readVar_50 : decode prb_R_readVar 50 = .ok (.aload_n 0, 1) := by decide +kernel
theorem prd_R_readVar_51 : decode prb_R_readVar 51 = .ok (.bipush 20, 2) := by decide +kernel
theorem prd_R_readVar_53 : decode prb_R_readVar 53 = .ok (.invokevirtual 56, 3) := by decide +kernel
theorem prd_R_readVar_56 : decode prb_R_readVar 56 = .ok (.ifCond .eq 13, 3) := by decide +kernel
theorem prd_R_readVar_69 : decode prb_R_readVar 69 = .ok (.iconst 1, 1) := by decide +kernel
theorem prd_R_readVar_70 : decode prb_R_readVar 70 = .ok (.goto 4, 3) := by decide +kernel
theorem prd_R_readVar_74 : decode prb_R_readVar 74 = .ok (.ireturn, 1) := by decide +kernel
theorem prd_R_readVar_59 : decode prb_R_readVar 59 = .ok (.aload_n 0, 1) := by decide +kernel
theorem prd_R_readVar_60 : decode prb_R_readVar 60 = .ok (.iload_n 1, 1) := by decide +kernel
theorem prd_R_readVar_61 : decode prb_R_readVar 61 = .ok (.iconst 1, 1) := by decide +kernel
theorem prd_R_readVar_62 : decode prb_R_readVar 62 = .ok (.iadd, 1) := by decide +kernel
theorem prd_R_readVar_63 : decode prb_R_readVar 63 = .ok (.invokevirtual 79, 3) := by decide +kernel
theorem prd_R_readVar_66 : decode prb_R_readVar 66 = .ok (.ifCond .eq 7, 3) := by decide +kernel
theorem prd_R_readVar_73 : decode prb_R_readVar 73 = .ok (.iconst 0, 1) := by decide +kernel
theorem prd_R_readVar_27 : decode prb_R_readVar 27 = .ok (.aload_n 0, 1) := by decide +kernel
theorem prd_R_readVar_28 : decode prb_R_readVar 28 = .ok (.iconst 3, 1) := by decide +kernel
theorem prd_R_readVar_29 : decode prb_R_readVar 29 = .ok (.invokevirtual 56, 3) := by decide +kernel
theorem prd_R_readVar_32 : decode prb_R_readVar 32 = .ok (.ifCond .eq 16, 3) := by decide +kernel
theorem prd_R_readVar_48 : decode prb_R_readVar 48 = .ok (.iconst 0, 1) := by decide +kernel
theorem prd_R_readVar_49 : decode prb_R_readVar 49 = .ok (.ireturn, 1) := by decide +kernel
theorem prd_R_readVar_35 : decode prb_R_readVar 35 = .ok (.aload_n 0, 1) := by decide +kernel
theorem prd_R_readVar_36 : decode prb_R_readVar 36 = .ok (.bipush 17, 2) := by decide +kernel
theorem prd_R_readVar_38 : decode prb_R_readVar 38 = .ok (.invokevirtual 56, 3) := by decide +kernel
theorem prd_R_readVar_41 : decode prb_R_readVar 41 = .ok (.ifCond .eq 7, 3) := by decide +kernel
theorem prd_R_readVar_44 : decode prb_R_readVar 44 = .ok (.iconst 1, 1) := by decide +kernel
theorem prd_R_readVar_45 : decode prb_R_readVar 45 = .ok (.goto 4, 3) := by decide +kernel
theorem prd_R_readSetPlace_0 : decode prb_R_readSetPlace 0 = .ok (.aload_n 0, 1) := by decide +kernel
theorem prd_R_readSetPlace_1 : decode prb_R_readSetPlace 1 = .ok (.getfield 15, 3) := by decide +kernel
theorem prd_R_readSetPlace_4 : decode prb_R_readSetPlace 4 = .ok (.bipush 36, 2) := by decide +kernel
theorem prd_R_readSetPlace_6 : decode prb_R_readSetPlace 6 = .ok (.aload_n 0, 1) := by decide +kernel
theorem prd_R_readSetPlace_7 : decode prb_R_readSetPlace 7 = .ok (.getfield 19, 3) := by decide +kernel
theorem prd_R_readSetPlace_10 : decode prb_R_readSetPlace 10 = .ok (.invokevirtual 108, 3) := by decide +kernel
theorem prd_R_readSetPlace_13 : decode prb_R_readSetPlace 13 = .ok (.aload_n 0, 1) := by decide +kernel
theorem prd_R_readSetPlace_14 : decode prb_R_readSetPlace 14 = .ok (.iconst 2, 1) := by decide +kernel
theorem prd_R_readSetPlace_15 : decode prb_R_readSetPlace 15 = .ok (.invokevirtual 56, 3) := by decide +kernel
theorem prd_R_readSetPlace_18 : decode prb_R_readSetPlace 18 = .ok (.ifCond .eq 31, 3) := by decide +kernel
theorem prd_R_readSetPlace_49 : decode prb_R_readSetPlace 49 = .ok (.iconst 0, 1) := by decide +kernel
theorem prd_R_readSetPlace_50 : decode prb_R_readSetPlace 50 = .ok (.ireturn, 1) := by decide +kernel
theorem prd_R_readSetPlace_21 : decode prb_R_readSetPlace 21 = .ok (.aload_n 0, 1) := by decide +kernel
theorem prd_R_readSetPlace_22 : decode prb_R_readSetPlace 22 = .ok (.bipush 16, 2) := by decide +kernel
theorem prd_R_readSetPlace_24 : decode prb_R_readSetPlace 24 = .ok (.invokevirtual 56, 3) := by decide +kernel
theorem prd_R_readSetPlace_27 : decode prb_R_readSetPlace 27 = .ok (.ifCond .eq 22, 3) := by decide +kernel
theorem prd_R_readSetPlace_30 : decode prb_R_readSetPlace 30 = .ok (.aload_n 0, 1) := by decide +kernel
theorem prd_R_readSetPlace_31 : decode prb_R_readSetPlace 31 = .ok (.iload_n 1, 1) := by decide +kernel
theorem prd_R_readSetPlace_32 : decode prb_R_readSetPlace 32 = .ok (.iconst 1, 1) := by decide +kernel
theorem prd_R_readSetPlace_33 : decode prb_R_readSetPlace 33 = .ok (.iadd, 1) := by decide +kernel
theorem prd_R_readSetPlace_34 : decode prb_R_readSetPlace 34 = .ok (.invokevirtual 79, 3) := by decide +kernel
theorem prd_R_readSetPlace_37 : decode prb_R_readSetPlace 37 = .ok (.ifCond .eq 12, 3) := by decide +kernel
theorem prd_R_readSetPlace_40 : decode prb_R_readSetPlace 40 = .ok (.aload_n 0, 1) := by decide +kernel
theorem prd_R_readSetPlace_41 : decode prb_R_readSetPlace 41 = .ok (.bipush 17, 2) := by decide +kernel
theorem prd_R_readSetPlace_43 : decode prb_R_readSetPlace 43 = .ok (.invokevirtual 56, 3) := by decide +kernel
theorem prd_R_readSetPlace_46 : decode prb_R_readSetPlace 46 = .ok (.ifCond .ne 5, 3) := by decide +kernel
theorem prd_R_readSetPlace_51 : decode prb_R_readSetPlace 51 = .ok (.aload_n 0, 1) := by decide +kernel
theorem prd_R_readSetPlace_52 : decode prb_R_readSetPlace 52 = .ok (.getfield 15, 3) := by decide +kernel
theorem prd_R_readSetPlace_55 : decode prb_R_readSetPlace 55 = .ok (.bipush 37, 2) := by decide +kernel
theorem prd_R_readSetPlace_57 : decode prb_R_readSetPlace 57 = .ok (.iconst (-1), 1) := by decide +kernel
theorem prd_R_readSetPlace_58 : decode prb_R_readSetPlace 58 = .ok (.invokevirtual 108, 3) := by decide +kernel
theorem prd_R_readSetPlace_61 : decode prb_R_readSetPlace 61 = .ok (.aload_n 0, 1) := by decide +kernel
theorem prd_R_readSetPlace_62 : decode prb_R_readSetPlace 62 = .ok (.bipush 20, 2) := by decide +kernel
theorem prd_R_readSetPlace_64 : decode prb_R_readSetPlace 64 = .ok (.invokevirtual 56, 3) := by decide +kernel
theorem prd_R_readSetPlace_67 : decode prb_R_readSetPlace 67 = .ok (.ifCond .eq 17, 3) := by decide +kernel
theorem prd_R_readSetPlace_84 : decode prb_R_readSetPlace 84 = .ok (.iconst 0, 1) := by decide +kernel
theorem prd_R_readSetPlace_85 : decode prb_R_readSetPlace 85 = .ok (.ireturn, 1) := by decide +kernel
theorem prd_R_readSetPlace_70 : decode prb_R_readSetPlace 70 = .ok (.aload_n 0, 1) := by decide +kernel
theorem prd_R_readSetPlace_71 : decode prb_R_readSetPlace 71 = .ok (.iload_n 1, 1) := by decide +kernel
theorem prd_R_readSetPlace_72 : decode prb_R_readSetPlace 72 = .ok (.iconst 1, 1) := by decide +kernel
theorem prd_R_readSetPlace_73 : decode prb_R_readSetPlace 73 = .ok (.iadd, 1) := by decide +kernel
theorem prd_R_readSetPlace_74 : decode prb_R_readSetPlace 74 = .ok (.invokevirtual 79, 3) := by decide +kernel
theorem prd_R_readSetPlace_77 : decode prb_R_readSetPlace 77 = .ok (.ifCond .eq 7, 3) := by decide +kernel
theorem prd_R_readSetPlace_80 : decode prb_R_readSetPlace 80 = .ok (.iconst 1, 1) := by decide +kernel
theorem prd_R_readSetPlace_81 : decode prb_R_readSetPlace 81 = .ok (.goto 4, 3) := by decide +kernel
theorem prd_R_readCall_0 : decode prb_R_readCall 0 = .ok (.aload_n 0, 1) := by decide +kernel
theorem prd_R_readCall_1 : decode prb_R_readCall 1 = .ok (.dup, 1) := by decide +kernel
theorem prd_R_readCall_2 : decode prb_R_readCall 2 = .ok (.getfield 19, 3) := by decide +kernel
theorem prd_R_readCall_5 : decode prb_R_readCall 5 = .ok (.aload_n 0, 1) := by decide +kernel
theorem prd_R_readCall_6 : decode prb_R_readCall 6 = .ok (.getfield 9, 3) := by decide +kernel
theorem prd_R_readCall_9 : decode prb_R_readCall 9 = .ok (.aload_n 0, 1) := by decide +kernel
theorem prd_R_readCall_10 : decode prb_R_readCall 10 = .ok (.getfield 19, 3) := by decide +kernel
theorem prd_R_readCall_13 : decode prb_R_readCall 13 = .ok (.iconst 1, 1) := by decide +kernel
theorem prd_R_readCall_14 : decode prb_R_readCall 14 = .ok (.iadd, 1) := by decide +kernel
theorem prd_R_readCall_15 : decode prb_R_readCall 15 = .ok (.invokevirtual 53, 3) := by decide +kernel
theorem prd_R_readCall_18 : decode prb_R_readCall 18 = .ok (.bipush 20, 2) := by decide +kernel
theorem prd_R_readCall_20 : decode prb_R_readCall 20 = .ok (.if_icmp .ne 7, 3) := by decide +kernel
theorem prd_R_readCall_27 : decode prb_R_readCall 27 = .ok (.iconst 2, 1) := by decide +kernel
theorem prd_R_readCall_28 : decode prb_R_readCall 28 = .ok (.iadd, 1) := by decide +kernel
theorem prd_R_readCall_29 : decode prb_R_readCall 29 = .ok (.putfield 19, 3) := by decide +kernel
theorem prd_R_readCall_32 : decode prb_R_readCall 32 = .ok (.iconst 0, 1) := by decide +kernel
theorem prd_R_readCall_33 : decode prb_R_readCall 33 = .ok (.istore_n 3, 1) := by decide +kernel
theorem prd_R_readCall_34 : decode prb_R_readCall 34 = .ok (.aload_n 0, 1) := by decide +kernel
theorem prd_R_readCall_35 : decode prb_R_readCall 35 = .ok (.invokevirtual 49, 3) := by decide +kernel
theorem prd_R_readCall_38 : decode prb_R_readCall 38 = .ok (.bipush 13, 2) := by decide +kernel
theorem prd_R_readCall_40 : decode prb_R_readCall 40 = .ok (.if_icmp .eq 58, 3) := by decide +kernel
theorem prd_R_readCall_98 : decode prb_R_readCall 98 = .ok (.aload_n 0, 1) := by decide +kernel
theorem prd_R_readCall_99 : decode prb_R_readCall 99 = .ok (.getfield 15, 3) := by decide +kernel
theorem prd_R_readCall_102 : decode prb_R_readCall 102 = .ok (.iload_n 1, 1) := by decide +kernel
theorem prd_R_readCall_103 : decode prb_R_readCall 103 = .ok (.iload_n 3, 1) := by decide +kernel
theorem prd_R_readCall_104 : decode prb_R_readCall 104 = .ok (.invokevirtual 112, 3) := by decide +kernel
theorem prd_R_readCall_107 : decode prb_R_readCall 107 = .ok (.aload_n 0, 1) := by decide +kernel
theorem prd_R_readCall_108 : decode prb_R_readCall 108 = .ok (.bipush 13, 2) := by decide +kernel
theorem prd_R_readCall_110 : decode prb_R_readCall 110 = .ok (.invokevirtual 56, 3) := by decide +kernel
theorem prd_R_readCall_113 : decode prb_R_readCall 113 = .ok (.ireturn, 1) := by decide +kernel
theorem prd_R_readCall_43 : decode prb_R_readCall 43 = .ok (.aload_n 0, 1) := by decide +kernel
theorem prd_R_readCall_44 : decode prb_R_readCall 44 = .ok (.iload_n 2, 1) := by decide +kernel
theorem prd_R_readCall_45 : decode prb_R_readCall 45 = .ok (.iconst 1, 1) := by decide +kernel
theorem prd_R_readCall_46 : decode prb_R_readCall 46 = .ok (.iadd, 1) := by decide +kernel
theorem prd_R_readCall_47 : decode prb_R_readCall 47 = .ok (.invokevirtual 79, 3) := by decide +kernel
theorem prd_R_readCall_50 : decode prb_R_readCall 50 = .ok (.ifCond .ne 5, 3) := by decide +kernel
theorem prd_R_readCall_55 : decode prb_R_readCall 55 = .ok (.iconst 1, 1) := by decide +kernel
theorem prd_R_readCall_56 : decode prb_R_readCall 56 = .ok (.istore_n 3, 1) := by decide +kernel
theorem prd_R_readCall_57 : decode prb_R_readCall 57 = .ok (.iconst 0, 1) := by decide +kernel
theorem prd_R_readCall_58 : decode prb_R_readCall 58 = .ok (.istore 4, 2) := by decide +kernel
theorem prd_R_readCall_53 : decode prb_R_readCall 53 = .ok (.iconst 0, 1) := by decide +kernel
theorem prd_R_readCall_54 : decode prb_R_readCall 54 = .ok (.ireturn, 1) := by decide +kernel
theorem prd_R_readCall_23 : decode prb_R_readCall 23 = .ok (.iconst 4, 1) := by decide +kernel
theorem prd_R_readCall_24 : decode prb_R_readCall 24 = .ok (.goto 4, 3) := by decide +kernel
theorem prd_R_readCall_60 : decode prb_R_readCall 60 = .ok (.iload 4, 2) := by decide +kernel
theorem prd_R_readCall_62 : decode prb_R_readCall 62 = .ok (.sipush 8000, 3) := by decide +kernel
theorem prd_R_readCall_65 : decode prb_R_readCall 65 = .ok (.if_icmp .ge 33, 3) := by decide +kernel
theorem prd_R_readCall_68 : decode prb_R_readCall 68 = .ok (.aload_n 0, 1) := by decide +kernel
theorem prd_R_readCall_69 : decode prb_R_readCall 69 = .ok (.bipush 18, 2) := by decide +kernel
theorem prd_R_readCall_71 : decode prb_R_readCall 71 = .ok (.invokevirtual 56, 3) := by decide +kernel
theorem prd_R_readCall_74 : decode prb_R_readCall 74 = .ok (.ifCond .eq 24, 3) := by decide +kernel
theorem prd_R_readCall_77 : decode prb_R_readCall 77 = .ok (.aload_n 0, 1) := by decide +kernel
theorem prd_R_readCall_78 : decode prb_R_readCall 78 = .ok (.iload_n 2, 1) := by decide +kernel
theorem prd_R_readCall_79 : decode prb_R_readCall 79 = .ok (.iconst 1, 1) := by decide +kernel
theorem prd_R_readCall_80 : decode prb_R_readCall 80 = .ok (.iadd, 1) := by decide +kernel
theorem prd_R_readCall_81 : decode prb_R_readCall 81 = .ok (.invokevirtual 79, 3) := by decide +kernel
theorem prd_R_readCall_84 : decode prb_R_readCall 84 = .ok (.ifCond .ne 5, 3) := by decide +kernel
theorem prd_R_readCall_89 : decode prb_R_readCall 89 = .ok (.iinc 3 1, 3) := by decide +kernel
theorem prd_R_readCall_92 : decode prb_R_readCall 92 = .ok (.iinc 4 1, 3) := by decide +kernel
theorem prd_R_readCall_95 : decode prb_R_readCall 95 = .ok (.goto (-35), 3) := by decide +kernel
theorem prd_R_readCall_87 : decode prb_R_readCall 87 = .ok (.iconst 0, 1) := by decide +kernel
theorem prd_R_readCall_88 : decode prb_R_readCall 88 = .ok (.ireturn, 1) := by decide +kernel
theorem prd_R_readBoth_0 : decode prb_R_readBoth 0 = .ok (.aload_n 0, 1) := by decide +kernel
theorem prd_R_readBoth_1 : decode prb_R_readBoth 1 = .ok (.iload_n 1, 1) := by decide +kernel
theorem prd_R_readBoth_2 : decode prb_R_readBoth 2 = .ok (.invokevirtual 124, 3) := by decide +kernel
theorem prd_R_readBoth_5 : decode prb_R_readBoth 5 = .ok (.ifCond .ne 5, 3) := by decide +kernel
theorem prd_R_readBoth_10 : decode prb_R_readBoth 10 = .ok (.iconst 0, 1) := by decide +kernel
theorem prd_R_readBoth_11 : decode prb_R_readBoth 11 = .ok (.istore_n 2, 1) := by decide +kernel
theorem prd_R_readBoth_8 : decode prb_R_readBoth 8 = .ok (.iconst 0, 1) := by decide +kernel
theorem prd_R_readBoth_9 : decode prb_R_readBoth 9 = .ok (.ireturn, 1) := by decide +kernel
theorem prd_R_readBoth_12 : decode prb_R_readBoth 12 = .ok (.iload_n 2, 1) := by decide +kernel
theorem prd_R_readBoth_13 : decode prb_R_readBoth 13 = .ok (.sipush 8000, 3) := by decide +kernel
theorem prd_R_readBoth_16 : decode prb_R_readBoth 16 = .ok (.if_icmp .ge 54, 3) := by decide +kernel
theorem prd_R_readBoth_70 : decode prb_R_readBoth 70 = .ok (.iconst 1, 1) := by decide +kernel
theorem prd_R_readBoth_71 : decode prb_R_readBoth 71 = .ok (.ireturn, 1) := by decide +kernel
theorem prd_R_readBoth_19 : decode prb_R_readBoth 19 = .ok (.aload_n 0, 1) := by decide +kernel
theorem prd_R_readBoth_20 : decode prb_R_readBoth 20 = .ok (.bipush 32, 2) := by decide +kernel
theorem prd_R_readBoth_22 : decode prb_R_readBoth 22 = .ok (.invokevirtual 56, 3) := by decide +kernel
theorem prd_R_readBoth_25 : decode prb_R_readBoth 25 = .ok (.ifCond .eq 45, 3) := by decide +kernel
theorem prd_R_readBoth_28 : decode prb_R_readBoth 28 = .ok (.aload_n 0, 1) := by decide +kernel
theorem prd_R_readBoth_29 : decode prb_R_readBoth 29 = .ok (.getfield 15, 3) := by decide +kernel
theorem prd_R_readBoth_32 : decode prb_R_readBoth 32 = .ok (.invokevirtual 118, 3) := by decide +kernel
theorem prd_R_readBoth_35 : decode prb_R_readBoth 35 = .ok (.istore_n 3, 1) := by decide +kernel
theorem prd_R_readBoth_36 : decode prb_R_readBoth 36 = .ok (.aload_n 0, 1) := by decide +kernel
theorem prd_R_readBoth_37 : decode prb_R_readBoth 37 = .ok (.getfield 15, 3) := by decide +kernel
theorem prd_R_readBoth_40 : decode prb_R_readBoth 40 = .ok (.bipush 32, 2) := by decide +kernel
theorem prd_R_readBoth_42 : decode prb_R_readBoth 42 = .ok (.iconst (-1), 1) := by decide +kernel
theorem prd_R_readBoth_43 : decode prb_R_readBoth 43 = .ok (.invokevirtual 108, 3) := by decide +kernel
theorem prd_R_readBoth_46 : decode prb_R_readBoth 46 = .ok (.aload_n 0, 1) := by decide +kernel
theorem prd_R_readBoth_47 : decode prb_R_readBoth 47 = .ok (.iload_n 1, 1) := by decide +kernel
theorem prd_R_readBoth_48 : decode prb_R_readBoth 48 = .ok (.invokevirtual 124, 3) := by decide +kernel
theorem prd_R_readBoth_51 : decode prb_R_readBoth 51 = .ok (.ifCond .ne 5, 3) := by decide +kernel
theorem prd_R_readBoth_56 : decode prb_R_readBoth 56 = .ok (.aload_n 0, 1) := by decide +kernel
theorem prd_R_readBoth_57 : decode prb_R_readBoth 57 = .ok (.getfield 15, 3) := by decide +kernel
theorem prd_R_readBoth_60 : decode prb_R_readBoth 60 = .ok (.iload_n 3, 1) := by decide +kernel
theorem prd_R_readBoth_61 : decode prb_R_readBoth 61 = .ok (.invokevirtual 121, 3) := by decide +kernel
theorem prd_R_readBoth_64 : decode prb_R_readBoth 64 = .ok (.iinc 2 1, 3) := by decide +kernel
theorem prd_R_readBoth_67 : decode prb_R_readBoth 67 = .ok (.goto (-55), 3) := by decide +kernel
theorem prd_R_readBoth_54 : decode prb_R_readBoth 54 = .ok (.iconst 0, 1) := by decide +kernel
theorem prd_R_readBoth_55 : decode prb_R_readBoth 55 = .ok (.ireturn, 1) := by decide +kernel
theorem prd_R_readCond_0 : decode prb_R_readCond 0 = .ok (.iload_n 1, 1) := by decide +kernel
theorem prd_R_readCond_1 : decode prb_R_readCond 1 = .ok (.bipush 60, 2) := by decide +kernel
theorem prd_R_readCond_3 : decode prb_R_readCond 3 = .ok (.if_icmp .gt 11, 3) := by decide +kernel
theorem prd_R_readCond_14 : decode prb_R_readCond 14 = .ok (.iconst 0, 1) := by decide +kernel
theorem prd_R_readCond_15 : decode prb_R_readCond 15 = .ok (.ireturn, 1) := by decide +kernel
theorem prd_R_readCond_6 : decode prb_R_readCond 6 = .ok (.aload_n 0, 1) := by decide +kernel
theorem prd_R_readCond_7 : decode prb_R_readCond 7 = .ok (.iload_n 1, 1) := by decide +kernel
theorem prd_R_readCond_8 : decode prb_R_readCond 8 = .ok (.invokevirtual 115, 3) := by decide +kernel
theorem prd_R_readCond_11 : decode prb_R_readCond 11 = .ok (.ifCond .ne 5, 3) := by decide +kernel
theorem prd_R_readCond_16 : decode prb_R_readCond 16 = .ok (.iconst 0, 1) := by decide +kernel
theorem prd_R_readCond_17 : decode prb_R_readCond 17 = .ok (.istore_n 2, 1) := by decide +kernel
theorem prd_R_readCond_18 : decode prb_R_readCond 18 = .ok (.iload_n 2, 1) := by decide +kernel
theorem prd_R_readCond_19 : decode prb_R_readCond 19 = .ok (.sipush 8000, 3) := by decide +kernel
theorem prd_R_readCond_22 : decode prb_R_readCond 22 = .ok (.if_icmp .ge 54, 3) := by decide +kernel
theorem prd_R_readCond_76 : decode prb_R_readCond 76 = .ok (.iconst 1, 1) := by decide +kernel
theorem prd_R_readCond_77 : decode prb_R_readCond 77 = .ok (.ireturn, 1) := by decide +kernel
theorem prd_R_readCond_25 : decode prb_R_readCond 25 = .ok (.aload_n 0, 1) := by decide +kernel
theorem prd_R_readCond_26 : decode prb_R_readCond 26 = .ok (.bipush 33, 2) := by decide +kernel
theorem prd_R_readCond_28 : decode prb_R_readCond 28 = .ok (.invokevirtual 56, 3) := by decide +kernel
theorem prd_R_readCond_31 : decode prb_R_readCond 31 = .ok (.ifCond .eq 45, 3) := by decide +kernel
theorem prd_R_readCond_34 : decode prb_R_readCond 34 = .ok (.aload_n 0, 1) := by decide +kernel
theorem prd_R_readCond_35 : decode prb_R_readCond 35 = .ok (.getfield 15, 3) := by decide +kernel
theorem prd_R_readCond_38 : decode prb_R_readCond 38 = .ok (.invokevirtual 118, 3) := by decide +kernel
theorem prd_R_readCond_41 : decode prb_R_readCond 41 = .ok (.istore_n 3, 1) := by decide +kernel
theorem prd_R_readCond_42 : decode prb_R_readCond 42 = .ok (.aload_n 0, 1) := by decide +kernel
theorem prd_R_readCond_43 : decode prb_R_readCond 43 = .ok (.getfield 15, 3) := by decide +kernel
theorem prd_R_readCond_46 : decode prb_R_readCond 46 = .ok (.bipush 33, 2) := by decide +kernel
theorem prd_R_readCond_48 : decode prb_R_readCond 48 = .ok (.iconst (-1), 1) := by decide +kernel
theorem prd_R_readCond_49 : decode prb_R_readCond 49 = .ok (.invokevirtual 108, 3) := by decide +kernel
theorem prd_R_readCond_52 : decode prb_R_readCond 52 = .ok (.aload_n 0, 1) := by decide +kernel
theorem prd_R_readCond_53 : decode prb_R_readCond 53 = .ok (.iload_n 1, 1) := by decide +kernel
theorem prd_R_readCond_54 : decode prb_R_readCond 54 = .ok (.invokevirtual 115, 3) := by decide +kernel
theorem prd_R_readCond_57 : decode prb_R_readCond 57 = .ok (.ifCond .ne 5, 3) := by decide +kernel
theorem prd_R_readCond_62 : decode prb_R_readCond 62 = .ok (.aload_n 0, 1) := by decide +kernel
theorem prd_R_readCond_63 : decode prb_R_readCond 63 = .ok (.getfield 15, 3) := by decide +kernel
theorem prd_R_readCond_66 : decode prb_R_readCond 66 = .ok (.iload_n 3, 1) := by decide +kernel
theorem prd_R_readCond_67 : decode prb_R_readCond 67 = .ok (.invokevirtual 121, 3) := by decide +kernel
theorem prd_R_readCond_70 : decode prb_R_readCond 70 = .ok (.iinc 2 1, 3) := by decide +kernel
theorem prd_R_readCond_73 : decode prb_R_readCond 73 = .ok (.goto (-55), 3) := by decide +kernel
theorem prd_R_readCond_60 : decode prb_R_readCond 60 = .ok (.iconst 0, 1) := by decide +kernel
theorem prd_R_readCond_61 : decode prb_R_readCond 61 = .ok (.ireturn, 1) := by decide +kernel
theorem prd_R_readTest_0 : decode prb_R_readTest 0 = .ok (.aload_n 0, 1) := by decide +kernel
theorem prd_R_readTest_1 : decode prb_R_readTest 1 = .ok (.bipush 34, 2) := by decide +kernel
theorem prd_R_readTest_3 : decode prb_R_readTest 3 = .ok (.invokevirtual 56, 3) := by decide +kernel
theorem prd_R_readTest_6 : decode prb_R_readTest 6 = .ok (.ifCond .eq 33, 3) := by decide +kernel
theorem prd_R_readTest_39 : decode prb_R_readTest 39 = .ok (.aload_n 0, 1) := by decide +kernel
theorem prd_R_readTest_40 : decode prb_R_readTest 40 = .ok (.bipush 16, 2) := by decide +kernel
theorem prd_R_readTest_42 : decode prb_R_readTest 42 = .ok (.invokevirtual 56, 3) := by decide +kernel
theorem prd_R_readTest_45 : decode prb_R_readTest 45 = .ok (.ifCond .eq 28, 3) := by decide +kernel
theorem prd_R_readTest_73 : decode prb_R_readTest 73 = .ok (.aload_n 0, 1) := by decide +kernel
theorem prd_R_readTest_74 : decode prb_R_readTest 74 = .ok (.iload_n 1, 1) := by decide +kernel
theorem prd_R_readTest_75 : decode prb_R_readTest 75 = .ok (.iconst 1, 1) := by decide +kernel
theorem prd_R_readTest_76 : decode prb_R_readTest 76 = .ok (.iadd, 1) := by decide +kernel
theorem prd_R_readTest_77 : decode prb_R_readTest 77 = .ok (.invokevirtual 79, 3) := by decide +kernel
theorem prd_R_readTest_80 : decode prb_R_readTest 80 = .ok (.ifCond .ne 5, 3) := by decide +kernel
theorem prd_R_readTest_85 : decode prb_R_readTest 85 = .ok (.aload_n 0, 1) := by decide +kernel
theorem prd_R_readTest_86 : decode prb_R_readTest 86 = .ok (.invokevirtual 49, 3) := by decide +kernel
theorem prd_R_readTest_89 : decode prb_R_readTest 89 = .ok (.istore_n 2, 1) := by decide +kernel
theorem prd_R_readTest_90 : decode prb_R_readTest 90 = .ok (.iload_n 2, 1) := by decide +kernel
theorem prd_R_readTest_91 : decode prb_R_readTest 91 = .ok (.bipush 26, 2) := by decide +kernel
theorem prd_R_readTest_93 : decode prb_R_readTest 93 = .ok (.if_icmp .lt 9, 3) := by decide +kernel
theorem prd_R_readTest_102 : decode prb_R_readTest 102 = .ok (.iconst 0, 1) := by decide +kernel
theorem prd_R_readTest_103 : decode prb_R_readTest 103 = .ok (.ireturn, 1) := by decide +kernel
theorem prd_R_readTest_96 : decode prb_R_readTest 96 = .ok (.iload_n 2, 1) := by decide +kernel
theorem prd_R_readTest_97 : decode prb_R_readTest 97 = .ok (.bipush 31, 2) := by decide +kernel
theorem prd_R_readTest_99 : decode prb_R_readTest 99 = .ok (.if_icmp .le 5, 3) := by decide +kernel
theorem prd_R_readTest_104 : decode prb_R_readTest 104 = .ok (.aload_n 0, 1) := by decide +kernel
theorem prd_R_readTest_105 : decode prb_R_readTest 105 = .ok (.dup, 1) := by decide +kernel
theorem prd_R_readTest_106 : decode prb_R_readTest 106 = .ok (.getfield 19, 3) := by decide +kernel
theorem prd_R_readTest_109 : decode prb_R_readTest 109 = .ok (.iconst 1, 1) := by decide +kernel
theorem prd_R_readTest_110 : decode prb_R_readTest 110 = .ok (.iadd, 1) := by decide +kernel
theorem prd_R_readTest_111 : decode prb_R_readTest 111 = .ok (.putfield 19, 3) := by decide +kernel
theorem prd_R_readTest_114 : decode prb_R_readTest 114 = .ok (.aload_n 0, 1) := by decide +kernel
theorem prd_R_readTest_115 : decode prb_R_readTest 115 = .ok (.iload_n 1, 1) := by decide +kernel
theorem prd_R_readTest_116 : decode prb_R_readTest 116 = .ok (.iconst 1, 1) := by decide +kernel
theorem prd_R_readTest_117 : decode prb_R_readTest 117 = .ok (.iadd, 1) := by decide +kernel
theorem prd_R_readTest_118 : decode prb_R_readTest 118 = .ok (.invokevirtual 79, 3) := by decide +kernel
theorem prd_R_readTest_121 : decode prb_R_readTest 121 = .ok (.ifCond .ne 5, 3) := by decide +kernel
theorem prd_R_readTest_126 : decode prb_R_readTest 126 = .ok (.aload_n 0, 1) := by decide +kernel
theorem prd_R_readTest_127 : decode prb_R_readTest 127 = .ok (.getfield 15, 3) := by decide +kernel
theorem prd_R_readTest_130 : decode prb_R_readTest 130 = .ok (.iload_n 2, 1) := by decide +kernel
theorem prd_R_readTest_131 : decode prb_R_readTest 131 = .ok (.iconst (-1), 1) := by decide +kernel
theorem prd_R_readTest_132 : decode prb_R_readTest 132 = .ok (.invokevirtual 108, 3) := by decide +kernel
theorem prd_R_readTest_135 : decode prb_R_readTest 135 = .ok (.iconst 1, 1) := by decide +kernel
theorem prd_R_readTest_136 : decode prb_R_readTest 136 = .ok (.ireturn, 1) := by decide +kernel
theorem prd_R_readTest_124 : decode prb_R_readTest 124 = .ok (.iconst 0, 1) := by decide +kernel
theorem prd_R_readTest_125 : decode prb_R_readTest 125 = .ok (.ireturn, 1) := by decide +kernel
theorem prd_R_readTest_83 : decode prb_R_readTest 83 = .ok (.iconst 0, 1) := by decide +kernel
theorem prd_R_readTest_84 : decode prb_R_readTest 84 = .ok (.ireturn, 1) := by decide +kernel
theorem prd_R_readTest_48 : decode prb_R_readTest 48 = .ok (.aload_n 0, 1) := by decide +kernel
theorem prd_R_readTest_49 : decode prb_R_readTest 49 = .ok (.iload_n 1, 1) := by decide +kernel
theorem prd_R_readTest_50 : decode prb_R_readTest 50 = .ok (.iconst 1, 1) := by decide +kernel
theorem prd_R_readTest_51 : decode prb_R_readTest 51 = .ok (.iadd, 1) := by decide +kernel
theorem prd_R_readTest_52 : decode prb_R_readTest 52 = .ok (.invokevirtual 88, 3) := by decide +kernel
theorem prd_R_readTest_55 : decode prb_R_readTest 55 = .ok (.ifCond .eq 16, 3) := by decide +kernel
theorem prd_R_readTest_71 : decode prb_R_readTest 71 = .ok (.iconst 0, 1) := by decide +kernel
theorem prd_R_readTest_72 : decode prb_R_readTest 72 = .ok (.ireturn, 1) := by decide +kernel
theorem prd_R_readTest_58 : decode prb_R_readTest 58 = .ok (.aload_n 0, 1) := by decide +kernel
theorem prd_R_readTest_59 : decode prb_R_readTest 59 = .ok (.bipush 17, 2) := by decide +kernel
theorem prd_R_readTest_61 : decode prb_R_readTest 61 = .ok (.invokevirtual 56, 3) := by decide +kernel
theorem prd_R_readTest_64 : decode prb_R_readTest 64 = .ok (.ifCond .eq 7, 3) := by decide +kernel
theorem prd_R_readTest_67 : decode prb_R_readTest 67 = .ok (.iconst 1, 1) := by decide +kernel
theorem prd_R_readTest_68 : decode prb_R_readTest 68 = .ok (.goto 4, 3) := by decide +kernel
theorem prd_R_readTest_9 : decode prb_R_readTest 9 = .ok (.iload_n 1, 1) := by decide +kernel
theorem prd_R_readTest_10 : decode prb_R_readTest 10 = .ok (.bipush 60, 2) := by decide +kernel
theorem prd_R_readTest_12 : decode prb_R_readTest 12 = .ok (.if_icmp .ge 13, 3) := by decide +kernel
theorem prd_R_readTest_25 : decode prb_R_readTest 25 = .ok (.iconst 0, 1) := by decide +kernel
theorem prd_R_readTest_26 : decode prb_R_readTest 26 = .ok (.ireturn, 1) := by decide +kernel
theorem prd_R_readTest_15 : decode prb_R_readTest 15 = .ok (.aload_n 0, 1) := by decide +kernel
theorem prd_R_readTest_16 : decode prb_R_readTest 16 = .ok (.iload_n 1, 1) := by decide +kernel
theorem prd_R_readTest_17 : decode prb_R_readTest 17 = .ok (.iconst 1, 1) := by decide +kernel
theorem prd_R_readTest_18 : decode prb_R_readTest 18 = .ok (.iadd, 1) := by decide +kernel
theorem prd_R_readTest_19 : decode prb_R_readTest 19 = .ok (.invokevirtual 124, 3) := by decide +kernel
theorem prd_R_readTest_22 : decode prb_R_readTest 22 = .ok (.ifCond .ne 5, 3) := by decide +kernel
theorem prd_R_readTest_27 : decode prb_R_readTest 27 = .ok (.aload_n 0, 1) := by decide +kernel
theorem prd_R_readTest_28 : decode prb_R_readTest 28 = .ok (.getfield 15, 3) := by decide +kernel
theorem prd_R_readTest_31 : decode prb_R_readTest 31 = .ok (.bipush 34, 2) := by decide +kernel
theorem prd_R_readTest_33 : decode prb_R_readTest 33 = .ok (.iconst (-1), 1) := by decide +kernel
theorem prd_R_readTest_34 : decode prb_R_readTest 34 = .ok (.invokevirtual 108, 3) := by decide +kernel
theorem prd_R_readTest_37 : decode prb_R_readTest 37 = .ok (.iconst 1, 1) := by decide +kernel
theorem prd_R_readTest_38 : decode prb_R_readTest 38 = .ok (.ireturn, 1) := by decide +kernel
theorem prd_R_readBlock_0 : decode prb_R_readBlock 0 = .ok (.iload_n 1, 1) := by decide +kernel
theorem prd_R_readBlock_1 : decode prb_R_readBlock 1 = .ok (.bipush 60, 2) := by decide +kernel
theorem prd_R_readBlock_3 : decode prb_R_readBlock 3 = .ok (.if_icmp .gt 12, 3) := by decide +kernel
theorem prd_R_readBlock_15 : decode prb_R_readBlock 15 = .ok (.iconst 0, 1) := by decide +kernel
theorem prd_R_readBlock_16 : decode prb_R_readBlock 16 = .ok (.ireturn, 1) := by decide +kernel
theorem prd_R_readBlock_6 : decode prb_R_readBlock 6 = .ok (.aload_n 0, 1) := by decide +kernel
theorem prd_R_readBlock_7 : decode prb_R_readBlock 7 = .ok (.bipush 14, 2) := by decide +kernel
theorem prd_R_readBlock_9 : decode prb_R_readBlock 9 = .ok (.invokevirtual 56, 3) := by decide +kernel
theorem prd_R_readBlock_12 : decode prb_R_readBlock 12 = .ok (.ifCond .ne 5, 3) := by decide +kernel
theorem prd_R_readBlock_17 : decode prb_R_readBlock 17 = .ok (.iconst 0, 1) := by decide +kernel
theorem prd_R_readBlock_18 : decode prb_R_readBlock 18 = .ok (.istore_n 2, 1) := by decide +kernel
theorem prd_R_readBlock_19 : decode prb_R_readBlock 19 = .ok (.iload_n 2, 1) := by decide +kernel
theorem prd_R_readBlock_20 : decode prb_R_readBlock 20 = .ok (.sipush 8000, 3) := by decide +kernel
theorem prd_R_readBlock_23 : decode prb_R_readBlock 23 = .ok (.if_icmp .ge 28, 3) := by decide +kernel
theorem prd_R_readBlock_51 : decode prb_R_readBlock 51 = .ok (.aload_n 0, 1) := by decide +kernel
theorem prd_R_readBlock_52 : decode prb_R_readBlock 52 = .ok (.bipush 15, 2) := by decide +kernel
theorem prd_R_readBlock_54 : decode prb_R_readBlock 54 = .ok (.invokevirtual 56, 3) := by decide +kernel
theorem prd_R_readBlock_57 : decode prb_R_readBlock 57 = .ok (.ireturn, 1) := by decide +kernel
theorem prd_R_readBlock_26 : decode prb_R_readBlock 26 = .ok (.aload_n 0, 1) := by decide +kernel
theorem prd_R_readBlock_27 : decode prb_R_readBlock 27 = .ok (.invokevirtual 49, 3) := by decide +kernel
theorem prd_R_readBlock_30 : decode prb_R_readBlock 30 = .ok (.bipush 15, 2) := by decide +kernel
theorem prd_R_readBlock_32 : decode prb_R_readBlock 32 = .ok (.if_icmp .eq 19, 3) := by decide +kernel
theorem prd_R_readBlock_35 : decode prb_R_readBlock 35 = .ok (.aload_n 0, 1) := by decide +kernel
theorem prd_R_readBlock_36 : decode prb_R_readBlock 36 = .ok (.iload_n 1, 1) := by decide +kernel
theorem prd_R_readBlock_37 : decode prb_R_readBlock 37 = .ok (.invokevirtual 66, 3) := by decide +kernel
theorem prd_R_readBlock_40 : decode prb_R_readBlock 40 = .ok (.ifCond .ne 5, 3) := by decide +kernel
theorem prd_R_readBlock_45 : decode prb_R_readBlock 45 = .ok (.iinc 2 1, 3) := by decide +kernel
theorem prd_R_readBlock_48 : decode prb_R_readBlock 48 = .ok (.goto (-29), 3) := by decide +kernel
theorem prd_R_readBlock_43 : decode prb_R_readBlock 43 = .ok (.iconst 0, 1) := by decide +kernel
theorem prd_R_readBlock_44 : decode prb_R_readBlock 44 = .ok (.ireturn, 1) := by decide +kernel
theorem prd_R_readBranch_0 : decode prb_R_readBranch 0 = .ok (.aload_n 0, 1) := by decide +kernel
theorem prd_R_readBranch_1 : decode prb_R_readBranch 1 = .ok (.dup, 1) := by decide +kernel
theorem prd_R_readBranch_2 : decode prb_R_readBranch 2 = .ok (.getfield 19, 3) := by decide +kernel
theorem prd_R_readBranch_5 : decode prb_R_readBranch 5 = .ok (.iconst 1, 1) := by decide +kernel
theorem prd_R_readBranch_6 : decode prb_R_readBranch 6 = .ok (.iadd, 1) := by decide +kernel
theorem prd_R_readBranch_7 : decode prb_R_readBranch 7 = .ok (.putfield 19, 3) := by decide +kernel
theorem prd_R_readBranch_10 : decode prb_R_readBranch 10 = .ok (.aload_n 0, 1) := by decide +kernel
theorem prd_R_readBranch_11 : decode prb_R_readBranch 11 = .ok (.bipush 12, 2) := by decide +kernel
theorem prd_R_readBranch_13 : decode prb_R_readBranch 13 = .ok (.invokevirtual 56, 3) := by decide +kernel
theorem prd_R_readBranch_16 : decode prb_R_readBranch 16 = .ok (.ifCond .eq 32, 3) := by decide +kernel
theorem prd_R_readBranch_48 : decode prb_R_readBranch 48 = .ok (.iconst 0, 1) := by decide +kernel
theorem prd_R_readBranch_49 : decode prb_R_readBranch 49 = .ok (.ireturn, 1) := by decide +kernel
theorem prd_R_readBranch_19 : decode prb_R_readBranch 19 = .ok (.aload_n 0, 1) := by decide +kernel
theorem prd_R_readBranch_20 : decode prb_R_readBranch 20 = .ok (.iload_n 3, 1) := by decide +kernel
theorem prd_R_readBranch_21 : decode prb_R_readBranch 21 = .ok (.iconst 1, 1) := by decide +kernel
theorem prd_R_readBranch_22 : decode prb_R_readBranch 22 = .ok (.iadd, 1) := by decide +kernel
theorem prd_R_readBranch_23 : decode prb_R_readBranch 23 = .ok (.invokevirtual 88, 3) := by decide +kernel
theorem prd_R_readBranch_26 : decode prb_R_readBranch 26 = .ok (.ifCond .eq 22, 3) := by decide +kernel
theorem prd_R_readBranch_29 : decode prb_R_readBranch 29 = .ok (.aload_n 0, 1) := by decide +kernel
theorem prd_R_readBranch_30 : decode prb_R_readBranch 30 = .ok (.bipush 13, 2) := by decide +kernel
theorem prd_R_readBranch_32 : decode prb_R_readBranch 32 = .ok (.invokevirtual 56, 3) := by decide +kernel
theorem prd_R_readBranch_35 : decode prb_R_readBranch 35 = .ok (.ifCond .eq 13, 3) := by decide +kernel
theorem prd_R_readBranch_38 : decode prb_R_readBranch 38 = .ok (.aload_n 0, 1) := by decide +kernel
theorem prd_R_readBranch_39 : decode prb_R_readBranch 39 = .ok (.iload_n 3, 1) := by decide +kernel
theorem prd_R_readBranch_40 : decode prb_R_readBranch 40 = .ok (.iconst 1, 1) := by decide +kernel
theorem prd_R_readBranch_41 : decode prb_R_readBranch 41 = .ok (.iadd, 1) := by decide +kernel
theorem prd_R_readBranch_42 : decode prb_R_readBranch 42 = .ok (.invokevirtual 41, 3) := by decide +kernel
theorem prd_R_readBranch_45 : decode prb_R_readBranch 45 = .ok (.ifCond .ne 5, 3) := by decide +kernel
theorem prd_R_readBranch_50 : decode prb_R_readBranch 50 = .ok (.aload_n 0, 1) := by decide +kernel
theorem prd_R_readBranch_51 : decode prb_R_readBranch 51 = .ok (.getfield 15, 3) := by decide +kernel
theorem prd_R_readBranch_54 : decode prb_R_readBranch 54 = .ok (.iload_n 1, 1) := by decide +kernel
theorem prd_R_readBranch_55 : decode prb_R_readBranch 55 = .ok (.invokevirtual 105, 3) := by decide +kernel
theorem prd_R_readBranch_58 : decode prb_R_readBranch 58 = .ok (.iload_n 2, 1) := by decide +kernel
theorem prd_R_readBranch_59 : decode prb_R_readBranch 59 = .ok (.bipush 6, 2) := by decide +kernel
theorem prd_R_readBranch_61 : decode prb_R_readBranch 61 = .ok (.if_icmp .eq 22, 3) := by decide +kernel
theorem prd_R_readBranch_83 : decode prb_R_readBranch 83 = .ok (.iconst 1, 1) := by decide +kernel
theorem prd_R_readBranch_84 : decode prb_R_readBranch 84 = .ok (.goto 4, 3) := by decide +kernel
theorem prd_R_readBranch_88 : decode prb_R_readBranch 88 = .ok (.ireturn, 1) := by decide +kernel
theorem prd_R_readBranch_64 : decode prb_R_readBranch 64 = .ok (.aload_n 0, 1) := by decide +kernel
theorem prd_R_readBranch_65 : decode prb_R_readBranch 65 = .ok (.bipush 7, 2) := by decide +kernel
theorem prd_R_readBranch_67 : decode prb_R_readBranch 67 = .ok (.invokevirtual 56, 3) := by decide +kernel
theorem prd_R_readBranch_70 : decode prb_R_readBranch 70 = .ok (.ifCond .eq 13, 3) := by decide +kernel
theorem prd_R_readBranch_73 : decode prb_R_readBranch 73 = .ok (.aload_n 0, 1) := by decide +kernel
theorem prd_R_readBranch_74 : decode prb_R_readBranch 74 = .ok (.iload_n 3, 1) := by decide +kernel
theorem prd_R_readBranch_75 : decode prb_R_readBranch 75 = .ok (.iconst 1, 1) := by decide +kernel
theorem prd_R_readBranch_76 : decode prb_R_readBranch 76 = .ok (.iadd, 1) := by decide +kernel
theorem prd_R_readBranch_77 : decode prb_R_readBranch 77 = .ok (.invokevirtual 41, 3) := by decide +kernel
theorem prd_R_readBranch_80 : decode prb_R_readBranch 80 = .ok (.ifCond .eq 7, 3) := by decide +kernel
theorem prd_R_readBranch_87 : decode prb_R_readBranch 87 = .ok (.iconst 0, 1) := by decide +kernel
theorem prd_R_readStatement_0 : decode prb_R_readStatement 0 = .ok (.aload_n 0, 1) := by decide +kernel
theorem prd_R_readStatement_1 : decode prb_R_readStatement 1 = .ok (.invokevirtual 69, 3) := by decide +kernel
theorem prd_R_readStatement_4 : decode prb_R_readStatement 4 = .ok (.istore_n 2, 1) := by decide +kernel
theorem prd_R_readStatement_5 : decode prb_R_readStatement 5 = .ok (.iload_n 2, 1) := by decide +kernel
theorem prd_R_readStatement_6 : decode prb_R_readStatement 6 = .ok (.ifCond .ne 7, 3) := by decide +kernel
theorem prd_R_readStatement_13 : decode prb_R_readStatement 13 = .ok (.aload_n 0, 1) := by decide +kernel
theorem prd_R_readStatement_14 : decode prb_R_readStatement 14 = .ok (.getfield 15, 3) := by decide +kernel
theorem prd_R_readStatement_17 : decode prb_R_readStatement 17 = .ok (.iload_n 2, 1) := by decide +kernel
theorem prd_R_readStatement_18 : decode prb_R_readStatement 18 = .ok (.aload_n 0, 1) := by decide +kernel
theorem prd_R_readStatement_19 : decode prb_R_readStatement 19 = .ok (.getfield 19, 3) := by decide +kernel
theorem prd_R_readStatement_22 : decode prb_R_readStatement 22 = .ok (.invokevirtual 72, 3) := by decide +kernel
theorem prd_R_readStatement_25 : decode prb_R_readStatement 25 = .ok (.istore_n 3, 1) := by decide +kernel
theorem prd_R_readStatement_26 : decode prb_R_readStatement 26 = .ok (.iload_n 3, 1) := by decide +kernel
theorem prd_R_readStatement_27 : decode prb_R_readStatement 27 = .ok (.iconst (-1), 1) := by decide +kernel
theorem prd_R_readStatement_28 : decode prb_R_readStatement 28 = .ok (.if_icmp .ne 5, 3) := by decide +kernel
theorem prd_R_readStatement_33 : decode prb_R_readStatement 33 = .ok (.iload_n 2, 1) := by decide +kernel
theorem prd_R_readStatement_34 : decode prb_R_readStatement 34 = .ok (.tableswitch 268 1 8 #[46, 73, 119, 146, 268, 268, 174, 230], 46) := by decide +kernel
theorem prd_R_readStatement_80 : decode prb_R_readStatement 80 = .ok (.aload_n 0, 1) := by decide +kernel
theorem prd_R_readStatement_81 : decode prb_R_readStatement 81 = .ok (.iload_n 1, 1) := by decide +kernel
theorem prd_R_readStatement_82 : decode prb_R_readStatement 82 = .ok (.invokevirtual 76, 3) := by decide +kernel
theorem prd_R_readStatement_85 : decode prb_R_readStatement 85 = .ok (.ifCond .eq 16, 3) := by decide +kernel
theorem prd_R_readStatement_101 : decode prb_R_readStatement 101 = .ok (.iconst 0, 1) := by decide +kernel
theorem prd_R_readStatement_102 : decode prb_R_readStatement 102 = .ok (.istore 4, 2) := by decide +kernel
theorem prd_R_readStatement_104 : decode prb_R_readStatement 104 = .ok (.goto 207, 3) := by decide +kernel
theorem prd_R_readStatement_311 : decode prb_R_readStatement 311 = .ok (.aload_n 0, 1) := by decide +kernel
theorem prd_R_readStatement_312 : decode prb_R_readStatement 312 = .ok (.getfield 15, 3) := by decide +kernel
theorem prd_R_readStatement_315 : decode prb_R_readStatement 315 = .ok (.iload_n 3, 1) := by decide +kernel
theorem prd_R_readStatement_316 : decode prb_R_readStatement 316 = .ok (.invokevirtual 95, 3) := by decide +kernel
theorem prd_R_readStatement_319 : decode prb_R_readStatement 319 = .ok (.aload_n 0, 1) := by decide +kernel
theorem prd_R_readStatement_320 : decode prb_R_readStatement 320 = .ok (.iload_n 2, 1) := by decide +kernel
theorem prd_R_readStatement_321 : decode prb_R_readStatement 321 = .ok (.putfield 34, 3) := by decide +kernel
theorem prd_R_readStatement_324 : decode prb_R_readStatement 324 = .ok (.iload 4, 2) := by decide +kernel
theorem prd_R_readStatement_326 : decode prb_R_readStatement 326 = .ok (.ireturn, 1) := by decide +kernel
theorem prd_R_readStatement_88 : decode prb_R_readStatement 88 = .ok (.aload_n 0, 1) := by decide +kernel
theorem prd_R_readStatement_89 : decode prb_R_readStatement 89 = .ok (.bipush 19, 2) := by decide +kernel
theorem prd_R_readStatement_91 : decode prb_R_readStatement 91 = .ok (.invokevirtual 56, 3) := by decide +kernel
theorem prd_R_readStatement_94 : decode prb_R_readStatement 94 = .ok (.ifCond .eq 7, 3) := by decide +kernel
theorem prd_R_readStatement_97 : decode prb_R_readStatement 97 = .ok (.iconst 1, 1) := by decide +kernel
theorem prd_R_readStatement_98 : decode prb_R_readStatement 98 = .ok (.goto 4, 3) := by decide +kernel
theorem prd_R_readStatement_107 : decode prb_R_readStatement 107 = .ok (.aload_n 0, 1) := by decide +kernel
theorem prd_R_readStatement_108 : decode prb_R_readStatement 108 = .ok (.iconst 2, 1) := by decide +kernel
theorem prd_R_readStatement_109 : decode prb_R_readStatement 109 = .ok (.invokevirtual 56, 3) := by decide +kernel
theorem prd_R_readStatement_112 : decode prb_R_readStatement 112 = .ok (.ifCond .eq 35, 3) := by decide +kernel
theorem prd_R_readStatement_147 : decode prb_R_readStatement 147 = .ok (.iconst 0, 1) := by decide +kernel
theorem prd_R_readStatement_148 : decode prb_R_readStatement 148 = .ok (.istore 4, 2) := by decide +kernel
theorem prd_R_readStatement_150 : decode prb_R_readStatement 150 = .ok (.goto 161, 3) := by decide +kernel
theorem prd_R_readStatement_115 : decode prb_R_readStatement 115 = .ok (.aload_n 0, 1) := by decide +kernel
theorem prd_R_readStatement_116 : decode prb_R_readStatement 116 = .ok (.bipush 20, 2) := by decide +kernel
theorem prd_R_readStatement_118 : decode prb_R_readStatement 118 = .ok (.invokevirtual 56, 3) := by decide +kernel
theorem prd_R_readStatement_121 : decode prb_R_readStatement 121 = .ok (.ifCond .eq 26, 3) := by decide +kernel
theorem prd_R_readStatement_124 : decode prb_R_readStatement 124 = .ok (.aload_n 0, 1) := by decide +kernel
theorem prd_R_readStatement_125 : decode prb_R_readStatement 125 = .ok (.iload_n 1, 1) := by decide +kernel
theorem prd_R_readStatement_126 : decode prb_R_readStatement 126 = .ok (.iconst 1, 1) := by decide +kernel
theorem prd_R_readStatement_127 : decode prb_R_readStatement 127 = .ok (.iadd, 1) := by decide +kernel
theorem prd_R_readStatement_128 : decode prb_R_readStatement 128 = .ok (.invokevirtual 79, 3) := by decide +kernel
theorem prd_R_readStatement_131 : decode prb_R_readStatement 131 = .ok (.ifCond .eq 16, 3) := by decide +kernel
theorem prd_R_readStatement_134 : decode prb_R_readStatement 134 = .ok (.aload_n 0, 1) := by decide +kernel
theorem prd_R_readStatement_135 : decode prb_R_readStatement 135 = .ok (.bipush 19, 2) := by decide +kernel
theorem prd_R_readStatement_137 : decode prb_R_readStatement 137 = .ok (.invokevirtual 56, 3) := by decide +kernel
theorem prd_R_readStatement_140 : decode prb_R_readStatement 140 = .ok (.ifCond .eq 7, 3) := by decide +kernel
theorem prd_R_readStatement_143 : decode prb_R_readStatement 143 = .ok (.iconst 1, 1) := by decide +kernel
theorem prd_R_readStatement_144 : decode prb_R_readStatement 144 = .ok (.goto 4, 3) := by decide +kernel
theorem prd_R_readStatement_153 : decode prb_R_readStatement 153 = .ok (.aload_n 0, 1) := by decide +kernel
theorem prd_R_readStatement_154 : decode prb_R_readStatement 154 = .ok (.iload_n 1, 1) := by decide +kernel
theorem prd_R_readStatement_155 : decode prb_R_readStatement 155 = .ok (.invokevirtual 82, 3) := by decide +kernel
theorem prd_R_readStatement_158 : decode prb_R_readStatement 158 = .ok (.ifCond .eq 16, 3) := by decide +kernel
theorem prd_R_readStatement_174 : decode prb_R_readStatement 174 = .ok (.iconst 0, 1) := by decide +kernel
theorem prd_R_readStatement_175 : decode prb_R_readStatement 175 = .ok (.istore 4, 2) := by decide +kernel
theorem prd_R_readStatement_177 : decode prb_R_readStatement 177 = .ok (.goto 134, 3) := by decide +kernel
theorem prd_R_readStatement_161 : decode prb_R_readStatement 161 = .ok (.aload_n 0, 1) := by decide +kernel
theorem prd_R_readStatement_162 : decode prb_R_readStatement 162 = .ok (.bipush 19, 2) := by decide +kernel
theorem prd_R_readStatement_164 : decode prb_R_readStatement 164 = .ok (.invokevirtual 56, 3) := by decide +kernel
theorem prd_R_readStatement_167 : decode prb_R_readStatement 167 = .ok (.ifCond .eq 7, 3) := by decide +kernel
theorem prd_R_readStatement_170 : decode prb_R_readStatement 170 = .ok (.iconst 1, 1) := by decide +kernel
theorem prd_R_readStatement_171 : decode prb_R_readStatement 171 = .ok (.goto 4, 3) := by decide +kernel
theorem prd_R_readStatement_180 : decode prb_R_readStatement 180 = .ok (.aload_n 0, 1) := by decide +kernel
theorem prd_R_readStatement_181 : decode prb_R_readStatement 181 = .ok (.iload_n 3, 1) := by decide +kernel
theorem prd_R_readStatement_182 : decode prb_R_readStatement 182 = .ok (.iload_n 1, 1) := by decide +kernel
theorem prd_R_readStatement_183 : decode prb_R_readStatement 183 = .ok (.invokevirtual 85, 3) := by decide +kernel
theorem prd_R_readStatement_186 : decode prb_R_readStatement 186 = .ok (.ifCond .eq 16, 3) := by decide +kernel
theorem prd_R_readStatement_202 : decode prb_R_readStatement 202 = .ok (.iconst 0, 1) := by decide +kernel
theorem prd_R_readStatement_203 : decode prb_R_readStatement 203 = .ok (.istore 4, 2) := by decide +kernel
theorem prd_R_readStatement_205 : decode prb_R_readStatement 205 = .ok (.goto 106, 3) := by decide +kernel
theorem prd_R_readStatement_189 : decode prb_R_readStatement 189 = .ok (.aload_n 0, 1) := by decide +kernel
theorem prd_R_readStatement_190 : decode prb_R_readStatement 190 = .ok (.bipush 19, 2) := by decide +kernel
theorem prd_R_readStatement_192 : decode prb_R_readStatement 192 = .ok (.invokevirtual 56, 3) := by decide +kernel
theorem prd_R_readStatement_195 : decode prb_R_readStatement 195 = .ok (.ifCond .eq 7, 3) := by decide +kernel
theorem prd_R_readStatement_198 : decode prb_R_readStatement 198 = .ok (.iconst 1, 1) := by decide +kernel
theorem prd_R_readStatement_199 : decode prb_R_readStatement 199 = .ok (.goto 4, 3) := by decide +kernel
theorem prd_R_readStatement_302 : decode prb_R_readStatement 302 = .ok (.aload_n 0, 1) := by decide +kernel
theorem prd_R_readStatement_303 : decode prb_R_readStatement 303 = .ok (.iload_n 3, 1) := by decide +kernel
theorem prd_R_readStatement_304 : decode prb_R_readStatement 304 = .ok (.iload_n 2, 1) := by decide +kernel
theorem prd_R_readStatement_305 : decode prb_R_readStatement 305 = .ok (.iload_n 1, 1) := by decide +kernel
theorem prd_R_readStatement_306 : decode prb_R_readStatement 306 = .ok (.invokevirtual 91, 3) := by decide +kernel
theorem prd_R_readStatement_309 : decode prb_R_readStatement 309 = .ok (.istore 4, 2) := by decide +kernel
theorem prd_R_readStatement_208 : decode prb_R_readStatement 208 = .ok (.aload_n 0, 1) := by decide +kernel
theorem prd_R_readStatement_209 : decode prb_R_readStatement 209 = .ok (.bipush 9, 2) := by decide +kernel
theorem prd_R_readStatement_211 : decode prb_R_readStatement 211 = .ok (.invokevirtual 56, 3) := by decide +kernel
theorem prd_R_readStatement_214 : decode prb_R_readStatement 214 = .ok (.ifCond .eq 44, 3) := by decide +kernel
theorem prd_R_readStatement_258 : decode prb_R_readStatement 258 = .ok (.iconst 0, 1) := by decide +kernel
theorem prd_R_readStatement_259 : decode prb_R_readStatement 259 = .ok (.istore 4, 2) := by decide +kernel
theorem prd_R_readStatement_261 : decode prb_R_readStatement 261 = .ok (.goto 50, 3) := by decide +kernel
theorem prd_R_readStatement_217 : decode prb_R_readStatement 217 = .ok (.aload_n 0, 1) := by decide +kernel
theorem prd_R_readStatement_218 : decode prb_R_readStatement 218 = .ok (.bipush 12, 2) := by decide +kernel
theorem prd_R_readStatement_220 : decode prb_R_readStatement 220 = .ok (.invokevirtual 56, 3) := by decide +kernel
theorem prd_R_readStatement_223 : decode prb_R_readStatement 223 = .ok (.ifCond .eq 35, 3) := by decide +kernel
theorem prd_R_readStatement_226 : decode prb_R_readStatement 226 = .ok (.aload_n 0, 1) := by decide +kernel
theorem prd_R_readStatement_227 : decode prb_R_readStatement 227 = .ok (.iload_n 1, 1) := by decide +kernel
theorem prd_R_readStatement_228 : decode prb_R_readStatement 228 = .ok (.iconst 1, 1) := by decide +kernel
theorem prd_R_readStatement_229 : decode prb_R_readStatement 229 = .ok (.iadd, 1) := by decide +kernel
theorem prd_R_readStatement_230 : decode prb_R_readStatement 230 = .ok (.invokevirtual 88, 3) := by decide +kernel
theorem prd_R_readStatement_233 : decode prb_R_readStatement 233 = .ok (.ifCond .eq 25, 3) := by decide +kernel
theorem prd_R_readStatement_236 : decode prb_R_readStatement 236 = .ok (.aload_n 0, 1) := by decide +kernel
theorem prd_R_readStatement_237 : decode prb_R_readStatement 237 = .ok (.bipush 13, 2) := by decide +kernel
theorem prd_R_readStatement_239 : decode prb_R_readStatement 239 = .ok (.invokevirtual 56, 3) := by decide +kernel
theorem prd_R_readStatement_242 : decode prb_R_readStatement 242 = .ok (.ifCond .eq 16, 3) := by decide +kernel
theorem prd_R_readStatement_245 : decode prb_R_readStatement 245 = .ok (.aload_n 0, 1) := by decide +kernel
theorem prd_R_readStatement_246 : decode prb_R_readStatement 246 = .ok (.bipush 19, 2) := by decide +kernel
theorem prd_R_readStatement_248 : decode prb_R_readStatement 248 = .ok (.invokevirtual 56, 3) := by decide +kernel
theorem prd_R_readStatement_251 : decode prb_R_readStatement 251 = .ok (.ifCond .eq 7, 3) := by decide +kernel
theorem prd_R_readStatement_254 : decode prb_R_readStatement 254 = .ok (.iconst 1, 1) := by decide +kernel
theorem prd_R_readStatement_255 : decode prb_R_readStatement 255 = .ok (.goto 4, 3) := by decide +kernel
theorem prd_R_readStatement_264 : decode prb_R_readStatement 264 = .ok (.aload_n 0, 1) := by decide +kernel
theorem prd_R_readStatement_265 : decode prb_R_readStatement 265 = .ok (.bipush 10, 2) := by decide +kernel
theorem prd_R_readStatement_267 : decode prb_R_readStatement 267 = .ok (.invokevirtual 56, 3) := by decide +kernel
theorem prd_R_readStatement_270 : decode prb_R_readStatement 270 = .ok (.ifCond .eq 26, 3) := by decide +kernel
theorem prd_R_readStatement_296 : decode prb_R_readStatement 296 = .ok (.iconst 0, 1) := by decide +kernel
theorem prd_R_readStatement_297 : decode prb_R_readStatement 297 = .ok (.istore 4, 2) := by decide +kernel
theorem prd_R_readStatement_299 : decode prb_R_readStatement 299 = .ok (.goto 12, 3) := by decide +kernel
theorem prd_R_readStatement_273 : decode prb_R_readStatement 273 = .ok (.aload_n 0, 1) := by decide +kernel
theorem prd_R_readStatement_274 : decode prb_R_readStatement 274 = .ok (.iload_n 1, 1) := by decide +kernel
theorem prd_R_readStatement_275 : decode prb_R_readStatement 275 = .ok (.iconst 1, 1) := by decide +kernel
theorem prd_R_readStatement_276 : decode prb_R_readStatement 276 = .ok (.iadd, 1) := by decide +kernel
theorem prd_R_readStatement_277 : decode prb_R_readStatement 277 = .ok (.invokevirtual 79, 3) := by decide +kernel
theorem prd_R_readStatement_280 : decode prb_R_readStatement 280 = .ok (.ifCond .eq 16, 3) := by decide +kernel
theorem prd_R_readStatement_283 : decode prb_R_readStatement 283 = .ok (.aload_n 0, 1) := by decide +kernel
theorem prd_R_readStatement_284 : decode prb_R_readStatement 284 = .ok (.bipush 19, 2) := by decide +kernel
theorem prd_R_readStatement_286 : decode prb_R_readStatement 286 = .ok (.invokevirtual 56, 3) := by decide +kernel
theorem prd_R_readStatement_289 : decode prb_R_readStatement 289 = .ok (.ifCond .eq 7, 3) := by decide +kernel
theorem prd_R_readStatement_292 : decode prb_R_readStatement 292 = .ok (.iconst 1, 1) := by decide +kernel
theorem prd_R_readStatement_293 : decode prb_R_readStatement 293 = .ok (.goto 4, 3) := by decide +kernel
theorem prd_R_readStatement_31 : decode prb_R_readStatement 31 = .ok (.iconst 0, 1) := by decide +kernel
theorem prd_R_readStatement_32 : decode prb_R_readStatement 32 = .ok (.ireturn, 1) := by decide +kernel
theorem prd_R_readStatement_9 : decode prb_R_readStatement 9 = .ok (.iconst (-1), 1) := by decide +kernel
theorem prd_R_readStatement_10 : decode prb_R_readStatement 10 = .ok (.goto 15, 3) := by decide +kernel
theorem prd_R_readText_0 : decode prb_R_readText 0 = .ok (.aload_n 0, 1) := by decide +kernel
theorem prd_R_readText_1 : decode prb_R_readText 1 = .ok (.iconst 0, 1) := by decide +kernel
theorem prd_R_readText_2 : decode prb_R_readText 2 = .ok (.putfield 19, 3) := by decide +kernel
theorem prd_R_readText_5 : decode prb_R_readText 5 = .ok (.aload_n 0, 1) := by decide +kernel
theorem prd_R_readText_6 : decode prb_R_readText 6 = .ok (.getfield 15, 3) := by decide +kernel
theorem prd_R_readText_9 : decode prb_R_readText 9 = .ok (.invokevirtual 29, 3) := by decide +kernel
theorem prd_R_readText_12 : decode prb_R_readText 12 = .ok (.iconst 0, 1) := by decide +kernel
theorem prd_R_readText_13 : decode prb_R_readText 13 = .ok (.istore_n 1, 1) := by decide +kernel
theorem prd_R_readText_14 : decode prb_R_readText 14 = .ok (.iload_n 1, 1) := by decide +kernel
theorem prd_R_readText_15 : decode prb_R_readText 15 = .ok (.sipush 889, 3) := by decide +kernel
theorem prd_R_readText_18 : decode prb_R_readText 18 = .ok (.if_icmp .ge 61, 3) := by decide +kernel
theorem prd_R_readText_79 : decode prb_R_readText 79 = .ok (.iconst 0, 1) := by decide +kernel
theorem prd_R_readText_80 : decode prb_R_readText 80 = .ok (.ireturn, 1) := by decide +kernel
theorem prd_R_readText_21 : decode prb_R_readText 21 = .ok (.aload_n 0, 1) := by decide +kernel
theorem prd_R_readText_22 : decode prb_R_readText 22 = .ok (.iconst 0, 1) := by decide +kernel
theorem prd_R_readText_23 : decode prb_R_readText 23 = .ok (.putfield 34, 3) := by decide +kernel
theorem prd_R_readText_26 : decode prb_R_readText 26 = .ok (.aload_n 0, 1) := by decide +kernel
theorem prd_R_readText_27 : decode prb_R_readText 27 = .ok (.invokevirtual 37, 3) := by decide +kernel
theorem prd_R_readText_30 : decode prb_R_readText 30 = .ok (.ifCond .eq 11, 3) := by decide +kernel
theorem prd_R_readText_41 : decode prb_R_readText 41 = .ok (.iconst 0, 1) := by decide +kernel
theorem prd_R_readText_42 : decode prb_R_readText 42 = .ok (.ireturn, 1) := by decide +kernel
theorem prd_R_readText_33 : decode prb_R_readText 33 = .ok (.aload_n 0, 1) := by decide +kernel
theorem prd_R_readText_34 : decode prb_R_readText 34 = .ok (.iconst 1, 1) := by decide +kernel
theorem prd_R_readText_35 : decode prb_R_readText 35 = .ok (.invokevirtual 41, 3) := by decide +kernel
theorem prd_R_readText_38 : decode prb_R_readText 38 = .ok (.ifCond .ne 5, 3) := by decide +kernel
theorem prd_R_readText_43 : decode prb_R_readText 43 = .ok (.aload_n 0, 1) := by decide +kernel
theorem prd_R_readText_44 : decode prb_R_readText 44 = .ok (.getfield 15, 3) := by decide +kernel
theorem prd_R_readText_47 : decode prb_R_readText 47 = .ok (.aload_n 0, 1) := by decide +kernel
theorem prd_R_readText_48 : decode prb_R_readText 48 = .ok (.getfield 34, 3) := by decide +kernel
theorem prd_R_readText_51 : decode prb_R_readText 51 = .ok (.bipush 8, 2) := by decide +kernel
theorem prd_R_readText_53 : decode prb_R_readText 53 = .ok (.if_icmp .ne 7, 3) := by decide +kernel
theorem prd_R_readText_60 : decode prb_R_readText 60 = .ok (.iconst 0, 1) := by decide +kernel
theorem prd_R_readText_61 : decode prb_R_readText 61 = .ok (.invokevirtual 45, 3) := by decide +kernel
theorem prd_R_readText_64 : decode prb_R_readText 64 = .ok (.aload_n 0, 1) := by decide +kernel
theorem prd_R_readText_65 : decode prb_R_readText 65 = .ok (.invokevirtual 49, 3) := by decide +kernel
theorem prd_R_readText_68 : decode prb_R_readText 68 = .ok (.ifCond .ne 5, 3) := by decide +kernel
theorem prd_R_readText_73 : decode prb_R_readText 73 = .ok (.iinc 1 1, 3) := by decide +kernel
theorem prd_R_readText_76 : decode prb_R_readText 76 = .ok (.goto (-62), 3) := by decide +kernel
theorem prd_R_readText_71 : decode prb_R_readText 71 = .ok (.iconst 1, 1) := by decide +kernel
theorem prd_R_readText_72 : decode prb_R_readText 72 = .ok (.ireturn, 1) := by decide +kernel
theorem prd_R_readText_56 : decode prb_R_readText 56 = .ok (.iconst 1, 1) := by decide +kernel
theorem prd_R_readText_57 : decode prb_R_readText 57 = .ok (.goto 4, 3) := by decide +kernel
theorem prd_R_faultPlace_0 : decode prb_R_faultPlace 0 = .ok (.aload_n 0, 1) := by decide +kernel
theorem prd_R_faultPlace_1 : decode prb_R_faultPlace 1 = .ok (.getfield 9, 3) := by decide +kernel
theorem prd_R_faultPlace_4 : decode prb_R_faultPlace 4 = .ok (.aload_n 0, 1) := by decide +kernel
theorem prd_R_faultPlace_5 : decode prb_R_faultPlace 5 = .ok (.getfield 19, 3) := by decide +kernel
theorem prd_R_faultPlace_8 : decode prb_R_faultPlace 8 = .ok (.invokevirtual 23, 3) := by decide +kernel
theorem prd_R_faultPlace_11 : decode prb_R_faultPlace 11 = .ok (.ireturn, 1) := by decide +kernel
